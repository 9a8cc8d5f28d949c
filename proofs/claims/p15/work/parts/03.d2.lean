theorem dX10_cell_22 : decode cX10_cell 22 = .ok (.ireturn, 1) := dq_X10_cell_0.2.2.2.2.2.2.2.2.2.2.2.1
theorem dX10_cell_23 : decode cX10_cell 23 = .ok (.aload_n 0, 1) := dq_X10_cell_0.2.2.2.2.2.2.2.2.2.2.2.2.1
theorem dX10_cell_24 : decode cX10_cell 24 = .ok (.getfield 26, 3) := dq_X10_cell_0.2.2.2.2.2.2.2.2.2.2.2.2.2.1
theorem dX10_cell_27 : decode cX10_cell 27 = .ok (.iload_n 1, 1) := dq_X10_cell_0.2.2.2.2.2.2.2.2.2.2.2.2.2.2.1
theorem dX10_cell_28 : decode cX10_cell 28 = .ok (.iload_n 2, 1) := dq_X10_cell_0.2.2.2.2.2.2.2.2.2.2.2.2.2.2.2
theorem dq_X10_cell_29 : (decode cX10_cell 29 = .ok (.iload_n 3, 1)) ∧ (decode cX10_cell 30 = .ok (.iload 4, 2)) ∧ (decode cX10_cell 32 = .ok (.invokevirtual 162, 3)) ∧ (decode cX10_cell 35 = .ok (.iconst 1, 1)) ∧ (decode cX10_cell 36 = .ok (.ireturn, 1)) := by decide +kernel
theorem dX10_cell_29 : decode cX10_cell 29 = .ok (.iload_n 3, 1) := dq_X10_cell_29.1
theorem dX10_cell_30 : decode cX10_cell 30 = .ok (.iload 4, 2) := dq_X10_cell_29.2.1
theorem dX10_cell_32 : decode cX10_cell 32 = .ok (.invokevirtual 162, 3) := dq_X10_cell_29.2.2.1
theorem dX10_cell_35 : decode cX10_cell 35 = .ok (.iconst 1, 1) := dq_X10_cell_29.2.2.2.1
theorem dX10_cell_36 : decode cX10_cell 36 = .ok (.ireturn, 1) := dq_X10_cell_29.2.2.2.2
theorem dq_X10_cellOf_0 : (decode cX10_cellOf 0 = .ok (.iload_n 1, 1)) ∧ (decode cX10_cellOf 1 = .ok (.iload_n 2, 1)) ∧ (decode cX10_cellOf 2 = .ok (.iload_n 3, 1)) ∧ (decode cX10_cellOf 3 = .ok (.invokestatic 158, 3)) ∧ (decode cX10_cellOf 6 = .ok (.ifCond .eq 16, 3)) ∧ (decode cX10_cellOf 9 = .ok (.aload_n 0, 1)) ∧ (decode cX10_cellOf 10 = .ok (.getfield 26, 3)) ∧ (decode cX10_cellOf 13 = .ok (.iload_n 1, 1)) ∧ (decode cX10_cellOf 14 = .ok (.iload_n 2, 1)) ∧ (decode cX10_cellOf 15 = .ok (.iload_n 3, 1)) ∧ (decode cX10_cellOf 16 = .ok (.invokevirtual 165, 3)) ∧ (decode cX10_cellOf 19 = .ok (.goto 4, 3)) ∧ (decode cX10_cellOf 22 = .ok (.iconst (-1), 1)) ∧ (decode cX10_cellOf 23 = .ok (.ireturn, 1)) := by decide +kernel
theorem dX10_cellOf_0 : decode cX10_cellOf 0 = .ok (.iload_n 1, 1) := dq_X10_cellOf_0.1
theorem dX10_cellOf_1 : decode cX10_cellOf 1 = .ok (.iload_n 2, 1) := dq_X10_cellOf_0.2.1
theorem dX10_cellOf_2 : decode cX10_cellOf 2 = .ok (.iload_n 3, 1) := dq_X10_cellOf_0.2.2.1
theorem dX10_cellOf_3 : decode cX10_cellOf 3 = .ok (.invokestatic 158, 3) := dq_X10_cellOf_0.2.2.2.1
theorem dX10_cellOf_6 : decode cX10_cellOf 6 = .ok (.ifCond .eq 16, 3) := dq_X10_cellOf_0.2.2.2.2.1
theorem dX10_cellOf_9 : decode cX10_cellOf 9 = .ok (.aload_n 0, 1) := dq_X10_cellOf_0.2.2.2.2.2.1
theorem dX10_cellOf_10 : decode cX10_cellOf 10 = .ok (.getfield 26, 3) := dq_X10_cellOf_0.2.2.2.2.2.2.1
theorem dX10_cellOf_13 : decode cX10_cellOf 13 = .ok (.iload_n 1, 1) := dq_X10_cellOf_0.2.2.2.2.2.2.2.1
theorem dX10_cellOf_14 : decode cX10_cellOf 14 = .ok (.iload_n 2, 1) := dq_X10_cellOf_0.2.2.2.2.2.2.2.2.1
theorem dX10_cellOf_15 : decode cX10_cellOf 15 = .ok (.iload_n 3, 1) := dq_X10_cellOf_0.2.2.2.2.2.2.2.2.2.1
theorem dX10_cellOf_16 : decode cX10_cellOf 16 = .ok (.invokevirtual 165, 3) := dq_X10_cellOf_0.2.2.2.2.2.2.2.2.2.2.1
theorem dX10_cellOf_19 : decode cX10_cellOf 19 = .ok (.goto 4, 3) := dq_X10_cellOf_0.2.2.2.2.2.2.2.2.2.2.2.1
theorem dX10_cellOf_22 : decode cX10_cellOf 22 = .ok (.iconst (-1), 1) := dq_X10_cellOf_0.2.2.2.2.2.2.2.2.2.2.2.2.1
theorem dX10_cellOf_23 : decode cX10_cellOf 23 = .ok (.ireturn, 1) := dq_X10_cellOf_0.2.2.2.2.2.2.2.2.2.2.2.2.2
theorem dq_X10_place_0 : (decode cX10_place 0 = .ok (.iload_n 1, 1)) ∧ (decode cX10_place 1 = .ok (.sipush 128, 3)) ∧ (decode cX10_place 4 = .ok (.invokestatic 78, 3)) ∧ (decode cX10_place 7 = .ok (.ifCond .eq 12, 3)) ∧ (decode cX10_place 10 = .ok (.iload_n 2, 1)) ∧ (decode cX10_place 11 = .ok (.bipush 8, 2)) ∧ (decode cX10_place 13 = .ok (.invokestatic 78, 3)) ∧ (decode cX10_place 16 = .ok (.ifCond .ne 5, 3)) ∧ (decode cX10_place 19 = .ok (.iconst 0, 1)) ∧ (decode cX10_place 20 = .ok (.ireturn, 1)) ∧ (decode cX10_place 21 = .ok (.aload_n 0, 1)) ∧ (decode cX10_place 22 = .ok (.getfield 26, 3)) ∧ (decode cX10_place 25 = .ok (.getfield 168, 3)) ∧ (decode cX10_place 28 = .ok (.iload_n 1, 1)) ∧ (decode cX10_place 29 = .ok (.iload_n 2, 1)) ∧ (decode cX10_place 30 = .ok (.iastore, 1)) := by decide +kernel
theorem dX10_place_0 : decode cX10_place 0 = .ok (.iload_n 1, 1) := dq_X10_place_0.1
theorem dX10_place_1 : decode cX10_place 1 = .ok (.sipush 128, 3) := dq_X10_place_0.2.1
theorem dX10_place_4 : decode cX10_place 4 = .ok (.invokestatic 78, 3) := dq_X10_place_0.2.2.1
theorem dX10_place_7 : decode cX10_place 7 = .ok (.ifCond .eq 12, 3) := dq_X10_place_0.2.2.2.1
theorem dX10_place_10 : decode cX10_place 10 = .ok (.iload_n 2, 1) := dq_X10_place_0.2.2.2.2.1
theorem dX10_place_11 : decode cX10_place 11 = .ok (.bipush 8, 2) := dq_X10_place_0.2.2.2.2.2.1
theorem dX10_place_13 : decode cX10_place 13 = .ok (.invokestatic 78, 3) := dq_X10_place_0.2.2.2.2.2.2.1
theorem dX10_place_16 : decode cX10_place 16 = .ok (.ifCond .ne 5, 3) := dq_X10_place_0.2.2.2.2.2.2.2.1
theorem dX10_place_19 : decode cX10_place 19 = .ok (.iconst 0, 1) := dq_X10_place_0.2.2.2.2.2.2.2.2.1
theorem dX10_place_20 : decode cX10_place 20 = .ok (.ireturn, 1) := dq_X10_place_0.2.2.2.2.2.2.2.2.2.1
theorem dX10_place_21 : decode cX10_place 21 = .ok (.aload_n 0, 1) := dq_X10_place_0.2.2.2.2.2.2.2.2.2.2.1
theorem dX10_place_22 : decode cX10_place 22 = .ok (.getfield 26, 3) := dq_X10_place_0.2.2.2.2.2.2.2.2.2.2.2.1
theorem dX10_place_25 : decode cX10_place 25 = .ok (.getfield 168, 3) := dq_X10_place_0.2.2.2.2.2.2.2.2.2.2.2.2.1
theorem dX10_place_28 : decode cX10_place 28 = .ok (.iload_n 1, 1) := dq_X10_place_0.2.2.2.2.2.2.2.2.2.2.2.2.2.1
theorem dX10_place_29 : decode cX10_place 29 = .ok (.iload_n 2, 1) := dq_X10_place_0.2.2.2.2.2.2.2.2.2.2.2.2.2.2.1
theorem dX10_place_30 : decode cX10_place 30 = .ok (.iastore, 1) := dq_X10_place_0.2.2.2.2.2.2.2.2.2.2.2.2.2.2.2
theorem dq_X10_place_31 : (decode cX10_place 31 = .ok (.iconst 1, 1)) ∧ (decode cX10_place 32 = .ok (.ireturn, 1)) := by decide +kernel
theorem dX10_place_31 : decode cX10_place 31 = .ok (.iconst 1, 1) := dq_X10_place_31.1
theorem dX10_place_32 : decode cX10_place 32 = .ok (.ireturn, 1) := dq_X10_place_31.2
theorem dq_X10_song_0 : (decode cX10_song 0 = .ok (.iload_n 1, 1)) ∧ (decode cX10_song 1 = .ok (.iconst 1, 1)) ∧ (decode cX10_song 2 = .ok (.if_icmp .lt 21, 3)) ∧ (decode cX10_song 5 = .ok (.iload_n 1, 1)) ∧ (decode cX10_song 6 = .ok (.sipush 128, 3)) ∧ (decode cX10_song 9 = .ok (.if_icmp .gt 14, 3)) ∧ (decode cX10_song 12 = .ok (.iload_n 2, 1)) ∧ (decode cX10_song 13 = .ok (.ifCond .lt 10, 3)) ∧ (decode cX10_song 16 = .ok (.iload_n 2, 1)) ∧ (decode cX10_song 17 = .ok (.sipush 255, 3)) ∧ (decode cX10_song 20 = .ok (.if_icmp .le 5, 3)) ∧ (decode cX10_song 23 = .ok (.iconst 0, 1)) ∧ (decode cX10_song 24 = .ok (.ireturn, 1)) ∧ (decode cX10_song 25 = .ok (.aload_n 0, 1)) ∧ (decode cX10_song 26 = .ok (.getfield 26, 3)) ∧ (decode cX10_song 29 = .ok (.iload_n 1, 1)) := by decide +kernel
theorem dX10_song_0 : decode cX10_song 0 = .ok (.iload_n 1, 1) := dq_X10_song_0.1
theorem dX10_song_1 : decode cX10_song 1 = .ok (.iconst 1, 1) := dq_X10_song_0.2.1
theorem dX10_song_2 : decode cX10_song 2 = .ok (.if_icmp .lt 21, 3) := dq_X10_song_0.2.2.1
theorem dX10_song_5 : decode cX10_song 5 = .ok (.iload_n 1, 1) := dq_X10_song_0.2.2.2.1
theorem dX10_song_6 : decode cX10_song 6 = .ok (.sipush 128, 3) := dq_X10_song_0.2.2.2.2.1
theorem dX10_song_9 : decode cX10_song 9 = .ok (.if_icmp .gt 14, 3) := dq_X10_song_0.2.2.2.2.2.1
theorem dX10_song_12 : decode cX10_song 12 = .ok (.iload_n 2, 1) := dq_X10_song_0.2.2.2.2.2.2.1
theorem dX10_song_13 : decode cX10_song 13 = .ok (.ifCond .lt 10, 3) := dq_X10_song_0.2.2.2.2.2.2.2.1
theorem dX10_song_16 : decode cX10_song 16 = .ok (.iload_n 2, 1) := dq_X10_song_0.2.2.2.2.2.2.2.2.1
theorem dX10_song_17 : decode cX10_song 17 = .ok (.sipush 255, 3) := dq_X10_song_0.2.2.2.2.2.2.2.2.2.1
theorem dX10_song_20 : decode cX10_song 20 = .ok (.if_icmp .le 5, 3) := dq_X10_song_0.2.2.2.2.2.2.2.2.2.2.1
theorem dX10_song_23 : decode cX10_song 23 = .ok (.iconst 0, 1) := dq_X10_song_0.2.2.2.2.2.2.2.2.2.2.2.1
theorem dX10_song_24 : decode cX10_song 24 = .ok (.ireturn, 1) := dq_X10_song_0.2.2.2.2.2.2.2.2.2.2.2.2.1
theorem dX10_song_25 : decode cX10_song 25 = .ok (.aload_n 0, 1) := dq_X10_song_0.2.2.2.2.2.2.2.2.2.2.2.2.2.1
theorem dX10_song_26 : decode cX10_song 26 = .ok (.getfield 26, 3) := dq_X10_song_0.2.2.2.2.2.2.2.2.2.2.2.2.2.2.1
theorem dX10_song_29 : decode cX10_song 29 = .ok (.iload_n 1, 1) := dq_X10_song_0.2.2.2.2.2.2.2.2.2.2.2.2.2.2.2
theorem dq_X10_song_30 : (decode cX10_song 30 = .ok (.putfield 172, 3)) ∧ (decode cX10_song 33 = .ok (.aload_n 0, 1)) ∧ (decode cX10_song 34 = .ok (.getfield 26, 3)) ∧ (decode cX10_song 37 = .ok (.iload_n 2, 1)) ∧ (decode cX10_song 38 = .ok (.putfield 173, 3)) ∧ (decode cX10_song 41 = .ok (.iconst 1, 1)) ∧ (decode cX10_song 42 = .ok (.ireturn, 1)) := by decide +kernel
theorem dX10_song_30 : decode cX10_song 30 = .ok (.putfield 172, 3) := dq_X10_song_30.1
theorem dX10_song_33 : decode cX10_song 33 = .ok (.aload_n 0, 1) := dq_X10_song_30.2.1
theorem dX10_song_34 : decode cX10_song 34 = .ok (.getfield 26, 3) := dq_X10_song_30.2.2.1
theorem dX10_song_37 : decode cX10_song 37 = .ok (.iload_n 2, 1) := dq_X10_song_30.2.2.2.1
theorem dX10_song_38 : decode cX10_song 38 = .ok (.putfield 173, 3) := dq_X10_song_30.2.2.2.2.1
theorem dX10_song_41 : decode cX10_song 41 = .ok (.iconst 1, 1) := dq_X10_song_30.2.2.2.2.2.1
theorem dX10_song_42 : decode cX10_song 42 = .ok (.ireturn, 1) := dq_X10_song_30.2.2.2.2.2.2
theorem dq_X10_start_0 : (decode cX10_start 0 = .ok (.aload_n 0, 1)) ∧ (decode cX10_start 1 = .ok (.invokevirtual 68, 3)) ∧ (decode cX10_start 4 = .ok (.return_, 1)) := by decide +kernel
theorem dX10_start_0 : decode cX10_start 0 = .ok (.aload_n 0, 1) := dq_X10_start_0.1
theorem dX10_start_1 : decode cX10_start 1 = .ok (.invokevirtual 68, 3) := dq_X10_start_0.2.1
theorem dX10_start_4 : decode cX10_start 4 = .ok (.return_, 1) := dq_X10_start_0.2.2
theorem dq_X10_mute_0 : (decode cX10_mute 0 = .ok (.iload_n 1, 1)) ∧ (decode cX10_mute 1 = .ok (.iconst 4, 1)) ∧ (decode cX10_mute 2 = .ok (.invokestatic 78, 3)) ∧ (decode cX10_mute 5 = .ok (.ifCond .ne 5, 3)) ∧ (decode cX10_mute 8 = .ok (.iconst 0, 1)) ∧ (decode cX10_mute 9 = .ok (.ireturn, 1)) ∧ (decode cX10_mute 10 = .ok (.aload_n 0, 1)) ∧ (decode cX10_mute 11 = .ok (.getfield 48, 3)) ∧ (decode cX10_mute 14 = .ok (.iload_n 1, 1)) ∧ (decode cX10_mute 15 = .ok (.aaload, 1)) ∧ (decode cX10_mute 16 = .ok (.getfield 176, 3)) ∧ (decode cX10_mute 19 = .ok (.istore_n 3, 1)) ∧ (decode cX10_mute 20 = .ok (.aload_n 0, 1)) ∧ (decode cX10_mute 21 = .ok (.getfield 48, 3)) ∧ (decode cX10_mute 24 = .ok (.iload_n 1, 1)) ∧ (decode cX10_mute 25 = .ok (.aaload, 1)) := by decide +kernel
theorem dX10_mute_0 : decode cX10_mute 0 = .ok (.iload_n 1, 1) := dq_X10_mute_0.1
theorem dX10_mute_1 : decode cX10_mute 1 = .ok (.iconst 4, 1) := dq_X10_mute_0.2.1
theorem dX10_mute_2 : decode cX10_mute 2 = .ok (.invokestatic 78, 3) := dq_X10_mute_0.2.2.1
theorem dX10_mute_5 : decode cX10_mute 5 = .ok (.ifCond .ne 5, 3) := dq_X10_mute_0.2.2.2.1
theorem dX10_mute_8 : decode cX10_mute 8 = .ok (.iconst 0, 1) := dq_X10_mute_0.2.2.2.2.1
theorem dX10_mute_9 : decode cX10_mute 9 = .ok (.ireturn, 1) := dq_X10_mute_0.2.2.2.2.2.1
theorem dX10_mute_10 : decode cX10_mute 10 = .ok (.aload_n 0, 1) := dq_X10_mute_0.2.2.2.2.2.2.1
theorem dX10_mute_11 : decode cX10_mute 11 = .ok (.getfield 48, 3) := dq_X10_mute_0.2.2.2.2.2.2.2.1
theorem dX10_mute_14 : decode cX10_mute 14 = .ok (.iload_n 1, 1) := dq_X10_mute_0.2.2.2.2.2.2.2.2.1
theorem dX10_mute_15 : decode cX10_mute 15 = .ok (.aaload, 1) := dq_X10_mute_0.2.2.2.2.2.2.2.2.2.1
theorem dX10_mute_16 : decode cX10_mute 16 = .ok (.getfield 176, 3) := dq_X10_mute_0.2.2.2.2.2.2.2.2.2.2.1
theorem dX10_mute_19 : decode cX10_mute 19 = .ok (.istore_n 3, 1) := dq_X10_mute_0.2.2.2.2.2.2.2.2.2.2.2.1
theorem dX10_mute_20 : decode cX10_mute 20 = .ok (.aload_n 0, 1) := dq_X10_mute_0.2.2.2.2.2.2.2.2.2.2.2.2.1
theorem dX10_mute_21 : decode cX10_mute 21 = .ok (.getfield 48, 3) := dq_X10_mute_0.2.2.2.2.2.2.2.2.2.2.2.2.2.1
theorem dX10_mute_24 : decode cX10_mute 24 = .ok (.iload_n 1, 1) := dq_X10_mute_0.2.2.2.2.2.2.2.2.2.2.2.2.2.2.1
theorem dX10_mute_25 : decode cX10_mute 25 = .ok (.aaload, 1) := dq_X10_mute_0.2.2.2.2.2.2.2.2.2.2.2.2.2.2.2
theorem dq_X10_mute_26 : (decode cX10_mute 26 = .ok (.iload_n 2, 1)) ∧ (decode cX10_mute 27 = .ok (.putfield 176, 3)) ∧ (decode cX10_mute 30 = .ok (.iload_n 3, 1)) ∧ (decode cX10_mute 31 = .ok (.ireturn, 1)) := by decide +kernel
theorem dX10_mute_26 : decode cX10_mute 26 = .ok (.iload_n 2, 1) := dq_X10_mute_26.1
theorem dX10_mute_27 : decode cX10_mute 27 = .ok (.putfield 176, 3) := dq_X10_mute_26.2.1
theorem dX10_mute_30 : decode cX10_mute 30 = .ok (.iload_n 3, 1) := dq_X10_mute_26.2.2.1
theorem dX10_mute_31 : decode cX10_mute 31 = .ok (.ireturn, 1) := dq_X10_mute_26.2.2.2
theorem dq_X10_play_0 : (decode cX10_play 0 = .ok (.iload_n 1, 1)) ∧ (decode cX10_play 1 = .ok (.ifCond .lt 10, 3)) ∧ (decode cX10_play 4 = .ok (.iload_n 1, 1)) ∧ (decode cX10_play 5 = .ok (.sipush 400, 3)) ∧ (decode cX10_play 8 = .ok (.if_icmp .le 5, 3)) ∧ (decode cX10_play 11 = .ok (.iconst (-1), 1)) ∧ (decode cX10_play 12 = .ok (.ireturn, 1)) ∧ (decode cX10_play 13 = .ok (.iconst 0, 1)) ∧ (decode cX10_play 14 = .ok (.istore_n 2, 1)) ∧ (decode cX10_play 15 = .ok (.iload_n 2, 1)) ∧ (decode cX10_play 16 = .ok (.iload_n 1, 1)) ∧ (decode cX10_play 17 = .ok (.if_icmp .ge 13, 3)) ∧ (decode cX10_play 20 = .ok (.aload_n 0, 1)) ∧ (decode cX10_play 21 = .ok (.invokevirtual 180, 3)) ∧ (decode cX10_play 24 = .ok (.iinc 2 1, 3)) ∧ (decode cX10_play 27 = .ok (.goto (-12), 3)) := by decide +kernel
theorem dX10_play_0 : decode cX10_play 0 = .ok (.iload_n 1, 1) := dq_X10_play_0.1
theorem dX10_play_1 : decode cX10_play 1 = .ok (.ifCond .lt 10, 3) := dq_X10_play_0.2.1
theorem dX10_play_4 : decode cX10_play 4 = .ok (.iload_n 1, 1) := dq_X10_play_0.2.2.1
theorem dX10_play_5 : decode cX10_play 5 = .ok (.sipush 400, 3) := dq_X10_play_0.2.2.2.1
theorem dX10_play_8 : decode cX10_play 8 = .ok (.if_icmp .le 5, 3) := dq_X10_play_0.2.2.2.2.1
theorem dX10_play_11 : decode cX10_play 11 = .ok (.iconst (-1), 1) := dq_X10_play_0.2.2.2.2.2.1
theorem dX10_play_12 : decode cX10_play 12 = .ok (.ireturn, 1) := dq_X10_play_0.2.2.2.2.2.2.1
theorem dX10_play_13 : decode cX10_play 13 = .ok (.iconst 0, 1) := dq_X10_play_0.2.2.2.2.2.2.2.1
theorem dX10_play_14 : decode cX10_play 14 = .ok (.istore_n 2, 1) := dq_X10_play_0.2.2.2.2.2.2.2.2.1
theorem dX10_play_15 : decode cX10_play 15 = .ok (.iload_n 2, 1) := dq_X10_play_0.2.2.2.2.2.2.2.2.2.1
theorem dX10_play_16 : decode cX10_play 16 = .ok (.iload_n 1, 1) := dq_X10_play_0.2.2.2.2.2.2.2.2.2.2.1
theorem dX10_play_17 : decode cX10_play 17 = .ok (.if_icmp .ge 13, 3) := dq_X10_play_0.2.2.2.2.2.2.2.2.2.2.2.1
theorem dX10_play_20 : decode cX10_play 20 = .ok (.aload_n 0, 1) := dq_X10_play_0.2.2.2.2.2.2.2.2.2.2.2.2.1
theorem dX10_play_21 : decode cX10_play 21 = .ok (.invokevirtual 180, 3) := dq_X10_play_0.2.2.2.2.2.2.2.2.2.2.2.2.2.1
theorem dX10_play_24 : decode cX10_play 24 = .ok (.iinc 2 1, 3) := dq_X10_play_0.2.2.2.2.2.2.2.2.2.2.2.2.2.2.1
theorem dX10_play_27 : decode cX10_play 27 = .ok (.goto (-12), 3) := dq_X10_play_0.2.2.2.2.2.2.2.2.2.2.2.2.2.2.2
theorem dq_X10_play_30 : (decode cX10_play 30 = .ok (.aload_n 0, 1)) ∧ (decode cX10_play 31 = .ok (.getfield 42, 3)) ∧ (decode cX10_play 34 = .ok (.getfield 183, 3)) ∧ (decode cX10_play 37 = .ok (.ireturn, 1)) := by decide +kernel
theorem dX10_play_30 : decode cX10_play 30 = .ok (.aload_n 0, 1) := dq_X10_play_30.1
theorem dX10_play_31 : decode cX10_play 31 = .ok (.getfield 42, 3) := dq_X10_play_30.2.1
theorem dX10_play_34 : decode cX10_play 34 = .ok (.getfield 183, 3) := dq_X10_play_30.2.2.1
theorem dX10_play_37 : decode cX10_play 37 = .ok (.ireturn, 1) := dq_X10_play_30.2.2.2
theorem dq_X10_now_0 : (decode cX10_now 0 = .ok (.aload_n 0, 1)) ∧ (decode cX10_now 1 = .ok (.getfield 42, 3)) ∧ (decode cX10_now 4 = .ok (.getfield 183, 3)) ∧ (decode cX10_now 7 = .ok (.ifCond .ne 14, 3)) ∧ (decode cX10_now 10 = .ok (.iload_n 1, 1)) ∧ (decode cX10_now 11 = .ok (.ifCond .lt 10, 3)) ∧ (decode cX10_now 14 = .ok (.iload_n 1, 1)) ∧ (decode cX10_now 15 = .ok (.iconst 3, 1)) ∧ (decode cX10_now 16 = .ok (.if_icmp .gt 5, 3)) ∧ (decode cX10_now 19 = .ok (.iconst (-1), 1)) ∧ (decode cX10_now 20 = .ok (.ireturn, 1)) ∧ (decode cX10_now 21 = .ok (.iload_n 1, 1)) ∧ (decode cX10_now 22 = .ok (.tableswitch 122 0 8 #[50, 58, 66, 74, 82, 90, 98, 106, 114], 50)) ∧ (decode cX10_now 72 = .ok (.aload_n 0, 1)) ∧ (decode cX10_now 73 = .ok (.getfield 42, 3)) ∧ (decode cX10_now 76 = .ok (.getfield 186, 3)) := by decide +kernel
theorem dX10_now_0 : decode cX10_now 0 = .ok (.aload_n 0, 1) := dq_X10_now_0.1
theorem dX10_now_1 : decode cX10_now 1 = .ok (.getfield 42, 3) := dq_X10_now_0.2.1
theorem dX10_now_4 : decode cX10_now 4 = .ok (.getfield 183, 3) := dq_X10_now_0.2.2.1
theorem dX10_now_7 : decode cX10_now 7 = .ok (.ifCond .ne 14, 3) := dq_X10_now_0.2.2.2.1
theorem dX10_now_10 : decode cX10_now 10 = .ok (.iload_n 1, 1) := dq_X10_now_0.2.2.2.2.1
theorem dX10_now_11 : decode cX10_now 11 = .ok (.ifCond .lt 10, 3) := dq_X10_now_0.2.2.2.2.2.1
theorem dX10_now_14 : decode cX10_now 14 = .ok (.iload_n 1, 1) := dq_X10_now_0.2.2.2.2.2.2.1
theorem dX10_now_15 : decode cX10_now 15 = .ok (.iconst 3, 1) := dq_X10_now_0.2.2.2.2.2.2.2.1
theorem dX10_now_16 : decode cX10_now 16 = .ok (.if_icmp .gt 5, 3) := dq_X10_now_0.2.2.2.2.2.2.2.2.1
theorem dX10_now_19 : decode cX10_now 19 = .ok (.iconst (-1), 1) := dq_X10_now_0.2.2.2.2.2.2.2.2.2.1
theorem dX10_now_20 : decode cX10_now 20 = .ok (.ireturn, 1) := dq_X10_now_0.2.2.2.2.2.2.2.2.2.2.1
theorem dX10_now_21 : decode cX10_now 21 = .ok (.iload_n 1, 1) := dq_X10_now_0.2.2.2.2.2.2.2.2.2.2.2.1
theorem dX10_now_22 : decode cX10_now 22 = .ok (.tableswitch 122 0 8 #[50, 58, 66, 74, 82, 90, 98, 106, 114], 50) := dq_X10_now_0.2.2.2.2.2.2.2.2.2.2.2.2.1
theorem dX10_now_72 : decode cX10_now 72 = .ok (.aload_n 0, 1) := dq_X10_now_0.2.2.2.2.2.2.2.2.2.2.2.2.2.1
theorem dX10_now_73 : decode cX10_now 73 = .ok (.getfield 42, 3) := dq_X10_now_0.2.2.2.2.2.2.2.2.2.2.2.2.2.2.1
theorem dX10_now_76 : decode cX10_now 76 = .ok (.getfield 186, 3) := dq_X10_now_0.2.2.2.2.2.2.2.2.2.2.2.2.2.2.2
theorem dq_X10_now_79 : (decode cX10_now 79 = .ok (.ireturn, 1)) ∧ (decode cX10_now 80 = .ok (.aload_n 0, 1)) ∧ (decode cX10_now 81 = .ok (.getfield 42, 3)) ∧ (decode cX10_now 84 = .ok (.getfield 189, 3)) ∧ (decode cX10_now 87 = .ok (.ireturn, 1)) ∧ (decode cX10_now 88 = .ok (.aload_n 0, 1)) ∧ (decode cX10_now 89 = .ok (.getfield 42, 3)) ∧ (decode cX10_now 92 = .ok (.getfield 192, 3)) ∧ (decode cX10_now 95 = .ok (.ireturn, 1)) ∧ (decode cX10_now 96 = .ok (.aload_n 0, 1)) ∧ (decode cX10_now 97 = .ok (.getfield 64, 3)) ∧ (decode cX10_now 100 = .ok (.getfield 195, 3)) ∧ (decode cX10_now 103 = .ok (.ireturn, 1)) ∧ (decode cX10_now 104 = .ok (.aload_n 0, 1)) ∧ (decode cX10_now 105 = .ok (.getfield 42, 3)) ∧ (decode cX10_now 108 = .ok (.getfield 198, 3)) := by decide +kernel
theorem dX10_now_79 : decode cX10_now 79 = .ok (.ireturn, 1) := dq_X10_now_79.1
theorem dX10_now_80 : decode cX10_now 80 = .ok (.aload_n 0, 1) := dq_X10_now_79.2.1
theorem dX10_now_81 : decode cX10_now 81 = .ok (.getfield 42, 3) := dq_X10_now_79.2.2.1
theorem dX10_now_84 : decode cX10_now 84 = .ok (.getfield 189, 3) := dq_X10_now_79.2.2.2.1
theorem dX10_now_87 : decode cX10_now 87 = .ok (.ireturn, 1) := dq_X10_now_79.2.2.2.2.1
theorem dX10_now_88 : decode cX10_now 88 = .ok (.aload_n 0, 1) := dq_X10_now_79.2.2.2.2.2.1
theorem dX10_now_89 : decode cX10_now 89 = .ok (.getfield 42, 3) := dq_X10_now_79.2.2.2.2.2.2.1
theorem dX10_now_92 : decode cX10_now 92 = .ok (.getfield 192, 3) := dq_X10_now_79.2.2.2.2.2.2.2.1
theorem dX10_now_95 : decode cX10_now 95 = .ok (.ireturn, 1) := dq_X10_now_79.2.2.2.2.2.2.2.2.1
theorem dX10_now_96 : decode cX10_now 96 = .ok (.aload_n 0, 1) := dq_X10_now_79.2.2.2.2.2.2.2.2.2.1
theorem dX10_now_97 : decode cX10_now 97 = .ok (.getfield 64, 3) := dq_X10_now_79.2.2.2.2.2.2.2.2.2.2.1
theorem dX10_now_100 : decode cX10_now 100 = .ok (.getfield 195, 3) := dq_X10_now_79.2.2.2.2.2.2.2.2.2.2.2.1
theorem dX10_now_103 : decode cX10_now 103 = .ok (.ireturn, 1) := dq_X10_now_79.2.2.2.2.2.2.2.2.2.2.2.2.1
theorem dX10_now_104 : decode cX10_now 104 = .ok (.aload_n 0, 1) := dq_X10_now_79.2.2.2.2.2.2.2.2.2.2.2.2.2.1
theorem dX10_now_105 : decode cX10_now 105 = .ok (.getfield 42, 3) := dq_X10_now_79.2.2.2.2.2.2.2.2.2.2.2.2.2.2.1
theorem dX10_now_108 : decode cX10_now 108 = .ok (.getfield 198, 3) := dq_X10_now_79.2.2.2.2.2.2.2.2.2.2.2.2.2.2.2
theorem dq_X10_now_111 : (decode cX10_now 111 = .ok (.ireturn, 1)) ∧ (decode cX10_now 112 = .ok (.aload_n 0, 1)) ∧ (decode cX10_now 113 = .ok (.getfield 42, 3)) ∧ (decode cX10_now 116 = .ok (.getfield 201, 3)) ∧ (decode cX10_now 119 = .ok (.ireturn, 1)) ∧ (decode cX10_now 120 = .ok (.aload_n 0, 1)) ∧ (decode cX10_now 121 = .ok (.getfield 42, 3)) ∧ (decode cX10_now 124 = .ok (.getfield 204, 3)) ∧ (decode cX10_now 127 = .ok (.ireturn, 1)) ∧ (decode cX10_now 128 = .ok (.aload_n 0, 1)) ∧ (decode cX10_now 129 = .ok (.getfield 64, 3)) ∧ (decode cX10_now 132 = .ok (.getfield 207, 3)) ∧ (decode cX10_now 135 = .ok (.ireturn, 1)) ∧ (decode cX10_now 136 = .ok (.aload_n 0, 1)) ∧ (decode cX10_now 137 = .ok (.getfield 42, 3)) ∧ (decode cX10_now 140 = .ok (.getfield 183, 3)) := by decide +kernel
theorem dX10_now_111 : decode cX10_now 111 = .ok (.ireturn, 1) := dq_X10_now_111.1
theorem dX10_now_112 : decode cX10_now 112 = .ok (.aload_n 0, 1) := dq_X10_now_111.2.1
theorem dX10_now_113 : decode cX10_now 113 = .ok (.getfield 42, 3) := dq_X10_now_111.2.2.1
theorem dX10_now_116 : decode cX10_now 116 = .ok (.getfield 201, 3) := dq_X10_now_111.2.2.2.1
theorem dX10_now_119 : decode cX10_now 119 = .ok (.ireturn, 1) := dq_X10_now_111.2.2.2.2.1
theorem dX10_now_120 : decode cX10_now 120 = .ok (.aload_n 0, 1) := dq_X10_now_111.2.2.2.2.2.1
theorem dX10_now_121 : decode cX10_now 121 = .ok (.getfield 42, 3) := dq_X10_now_111.2.2.2.2.2.2.1
theorem dX10_now_124 : decode cX10_now 124 = .ok (.getfield 204, 3) := dq_X10_now_111.2.2.2.2.2.2.2.1
theorem dX10_now_127 : decode cX10_now 127 = .ok (.ireturn, 1) := dq_X10_now_111.2.2.2.2.2.2.2.2.1
theorem dX10_now_128 : decode cX10_now 128 = .ok (.aload_n 0, 1) := dq_X10_now_111.2.2.2.2.2.2.2.2.2.1
theorem dX10_now_129 : decode cX10_now 129 = .ok (.getfield 64, 3) := dq_X10_now_111.2.2.2.2.2.2.2.2.2.2.1
theorem dX10_now_132 : decode cX10_now 132 = .ok (.getfield 207, 3) := dq_X10_now_111.2.2.2.2.2.2.2.2.2.2.2.1
theorem dX10_now_135 : decode cX10_now 135 = .ok (.ireturn, 1) := dq_X10_now_111.2.2.2.2.2.2.2.2.2.2.2.2.1
theorem dX10_now_136 : decode cX10_now 136 = .ok (.aload_n 0, 1) := dq_X10_now_111.2.2.2.2.2.2.2.2.2.2.2.2.2.1
theorem dX10_now_137 : decode cX10_now 137 = .ok (.getfield 42, 3) := dq_X10_now_111.2.2.2.2.2.2.2.2.2.2.2.2.2.2.1
theorem dX10_now_140 : decode cX10_now 140 = .ok (.getfield 183, 3) := dq_X10_now_111.2.2.2.2.2.2.2.2.2.2.2.2.2.2.2
theorem dq_X10_now_143 : (decode cX10_now 143 = .ok (.ireturn, 1)) ∧ (decode cX10_now 144 = .ok (.iconst (-1), 1)) ∧ (decode cX10_now 145 = .ok (.ireturn, 1)) := by decide +kernel
theorem dX10_now_143 : decode cX10_now 143 = .ok (.ireturn, 1) := dq_X10_now_143.1
theorem dX10_now_144 : decode cX10_now 144 = .ok (.iconst (-1), 1) := dq_X10_now_143.2.1
theorem dX10_now_145 : decode cX10_now 145 = .ok (.ireturn, 1) := dq_X10_now_143.2.2
theorem dq_X10_channel_0 : (decode cX10_channel 0 = .ok (.iload_n 1, 1)) ∧ (decode cX10_channel 1 = .ok (.iconst 4, 1)) ∧ (decode cX10_channel 2 = .ok (.invokestatic 78, 3)) ∧ (decode cX10_channel 5 = .ok (.ifCond .ne 5, 3)) ∧ (decode cX10_channel 8 = .ok (.iconst (-1), 1)) ∧ (decode cX10_channel 9 = .ok (.ireturn, 1)) ∧ (decode cX10_channel 10 = .ok (.aload_n 0, 1)) ∧ (decode cX10_channel 11 = .ok (.getfield 48, 3)) ∧ (decode cX10_channel 14 = .ok (.iload_n 1, 1)) ∧ (decode cX10_channel 15 = .ok (.aaload, 1)) ∧ (decode cX10_channel 16 = .ok (.astore_n 3, 1)) ∧ (decode cX10_channel 17 = .ok (.iload_n 2, 1)) ∧ (decode cX10_channel 18 = .ok (.tableswitch 163 0 13 #[70, 75, 80, 85, 94, 107, 112, 117, 122, 127, 137, 145, 153, 158], 70)) ∧ (decode cX10_channel 88 = .ok (.aload_n 3, 1)) ∧ (decode cX10_channel 89 = .ok (.getfield 210, 3)) ∧ (decode cX10_channel 92 = .ok (.ireturn, 1)) := by decide +kernel
theorem dX10_channel_0 : decode cX10_channel 0 = .ok (.iload_n 1, 1) := dq_X10_channel_0.1
theorem dX10_channel_1 : decode cX10_channel 1 = .ok (.iconst 4, 1) := dq_X10_channel_0.2.1
theorem dX10_channel_2 : decode cX10_channel 2 = .ok (.invokestatic 78, 3) := dq_X10_channel_0.2.2.1
theorem dX10_channel_5 : decode cX10_channel 5 = .ok (.ifCond .ne 5, 3) := dq_X10_channel_0.2.2.2.1
theorem dX10_channel_8 : decode cX10_channel 8 = .ok (.iconst (-1), 1) := dq_X10_channel_0.2.2.2.2.1
theorem dX10_channel_9 : decode cX10_channel 9 = .ok (.ireturn, 1) := dq_X10_channel_0.2.2.2.2.2.1
theorem dX10_channel_10 : decode cX10_channel 10 = .ok (.aload_n 0, 1) := dq_X10_channel_0.2.2.2.2.2.2.1
theorem dX10_channel_11 : decode cX10_channel 11 = .ok (.getfield 48, 3) := dq_X10_channel_0.2.2.2.2.2.2.2.1
theorem dX10_channel_14 : decode cX10_channel 14 = .ok (.iload_n 1, 1) := dq_X10_channel_0.2.2.2.2.2.2.2.2.1
theorem dX10_channel_15 : decode cX10_channel 15 = .ok (.aaload, 1) := dq_X10_channel_0.2.2.2.2.2.2.2.2.2.1
theorem dX10_channel_16 : decode cX10_channel 16 = .ok (.astore_n 3, 1) := dq_X10_channel_0.2.2.2.2.2.2.2.2.2.2.1
theorem dX10_channel_17 : decode cX10_channel 17 = .ok (.iload_n 2, 1) := dq_X10_channel_0.2.2.2.2.2.2.2.2.2.2.2.1
theorem dX10_channel_18 : decode cX10_channel 18 = .ok (.tableswitch 163 0 13 #[70, 75, 80, 85, 94, 107, 112, 117, 122, 127, 137, 145, 153, 158], 70) := dq_X10_channel_0.2.2.2.2.2.2.2.2.2.2.2.2.1
theorem dX10_channel_88 : decode cX10_channel 88 = .ok (.aload_n 3, 1) := dq_X10_channel_0.2.2.2.2.2.2.2.2.2.2.2.2.2.1
theorem dX10_channel_89 : decode cX10_channel 89 = .ok (.getfield 210, 3) := dq_X10_channel_0.2.2.2.2.2.2.2.2.2.2.2.2.2.2.1
theorem dX10_channel_92 : decode cX10_channel 92 = .ok (.ireturn, 1) := dq_X10_channel_0.2.2.2.2.2.2.2.2.2.2.2.2.2.2.2
theorem dq_X10_channel_93 : (decode cX10_channel 93 = .ok (.aload_n 3, 1)) ∧ (decode cX10_channel 94 = .ok (.getfield 213, 3)) ∧ (decode cX10_channel 97 = .ok (.ireturn, 1)) ∧ (decode cX10_channel 98 = .ok (.aload_n 3, 1)) ∧ (decode cX10_channel 99 = .ok (.getfield 216, 3)) ∧ (decode cX10_channel 102 = .ok (.ireturn, 1)) ∧ (decode cX10_channel 103 = .ok (.aload_n 3, 1)) ∧ (decode cX10_channel 104 = .ok (.getfield 219, 3)) ∧ (decode cX10_channel 107 = .ok (.bipush 16, 2)) ∧ (decode cX10_channel 109 = .ok (.lshr, 1)) ∧ (decode cX10_channel 110 = .ok (.l2i, 1)) ∧ (decode cX10_channel 111 = .ok (.ireturn, 1)) ∧ (decode cX10_channel 112 = .ok (.aload_n 3, 1)) ∧ (decode cX10_channel 113 = .ok (.getfield 222, 3)) ∧ (decode cX10_channel 116 = .ok (.ifCond .eq 7, 3)) ∧ (decode cX10_channel 119 = .ok (.iconst 1, 1)) := by decide +kernel
theorem dX10_channel_93 : decode cX10_channel 93 = .ok (.aload_n 3, 1) := dq_X10_channel_93.1
theorem dX10_channel_94 : decode cX10_channel 94 = .ok (.getfield 213, 3) := dq_X10_channel_93.2.1
theorem dX10_channel_97 : decode cX10_channel 97 = .ok (.ireturn, 1) := dq_X10_channel_93.2.2.1
theorem dX10_channel_98 : decode cX10_channel 98 = .ok (.aload_n 3, 1) := dq_X10_channel_93.2.2.2.1
theorem dX10_channel_99 : decode cX10_channel 99 = .ok (.getfield 216, 3) := dq_X10_channel_93.2.2.2.2.1
theorem dX10_channel_102 : decode cX10_channel 102 = .ok (.ireturn, 1) := dq_X10_channel_93.2.2.2.2.2.1
theorem dX10_channel_103 : decode cX10_channel 103 = .ok (.aload_n 3, 1) := dq_X10_channel_93.2.2.2.2.2.2.1
theorem dX10_channel_104 : decode cX10_channel 104 = .ok (.getfield 219, 3) := dq_X10_channel_93.2.2.2.2.2.2.2.1
theorem dX10_channel_107 : decode cX10_channel 107 = .ok (.bipush 16, 2) := dq_X10_channel_93.2.2.2.2.2.2.2.2.1
theorem dX10_channel_109 : decode cX10_channel 109 = .ok (.lshr, 1) := dq_X10_channel_93.2.2.2.2.2.2.2.2.2.1
theorem dX10_channel_110 : decode cX10_channel 110 = .ok (.l2i, 1) := dq_X10_channel_93.2.2.2.2.2.2.2.2.2.2.1
theorem dX10_channel_111 : decode cX10_channel 111 = .ok (.ireturn, 1) := dq_X10_channel_93.2.2.2.2.2.2.2.2.2.2.2.1
theorem dX10_channel_112 : decode cX10_channel 112 = .ok (.aload_n 3, 1) := dq_X10_channel_93.2.2.2.2.2.2.2.2.2.2.2.2.1
theorem dX10_channel_113 : decode cX10_channel 113 = .ok (.getfield 222, 3) := dq_X10_channel_93.2.2.2.2.2.2.2.2.2.2.2.2.2.1
theorem dX10_channel_116 : decode cX10_channel 116 = .ok (.ifCond .eq 7, 3) := dq_X10_channel_93.2.2.2.2.2.2.2.2.2.2.2.2.2.2.1
theorem dX10_channel_119 : decode cX10_channel 119 = .ok (.iconst 1, 1) := dq_X10_channel_93.2.2.2.2.2.2.2.2.2.2.2.2.2.2.2
theorem dq_X10_channel_120 : (decode cX10_channel 120 = .ok (.goto 4, 3)) ∧ (decode cX10_channel 123 = .ok (.iconst 0, 1)) ∧ (decode cX10_channel 124 = .ok (.ireturn, 1)) ∧ (decode cX10_channel 125 = .ok (.aload_n 3, 1)) ∧ (decode cX10_channel 126 = .ok (.getfield 225, 3)) ∧ (decode cX10_channel 129 = .ok (.ireturn, 1)) ∧ (decode cX10_channel 130 = .ok (.aload_n 3, 1)) ∧ (decode cX10_channel 131 = .ok (.getfield 228, 3)) ∧ (decode cX10_channel 134 = .ok (.ireturn, 1)) ∧ (decode cX10_channel 135 = .ok (.aload_n 3, 1)) ∧ (decode cX10_channel 136 = .ok (.getfield 231, 3)) ∧ (decode cX10_channel 139 = .ok (.ireturn, 1)) ∧ (decode cX10_channel 140 = .ok (.aload_n 3, 1)) ∧ (decode cX10_channel 141 = .ok (.getfield 234, 3)) ∧ (decode cX10_channel 144 = .ok (.ireturn, 1)) ∧ (decode cX10_channel 145 = .ok (.aload_n 3, 1)) := by decide +kernel
theorem dX10_channel_120 : decode cX10_channel 120 = .ok (.goto 4, 3) := dq_X10_channel_120.1
theorem dX10_channel_123 : decode cX10_channel 123 = .ok (.iconst 0, 1) := dq_X10_channel_120.2.1
theorem dX10_channel_124 : decode cX10_channel 124 = .ok (.ireturn, 1) := dq_X10_channel_120.2.2.1
theorem dX10_channel_125 : decode cX10_channel 125 = .ok (.aload_n 3, 1) := dq_X10_channel_120.2.2.2.1
theorem dX10_channel_126 : decode cX10_channel 126 = .ok (.getfield 225, 3) := dq_X10_channel_120.2.2.2.2.1
theorem dX10_channel_129 : decode cX10_channel 129 = .ok (.ireturn, 1) := dq_X10_channel_120.2.2.2.2.2.1
theorem dX10_channel_130 : decode cX10_channel 130 = .ok (.aload_n 3, 1) := dq_X10_channel_120.2.2.2.2.2.2.1
theorem dX10_channel_131 : decode cX10_channel 131 = .ok (.getfield 228, 3) := dq_X10_channel_120.2.2.2.2.2.2.2.1
theorem dX10_channel_134 : decode cX10_channel 134 = .ok (.ireturn, 1) := dq_X10_channel_120.2.2.2.2.2.2.2.2.1
theorem dX10_channel_135 : decode cX10_channel 135 = .ok (.aload_n 3, 1) := dq_X10_channel_120.2.2.2.2.2.2.2.2.2.1
theorem dX10_channel_136 : decode cX10_channel 136 = .ok (.getfield 231, 3) := dq_X10_channel_120.2.2.2.2.2.2.2.2.2.2.1
theorem dX10_channel_139 : decode cX10_channel 139 = .ok (.ireturn, 1) := dq_X10_channel_120.2.2.2.2.2.2.2.2.2.2.2.1
theorem dX10_channel_140 : decode cX10_channel 140 = .ok (.aload_n 3, 1) := dq_X10_channel_120.2.2.2.2.2.2.2.2.2.2.2.2.1
theorem dX10_channel_141 : decode cX10_channel 141 = .ok (.getfield 234, 3) := dq_X10_channel_120.2.2.2.2.2.2.2.2.2.2.2.2.2.1
theorem dX10_channel_144 : decode cX10_channel 144 = .ok (.ireturn, 1) := dq_X10_channel_120.2.2.2.2.2.2.2.2.2.2.2.2.2.2.1
theorem dX10_channel_145 : decode cX10_channel 145 = .ok (.aload_n 3, 1) := dq_X10_channel_120.2.2.2.2.2.2.2.2.2.2.2.2.2.2.2
theorem dq_X10_channel_146 : (decode cX10_channel 146 = .ok (.getfield 219, 3)) ∧ (decode cX10_channel 149 = .ok (.ldc2_w 237, 3)) ∧ (decode cX10_channel 152 = .ok (.land, 1)) ∧ (decode cX10_channel 153 = .ok (.l2i, 1)) ∧ (decode cX10_channel 154 = .ok (.ireturn, 1)) ∧ (decode cX10_channel 155 = .ok (.aload_n 3, 1)) ∧ (decode cX10_channel 156 = .ok (.getfield 239, 3)) ∧ (decode cX10_channel 159 = .ok (.getfield 243, 3)) ∧ (decode cX10_channel 162 = .ok (.ireturn, 1)) ∧ (decode cX10_channel 163 = .ok (.aload_n 3, 1)) ∧ (decode cX10_channel 164 = .ok (.getfield 246, 3)) ∧ (decode cX10_channel 167 = .ok (.getfield 243, 3)) ∧ (decode cX10_channel 170 = .ok (.ireturn, 1)) ∧ (decode cX10_channel 171 = .ok (.aload_n 3, 1)) ∧ (decode cX10_channel 172 = .ok (.getfield 249, 3)) ∧ (decode cX10_channel 175 = .ok (.ireturn, 1)) := by decide +kernel
theorem dX10_channel_146 : decode cX10_channel 146 = .ok (.getfield 219, 3) := dq_X10_channel_146.1
theorem dX10_channel_149 : decode cX10_channel 149 = .ok (.ldc2_w 237, 3) := dq_X10_channel_146.2.1
theorem dX10_channel_152 : decode cX10_channel 152 = .ok (.land, 1) := dq_X10_channel_146.2.2.1
theorem dX10_channel_153 : decode cX10_channel 153 = .ok (.l2i, 1) := dq_X10_channel_146.2.2.2.1
theorem dX10_channel_154 : decode cX10_channel 154 = .ok (.ireturn, 1) := dq_X10_channel_146.2.2.2.2.1
theorem dX10_channel_155 : decode cX10_channel 155 = .ok (.aload_n 3, 1) := dq_X10_channel_146.2.2.2.2.2.1
theorem dX10_channel_156 : decode cX10_channel 156 = .ok (.getfield 239, 3) := dq_X10_channel_146.2.2.2.2.2.2.1
theorem dX10_channel_159 : decode cX10_channel 159 = .ok (.getfield 243, 3) := dq_X10_channel_146.2.2.2.2.2.2.2.1
theorem dX10_channel_162 : decode cX10_channel 162 = .ok (.ireturn, 1) := dq_X10_channel_146.2.2.2.2.2.2.2.2.1
theorem dX10_channel_163 : decode cX10_channel 163 = .ok (.aload_n 3, 1) := dq_X10_channel_146.2.2.2.2.2.2.2.2.2.1
theorem dX10_channel_164 : decode cX10_channel 164 = .ok (.getfield 246, 3) := dq_X10_channel_146.2.2.2.2.2.2.2.2.2.2.1
theorem dX10_channel_167 : decode cX10_channel 167 = .ok (.getfield 243, 3) := dq_X10_channel_146.2.2.2.2.2.2.2.2.2.2.2.1
theorem dX10_channel_170 : decode cX10_channel 170 = .ok (.ireturn, 1) := dq_X10_channel_146.2.2.2.2.2.2.2.2.2.2.2.2.1
theorem dX10_channel_171 : decode cX10_channel 171 = .ok (.aload_n 3, 1) := dq_X10_channel_146.2.2.2.2.2.2.2.2.2.2.2.2.2.1
theorem dX10_channel_172 : decode cX10_channel 172 = .ok (.getfield 249, 3) := dq_X10_channel_146.2.2.2.2.2.2.2.2.2.2.2.2.2.2.1
theorem dX10_channel_175 : decode cX10_channel 175 = .ok (.ireturn, 1) := dq_X10_channel_146.2.2.2.2.2.2.2.2.2.2.2.2.2.2.2
theorem dq_X10_channel_176 : (decode cX10_channel 176 = .ok (.aload_n 3, 1)) ∧ (decode cX10_channel 177 = .ok (.getfield 252, 3)) ∧ (decode cX10_channel 180 = .ok (.ireturn, 1)) ∧ (decode cX10_channel 181 = .ok (.iconst (-1), 1)) ∧ (decode cX10_channel 182 = .ok (.ireturn, 1)) := by decide +kernel
theorem dX10_channel_176 : decode cX10_channel 176 = .ok (.aload_n 3, 1) := dq_X10_channel_176.1
theorem dX10_channel_177 : decode cX10_channel 177 = .ok (.getfield 252, 3) := dq_X10_channel_176.2.1
theorem dX10_channel_180 : decode cX10_channel 180 = .ok (.ireturn, 1) := dq_X10_channel_176.2.2.1
theorem dX10_channel_181 : decode cX10_channel 181 = .ok (.iconst (-1), 1) := dq_X10_channel_176.2.2.2.1
theorem dX10_channel_182 : decode cX10_channel 182 = .ok (.ireturn, 1) := dq_X10_channel_176.2.2.2.2
theorem dq_X10_frame_0 : (decode cX10_frame 0 = .ok (.iload_n 1, 1)) ∧ (decode cX10_frame 1 = .ok (.aload_n 0, 1)) ∧ (decode cX10_frame 2 = .ok (.getfield 64, 3)) ∧ (decode cX10_frame 5 = .ok (.getfield 195, 3)) ∧ (decode cX10_frame 8 = .ok (.invokestatic 78, 3)) ∧ (decode cX10_frame 11 = .ok (.ifCond .ne 5, 3)) ∧ (decode cX10_frame 14 = .ok (.iconst 0, 1)) ∧ (decode cX10_frame 15 = .ok (.ireturn, 1)) ∧ (decode cX10_frame 16 = .ok (.iload_n 2, 1)) ∧ (decode cX10_frame 17 = .ok (.lookupswitch 47 #[(0, 27), (1, 37)], 27)) ∧ (decode cX10_frame 44 = .ok (.aload_n 0, 1)) ∧ (decode cX10_frame 45 = .ok (.getfield 64, 3)) ∧ (decode cX10_frame 48 = .ok (.getfield 255, 3)) ∧ (decode cX10_frame 51 = .ok (.iload_n 1, 1)) ∧ (decode cX10_frame 52 = .ok (.iaload, 1)) ∧ (decode cX10_frame 53 = .ok (.ireturn, 1)) := by decide +kernel
theorem dX10_frame_0 : decode cX10_frame 0 = .ok (.iload_n 1, 1) := dq_X10_frame_0.1
theorem dX10_frame_1 : decode cX10_frame 1 = .ok (.aload_n 0, 1) := dq_X10_frame_0.2.1
theorem dX10_frame_2 : decode cX10_frame 2 = .ok (.getfield 64, 3) := dq_X10_frame_0.2.2.1
theorem dX10_frame_5 : decode cX10_frame 5 = .ok (.getfield 195, 3) := dq_X10_frame_0.2.2.2.1
theorem dX10_frame_8 : decode cX10_frame 8 = .ok (.invokestatic 78, 3) := dq_X10_frame_0.2.2.2.2.1
theorem dX10_frame_11 : decode cX10_frame 11 = .ok (.ifCond .ne 5, 3) := dq_X10_frame_0.2.2.2.2.2.1
theorem dX10_frame_14 : decode cX10_frame 14 = .ok (.iconst 0, 1) := dq_X10_frame_0.2.2.2.2.2.2.1
theorem dX10_frame_15 : decode cX10_frame 15 = .ok (.ireturn, 1) := dq_X10_frame_0.2.2.2.2.2.2.2.1
theorem dX10_frame_16 : decode cX10_frame 16 = .ok (.iload_n 2, 1) := dq_X10_frame_0.2.2.2.2.2.2.2.2.1
theorem dX10_frame_17 : decode cX10_frame 17 = .ok (.lookupswitch 47 #[(0, 27), (1, 37)], 27) := dq_X10_frame_0.2.2.2.2.2.2.2.2.2.1
theorem dX10_frame_44 : decode cX10_frame 44 = .ok (.aload_n 0, 1) := dq_X10_frame_0.2.2.2.2.2.2.2.2.2.2.1
theorem dX10_frame_45 : decode cX10_frame 45 = .ok (.getfield 64, 3) := dq_X10_frame_0.2.2.2.2.2.2.2.2.2.2.2.1
theorem dX10_frame_48 : decode cX10_frame 48 = .ok (.getfield 255, 3) := dq_X10_frame_0.2.2.2.2.2.2.2.2.2.2.2.2.1
theorem dX10_frame_51 : decode cX10_frame 51 = .ok (.iload_n 1, 1) := dq_X10_frame_0.2.2.2.2.2.2.2.2.2.2.2.2.2.1
theorem dX10_frame_52 : decode cX10_frame 52 = .ok (.iaload, 1) := dq_X10_frame_0.2.2.2.2.2.2.2.2.2.2.2.2.2.2.1
theorem dX10_frame_53 : decode cX10_frame 53 = .ok (.ireturn, 1) := dq_X10_frame_0.2.2.2.2.2.2.2.2.2.2.2.2.2.2.2
theorem dq_X10_frame_54 : (decode cX10_frame 54 = .ok (.aload_n 0, 1)) ∧ (decode cX10_frame 55 = .ok (.getfield 64, 3)) ∧ (decode cX10_frame 58 = .ok (.getfield 258, 3)) ∧ (decode cX10_frame 61 = .ok (.iload_n 1, 1)) ∧ (decode cX10_frame 62 = .ok (.iaload, 1)) ∧ (decode cX10_frame 63 = .ok (.ireturn, 1)) ∧ (decode cX10_frame 64 = .ok (.iconst 0, 1)) ∧ (decode cX10_frame 65 = .ok (.ireturn, 1)) := by decide +kernel
theorem dX10_frame_54 : decode cX10_frame 54 = .ok (.aload_n 0, 1) := dq_X10_frame_54.1
theorem dX10_frame_55 : decode cX10_frame 55 = .ok (.getfield 64, 3) := dq_X10_frame_54.2.1
theorem dX10_frame_58 : decode cX10_frame 58 = .ok (.getfield 258, 3) := dq_X10_frame_54.2.2.1
theorem dX10_frame_61 : decode cX10_frame 61 = .ok (.iload_n 1, 1) := dq_X10_frame_54.2.2.2.1
theorem dX10_frame_62 : decode cX10_frame 62 = .ok (.iaload, 1) := dq_X10_frame_54.2.2.2.2.1
theorem dX10_frame_63 : decode cX10_frame 63 = .ok (.ireturn, 1) := dq_X10_frame_54.2.2.2.2.2.1
theorem dX10_frame_64 : decode cX10_frame 64 = .ok (.iconst 0, 1) := dq_X10_frame_54.2.2.2.2.2.2.1
theorem dX10_frame_65 : decode cX10_frame 65 = .ok (.ireturn, 1) := dq_X10_frame_54.2.2.2.2.2.2.2
theorem dq_X10_goToBegin_0 : (decode cX10_goToBegin 0 = .ok (.aload_n 0, 1)) ∧ (decode cX10_goToBegin 1 = .ok (.getfield 42, 3)) ∧ (decode cX10_goToBegin 4 = .ok (.invokevirtual 261, 3)) ∧ (decode cX10_goToBegin 7 = .ok (.aload_n 0, 1)) ∧ (decode cX10_goToBegin 8 = .ok (.getfield 64, 3)) ∧ (decode cX10_goToBegin 11 = .ok (.invokevirtual 264, 3)) ∧ (decode cX10_goToBegin 14 = .ok (.iconst 0, 1)) ∧ (decode cX10_goToBegin 15 = .ok (.istore_n 1, 1)) ∧ (decode cX10_goToBegin 16 = .ok (.iload_n 1, 1)) ∧ (decode cX10_goToBegin 17 = .ok (.iconst 4, 1)) ∧ (decode cX10_goToBegin 18 = .ok (.if_icmp .ge 18, 3)) ∧ (decode cX10_goToBegin 21 = .ok (.aload_n 0, 1)) ∧ (decode cX10_goToBegin 22 = .ok (.getfield 48, 3)) ∧ (decode cX10_goToBegin 25 = .ok (.iload_n 1, 1)) ∧ (decode cX10_goToBegin 26 = .ok (.aaload, 1)) ∧ (decode cX10_goToBegin 27 = .ok (.invokevirtual 265, 3)) := by decide +kernel
theorem dX10_goToBegin_0 : decode cX10_goToBegin 0 = .ok (.aload_n 0, 1) := dq_X10_goToBegin_0.1
theorem dX10_goToBegin_1 : decode cX10_goToBegin 1 = .ok (.getfield 42, 3) := dq_X10_goToBegin_0.2.1
theorem dX10_goToBegin_4 : decode cX10_goToBegin 4 = .ok (.invokevirtual 261, 3) := dq_X10_goToBegin_0.2.2.1
theorem dX10_goToBegin_7 : decode cX10_goToBegin 7 = .ok (.aload_n 0, 1) := dq_X10_goToBegin_0.2.2.2.1
theorem dX10_goToBegin_8 : decode cX10_goToBegin 8 = .ok (.getfield 64, 3) := dq_X10_goToBegin_0.2.2.2.2.1
theorem dX10_goToBegin_11 : decode cX10_goToBegin 11 = .ok (.invokevirtual 264, 3) := dq_X10_goToBegin_0.2.2.2.2.2.1
theorem dX10_goToBegin_14 : decode cX10_goToBegin 14 = .ok (.iconst 0, 1) := dq_X10_goToBegin_0.2.2.2.2.2.2.1
theorem dX10_goToBegin_15 : decode cX10_goToBegin 15 = .ok (.istore_n 1, 1) := dq_X10_goToBegin_0.2.2.2.2.2.2.2.1
theorem dX10_goToBegin_16 : decode cX10_goToBegin 16 = .ok (.iload_n 1, 1) := dq_X10_goToBegin_0.2.2.2.2.2.2.2.2.1
theorem dX10_goToBegin_17 : decode cX10_goToBegin 17 = .ok (.iconst 4, 1) := dq_X10_goToBegin_0.2.2.2.2.2.2.2.2.2.1
theorem dX10_goToBegin_18 : decode cX10_goToBegin 18 = .ok (.if_icmp .ge 18, 3) := dq_X10_goToBegin_0.2.2.2.2.2.2.2.2.2.2.1
theorem dX10_goToBegin_21 : decode cX10_goToBegin 21 = .ok (.aload_n 0, 1) := dq_X10_goToBegin_0.2.2.2.2.2.2.2.2.2.2.2.1
theorem dX10_goToBegin_22 : decode cX10_goToBegin 22 = .ok (.getfield 48, 3) := dq_X10_goToBegin_0.2.2.2.2.2.2.2.2.2.2.2.2.1
theorem dX10_goToBegin_25 : decode cX10_goToBegin 25 = .ok (.iload_n 1, 1) := dq_X10_goToBegin_0.2.2.2.2.2.2.2.2.2.2.2.2.2.1
theorem dX10_goToBegin_26 : decode cX10_goToBegin 26 = .ok (.aaload, 1) := dq_X10_goToBegin_0.2.2.2.2.2.2.2.2.2.2.2.2.2.2.1
theorem dX10_goToBegin_27 : decode cX10_goToBegin 27 = .ok (.invokevirtual 265, 3) := dq_X10_goToBegin_0.2.2.2.2.2.2.2.2.2.2.2.2.2.2.2
theorem dq_X10_goToBegin_30 : (decode cX10_goToBegin 30 = .ok (.iinc 1 1, 3)) ∧ (decode cX10_goToBegin 33 = .ok (.goto (-17), 3)) ∧ (decode cX10_goToBegin 36 = .ok (.return_, 1)) := by decide +kernel
theorem dX10_goToBegin_30 : decode cX10_goToBegin 30 = .ok (.iinc 1 1, 3) := dq_X10_goToBegin_30.1
theorem dX10_goToBegin_33 : decode cX10_goToBegin 33 = .ok (.goto (-17), 3) := dq_X10_goToBegin_30.2.1
theorem dX10_goToBegin_36 : decode cX10_goToBegin 36 = .ok (.return_, 1) := dq_X10_goToBegin_30.2.2
theorem dq_X10_playTick_0 : (decode cX10_playTick 0 = .ok (.aload_n 0, 1)) ∧ (decode cX10_playTick 1 = .ok (.getfield 42, 3)) ∧ (decode cX10_playTick 4 = .ok (.aload_n 0, 1)) ∧ (decode cX10_playTick 5 = .ok (.getfield 48, 3)) ∧ (decode cX10_playTick 8 = .ok (.invokevirtual 266, 3)) ∧ (decode cX10_playTick 11 = .ok (.iconst 0, 1)) ∧ (decode cX10_playTick 12 = .ok (.istore_n 1, 1)) ∧ (decode cX10_playTick 13 = .ok (.iload_n 1, 1)) ∧ (decode cX10_playTick 14 = .ok (.iconst 4, 1)) ∧ (decode cX10_playTick 15 = .ok (.if_icmp .ge 22, 3)) ∧ (decode cX10_playTick 18 = .ok (.aload_n 0, 1)) ∧ (decode cX10_playTick 19 = .ok (.getfield 48, 3)) ∧ (decode cX10_playTick 22 = .ok (.iload_n 1, 1)) ∧ (decode cX10_playTick 23 = .ok (.aaload, 1)) ∧ (decode cX10_playTick 24 = .ok (.aload_n 0, 1)) ∧ (decode cX10_playTick 25 = .ok (.getfield 42, 3)) := by decide +kernel
theorem dX10_playTick_0 : decode cX10_playTick 0 = .ok (.aload_n 0, 1) := dq_X10_playTick_0.1
theorem dX10_playTick_1 : decode cX10_playTick 1 = .ok (.getfield 42, 3) := dq_X10_playTick_0.2.1
theorem dX10_playTick_4 : decode cX10_playTick 4 = .ok (.aload_n 0, 1) := dq_X10_playTick_0.2.2.1
theorem dX10_playTick_5 : decode cX10_playTick 5 = .ok (.getfield 48, 3) := dq_X10_playTick_0.2.2.2.1
theorem dX10_playTick_8 : decode cX10_playTick 8 = .ok (.invokevirtual 266, 3) := dq_X10_playTick_0.2.2.2.2.1
theorem dX10_playTick_11 : decode cX10_playTick 11 = .ok (.iconst 0, 1) := dq_X10_playTick_0.2.2.2.2.2.1
theorem dX10_playTick_12 : decode cX10_playTick 12 = .ok (.istore_n 1, 1) := dq_X10_playTick_0.2.2.2.2.2.2.1
theorem dX10_playTick_13 : decode cX10_playTick 13 = .ok (.iload_n 1, 1) := dq_X10_playTick_0.2.2.2.2.2.2.2.1
theorem dX10_playTick_14 : decode cX10_playTick 14 = .ok (.iconst 4, 1) := dq_X10_playTick_0.2.2.2.2.2.2.2.2.1
theorem dX10_playTick_15 : decode cX10_playTick 15 = .ok (.if_icmp .ge 22, 3) := dq_X10_playTick_0.2.2.2.2.2.2.2.2.2.1
theorem dX10_playTick_18 : decode cX10_playTick 18 = .ok (.aload_n 0, 1) := dq_X10_playTick_0.2.2.2.2.2.2.2.2.2.2.1
theorem dX10_playTick_19 : decode cX10_playTick 19 = .ok (.getfield 48, 3) := dq_X10_playTick_0.2.2.2.2.2.2.2.2.2.2.2.1
theorem dX10_playTick_22 : decode cX10_playTick 22 = .ok (.iload_n 1, 1) := dq_X10_playTick_0.2.2.2.2.2.2.2.2.2.2.2.2.1
theorem dX10_playTick_23 : decode cX10_playTick 23 = .ok (.aaload, 1) := dq_X10_playTick_0.2.2.2.2.2.2.2.2.2.2.2.2.2.1
theorem dX10_playTick_24 : decode cX10_playTick 24 = .ok (.aload_n 0, 1) := dq_X10_playTick_0.2.2.2.2.2.2.2.2.2.2.2.2.2.2.1
theorem dX10_playTick_25 : decode cX10_playTick 25 = .ok (.getfield 42, 3) := dq_X10_playTick_0.2.2.2.2.2.2.2.2.2.2.2.2.2.2.2
theorem dq_X10_playTick_28 : (decode cX10_playTick 28 = .ok (.invokevirtual 270, 3)) ∧ (decode cX10_playTick 31 = .ok (.iinc 1 1, 3)) ∧ (decode cX10_playTick 34 = .ok (.goto (-21), 3)) ∧ (decode cX10_playTick 37 = .ok (.aload_n 0, 1)) ∧ (decode cX10_playTick 38 = .ok (.getfield 64, 3)) ∧ (decode cX10_playTick 41 = .ok (.aload_n 0, 1)) ∧ (decode cX10_playTick 42 = .ok (.getfield 48, 3)) ∧ (decode cX10_playTick 45 = .ok (.aload_n 0, 1)) ∧ (decode cX10_playTick 46 = .ok (.getfield 42, 3)) ∧ (decode cX10_playTick 49 = .ok (.getfield 201, 3)) ∧ (decode cX10_playTick 52 = .ok (.invokevirtual 274, 3)) ∧ (decode cX10_playTick 55 = .ok (.return_, 1)) := by decide +kernel
theorem dX10_playTick_28 : decode cX10_playTick 28 = .ok (.invokevirtual 270, 3) := dq_X10_playTick_28.1
theorem dX10_playTick_31 : decode cX10_playTick 31 = .ok (.iinc 1 1, 3) := dq_X10_playTick_28.2.1
theorem dX10_playTick_34 : decode cX10_playTick 34 = .ok (.goto (-21), 3) := dq_X10_playTick_28.2.2.1
theorem dX10_playTick_37 : decode cX10_playTick 37 = .ok (.aload_n 0, 1) := dq_X10_playTick_28.2.2.2.1
theorem dX10_playTick_38 : decode cX10_playTick 38 = .ok (.getfield 64, 3) := dq_X10_playTick_28.2.2.2.2.1
theorem dX10_playTick_41 : decode cX10_playTick 41 = .ok (.aload_n 0, 1) := dq_X10_playTick_28.2.2.2.2.2.1
theorem dX10_playTick_42 : decode cX10_playTick 42 = .ok (.getfield 48, 3) := dq_X10_playTick_28.2.2.2.2.2.2.1
theorem dX10_playTick_45 : decode cX10_playTick 45 = .ok (.aload_n 0, 1) := dq_X10_playTick_28.2.2.2.2.2.2.2.1
theorem dX10_playTick_46 : decode cX10_playTick 46 = .ok (.getfield 42, 3) := dq_X10_playTick_28.2.2.2.2.2.2.2.2.1
theorem dX10_playTick_49 : decode cX10_playTick 49 = .ok (.getfield 201, 3) := dq_X10_playTick_28.2.2.2.2.2.2.2.2.2.1
theorem dX10_playTick_52 : decode cX10_playTick 52 = .ok (.invokevirtual 274, 3) := dq_X10_playTick_28.2.2.2.2.2.2.2.2.2.2.1
theorem dX10_playTick_55 : decode cX10_playTick 55 = .ok (.return_, 1) := dq_X10_playTick_28.2.2.2.2.2.2.2.2.2.2.2
theorem dq_X10_isIn_0 : (decode cX10_isIn 0 = .ok (.iload_n 0, 1)) ∧ (decode cX10_isIn 1 = .ok (.ifCond .lt 12, 3)) ∧ (decode cX10_isIn 4 = .ok (.iload_n 0, 1)) ∧ (decode cX10_isIn 5 = .ok (.iload_n 1, 1)) ∧ (decode cX10_isIn 6 = .ok (.if_icmp .ge 7, 3)) ∧ (decode cX10_isIn 9 = .ok (.iconst 1, 1)) ∧ (decode cX10_isIn 10 = .ok (.goto 4, 3)) ∧ (decode cX10_isIn 13 = .ok (.iconst 0, 1)) ∧ (decode cX10_isIn 14 = .ok (.ireturn, 1)) := by decide +kernel
theorem dX10_isIn_0 : decode cX10_isIn 0 = .ok (.iload_n 0, 1) := dq_X10_isIn_0.1
theorem dX10_isIn_1 : decode cX10_isIn 1 = .ok (.ifCond .lt 12, 3) := dq_X10_isIn_0.2.1
theorem dX10_isIn_4 : decode cX10_isIn 4 = .ok (.iload_n 0, 1) := dq_X10_isIn_0.2.2.1
theorem dX10_isIn_5 : decode cX10_isIn 5 = .ok (.iload_n 1, 1) := dq_X10_isIn_0.2.2.2.1
theorem dX10_isIn_6 : decode cX10_isIn 6 = .ok (.if_icmp .ge 7, 3) := dq_X10_isIn_0.2.2.2.2.1
theorem dX10_isIn_9 : decode cX10_isIn 9 = .ok (.iconst 1, 1) := dq_X10_isIn_0.2.2.2.2.2.1
theorem dX10_isIn_10 : decode cX10_isIn 10 = .ok (.goto 4, 3) := dq_X10_isIn_0.2.2.2.2.2.2.1
theorem dX10_isIn_13 : decode cX10_isIn 13 = .ok (.iconst 0, 1) := dq_X10_isIn_0.2.2.2.2.2.2.2.1
theorem dX10_isIn_14 : decode cX10_isIn 14 = .ok (.ireturn, 1) := dq_X10_isIn_0.2.2.2.2.2.2.2.2
theorem dq_X10_limit_0 : (decode cX10_limit 0 = .ok (.iload_n 0, 1)) ∧ (decode cX10_limit 1 = .ok (.iload_n 1, 1)) ∧ (decode cX10_limit 2 = .ok (.if_icmp .ge 5, 3)) ∧ (decode cX10_limit 5 = .ok (.iload_n 1, 1)) ∧ (decode cX10_limit 6 = .ok (.ireturn, 1)) ∧ (decode cX10_limit 7 = .ok (.iload_n 0, 1)) ∧ (decode cX10_limit 8 = .ok (.iload_n 2, 1)) ∧ (decode cX10_limit 9 = .ok (.if_icmp .le 7, 3)) ∧ (decode cX10_limit 12 = .ok (.iload_n 2, 1)) ∧ (decode cX10_limit 13 = .ok (.goto 4, 3)) ∧ (decode cX10_limit 16 = .ok (.iload_n 0, 1)) ∧ (decode cX10_limit 17 = .ok (.ireturn, 1)) := by decide +kernel
theorem dX10_limit_0 : decode cX10_limit 0 = .ok (.iload_n 0, 1) := dq_X10_limit_0.1
theorem dX10_limit_1 : decode cX10_limit 1 = .ok (.iload_n 1, 1) := dq_X10_limit_0.2.1
theorem dX10_limit_2 : decode cX10_limit 2 = .ok (.if_icmp .ge 5, 3) := dq_X10_limit_0.2.2.1
theorem dX10_limit_5 : decode cX10_limit 5 = .ok (.iload_n 1, 1) := dq_X10_limit_0.2.2.2.1
theorem dX10_limit_6 : decode cX10_limit 6 = .ok (.ireturn, 1) := dq_X10_limit_0.2.2.2.2.1
theorem dX10_limit_7 : decode cX10_limit 7 = .ok (.iload_n 0, 1) := dq_X10_limit_0.2.2.2.2.2.1
theorem dX10_limit_8 : decode cX10_limit 8 = .ok (.iload_n 2, 1) := dq_X10_limit_0.2.2.2.2.2.2.1
theorem dX10_limit_9 : decode cX10_limit 9 = .ok (.if_icmp .le 7, 3) := dq_X10_limit_0.2.2.2.2.2.2.2.1
theorem dX10_limit_12 : decode cX10_limit 12 = .ok (.iload_n 2, 1) := dq_X10_limit_0.2.2.2.2.2.2.2.2.1
theorem dX10_limit_13 : decode cX10_limit 13 = .ok (.goto 4, 3) := dq_X10_limit_0.2.2.2.2.2.2.2.2.2.1
theorem dX10_limit_16 : decode cX10_limit 16 = .ok (.iload_n 0, 1) := dq_X10_limit_0.2.2.2.2.2.2.2.2.2.2.1
theorem dX10_limit_17 : decode cX10_limit 17 = .ok (.ireturn, 1) := dq_X10_limit_0.2.2.2.2.2.2.2.2.2.2.2
theorem dq_X11_init_0 : (decode cX11_init 0 = .ok (.aload_n 0, 1)) ∧ (decode cX11_init 1 = .ok (.invokespecial 1, 3)) ∧ (decode cX11_init 4 = .ok (.aload_n 0, 1)) ∧ (decode cX11_init 5 = .ok (.sipush 9000, 3)) ∧ (decode cX11_init 8 = .ok (.newarray .byte, 2)) ∧ (decode cX11_init 10 = .ok (.putfield 9, 3)) ∧ (decode cX11_init 13 = .ok (.aload_n 0, 1)) ∧ (decode cX11_init 14 = .ok (.iconst (-1), 1)) ∧ (decode cX11_init 15 = .ok (.putfield 13, 3)) ∧ (decode cX11_init 18 = .ok (.aload_n 0, 1)) ∧ (decode cX11_init 19 = .ok (.bipush 32, 2)) ∧ (decode cX11_init 21 = .ok (.newarray .int, 2)) ∧ (decode cX11_init 23 = .ok (.putfield 17, 3)) ∧ (decode cX11_init 26 = .ok (.aload_n 0, 1)) ∧ (decode cX11_init 27 = .ok (.bipush 32, 2)) ∧ (decode cX11_init 29 = .ok (.newarray .int, 2)) := by decide +kernel
theorem dX11_init_0 : decode cX11_init 0 = .ok (.aload_n 0, 1) := dq_X11_init_0.1
theorem dX11_init_1 : decode cX11_init 1 = .ok (.invokespecial 1, 3) := dq_X11_init_0.2.1
theorem dX11_init_4 : decode cX11_init 4 = .ok (.aload_n 0, 1) := dq_X11_init_0.2.2.1
theorem dX11_init_5 : decode cX11_init 5 = .ok (.sipush 9000, 3) := dq_X11_init_0.2.2.2.1
theorem dX11_init_8 : decode cX11_init 8 = .ok (.newarray .byte, 2) := dq_X11_init_0.2.2.2.2.1
theorem dX11_init_10 : decode cX11_init 10 = .ok (.putfield 9, 3) := dq_X11_init_0.2.2.2.2.2.1
theorem dX11_init_13 : decode cX11_init 13 = .ok (.aload_n 0, 1) := dq_X11_init_0.2.2.2.2.2.2.1
theorem dX11_init_14 : decode cX11_init 14 = .ok (.iconst (-1), 1) := dq_X11_init_0.2.2.2.2.2.2.2.1
theorem dX11_init_15 : decode cX11_init 15 = .ok (.putfield 13, 3) := dq_X11_init_0.2.2.2.2.2.2.2.2.1
theorem dX11_init_18 : decode cX11_init 18 = .ok (.aload_n 0, 1) := dq_X11_init_0.2.2.2.2.2.2.2.2.2.1
theorem dX11_init_19 : decode cX11_init 19 = .ok (.bipush 32, 2) := dq_X11_init_0.2.2.2.2.2.2.2.2.2.2.1
theorem dX11_init_21 : decode cX11_init 21 = .ok (.newarray .int, 2) := dq_X11_init_0.2.2.2.2.2.2.2.2.2.2.2.1
theorem dX11_init_23 : decode cX11_init 23 = .ok (.putfield 17, 3) := dq_X11_init_0.2.2.2.2.2.2.2.2.2.2.2.2.1
theorem dX11_init_26 : decode cX11_init 26 = .ok (.aload_n 0, 1) := dq_X11_init_0.2.2.2.2.2.2.2.2.2.2.2.2.2.1
theorem dX11_init_27 : decode cX11_init 27 = .ok (.bipush 32, 2) := dq_X11_init_0.2.2.2.2.2.2.2.2.2.2.2.2.2.2.1
theorem dX11_init_29 : decode cX11_init 29 = .ok (.newarray .int, 2) := dq_X11_init_0.2.2.2.2.2.2.2.2.2.2.2.2.2.2.2
theorem dq_X11_init_31 : (decode cX11_init 31 = .ok (.putfield 21, 3)) ∧ (decode cX11_init 34 = .ok (.aload_n 0, 1)) ∧ (decode cX11_init 35 = .ok (.bipush 32, 2)) ∧ (decode cX11_init 37 = .ok (.newarray .int, 2)) ∧ (decode cX11_init 39 = .ok (.putfield 24, 3)) ∧ (decode cX11_init 42 = .ok (.aload_n 0, 1)) ∧ (decode cX11_init 43 = .ok (.bipush 32, 2)) ∧ (decode cX11_init 45 = .ok (.newarray .int, 2)) ∧ (decode cX11_init 47 = .ok (.putfield 27, 3)) ∧ (decode cX11_init 50 = .ok (.aload_n 0, 1)) ∧ (decode cX11_init 51 = .ok (.bipush 32, 2)) ∧ (decode cX11_init 53 = .ok (.newarray .int, 2)) ∧ (decode cX11_init 55 = .ok (.putfield 30, 3)) ∧ (decode cX11_init 58 = .ok (.aload_n 0, 1)) ∧ (decode cX11_init 59 = .ok (.ldc 33, 2)) ∧ (decode cX11_init 61 = .ok (.newarray .byte, 2)) := by decide +kernel
theorem dX11_init_31 : decode cX11_init 31 = .ok (.putfield 21, 3) := dq_X11_init_31.1
theorem dX11_init_34 : decode cX11_init 34 = .ok (.aload_n 0, 1) := dq_X11_init_31.2.1
theorem dX11_init_35 : decode cX11_init 35 = .ok (.bipush 32, 2) := dq_X11_init_31.2.2.1
theorem dX11_init_37 : decode cX11_init 37 = .ok (.newarray .int, 2) := dq_X11_init_31.2.2.2.1
theorem dX11_init_39 : decode cX11_init 39 = .ok (.putfield 24, 3) := dq_X11_init_31.2.2.2.2.1
theorem dX11_init_42 : decode cX11_init 42 = .ok (.aload_n 0, 1) := dq_X11_init_31.2.2.2.2.2.1
theorem dX11_init_43 : decode cX11_init 43 = .ok (.bipush 32, 2) := dq_X11_init_31.2.2.2.2.2.2.1
theorem dX11_init_45 : decode cX11_init 45 = .ok (.newarray .int, 2) := dq_X11_init_31.2.2.2.2.2.2.2.1
theorem dX11_init_47 : decode cX11_init 47 = .ok (.putfield 27, 3) := dq_X11_init_31.2.2.2.2.2.2.2.2.1
theorem dX11_init_50 : decode cX11_init 50 = .ok (.aload_n 0, 1) := dq_X11_init_31.2.2.2.2.2.2.2.2.2.1
theorem dX11_init_51 : decode cX11_init 51 = .ok (.bipush 32, 2) := dq_X11_init_31.2.2.2.2.2.2.2.2.2.2.1
theorem dX11_init_53 : decode cX11_init 53 = .ok (.newarray .int, 2) := dq_X11_init_31.2.2.2.2.2.2.2.2.2.2.2.1
theorem dX11_init_55 : decode cX11_init 55 = .ok (.putfield 30, 3) := dq_X11_init_31.2.2.2.2.2.2.2.2.2.2.2.2.1
theorem dX11_init_58 : decode cX11_init 58 = .ok (.aload_n 0, 1) := dq_X11_init_31.2.2.2.2.2.2.2.2.2.2.2.2.2.1
theorem dX11_init_59 : decode cX11_init 59 = .ok (.ldc 33, 2) := dq_X11_init_31.2.2.2.2.2.2.2.2.2.2.2.2.2.2.1
theorem dX11_init_61 : decode cX11_init 61 = .ok (.newarray .byte, 2) := dq_X11_init_31.2.2.2.2.2.2.2.2.2.2.2.2.2.2.2
theorem dq_X11_init_63 : (decode cX11_init 63 = .ok (.putfield 34, 3)) ∧ (decode cX11_init 66 = .ok (.aload_n 0, 1)) ∧ (decode cX11_init 67 = .ok (.sipush 2048, 3)) ∧ (decode cX11_init 70 = .ok (.newarray .int, 2)) ∧ (decode cX11_init 72 = .ok (.putfield 37, 3)) ∧ (decode cX11_init 75 = .ok (.aload_n 0, 1)) ∧ (decode cX11_init 76 = .ok (.sipush 128, 3)) ∧ (decode cX11_init 79 = .ok (.newarray .int, 2)) ∧ (decode cX11_init 81 = .ok (.putfield 40, 3)) ∧ (decode cX11_init 84 = .ok (.aload_n 0, 1)) ∧ (decode cX11_init 85 = .ok (.iconst 1, 1)) ∧ (decode cX11_init 86 = .ok (.putfield 43, 3)) ∧ (decode cX11_init 89 = .ok (.aload_n 0, 1)) ∧ (decode cX11_init 90 = .ok (.sipush 8192, 3)) ∧ (decode cX11_init 93 = .ok (.newarray .boolean, 2)) ∧ (decode cX11_init 95 = .ok (.putfield 46, 3)) := by decide +kernel
theorem dX11_init_63 : decode cX11_init 63 = .ok (.putfield 34, 3) := dq_X11_init_63.1
theorem dX11_init_66 : decode cX11_init 66 = .ok (.aload_n 0, 1) := dq_X11_init_63.2.1
theorem dX11_init_67 : decode cX11_init 67 = .ok (.sipush 2048, 3) := dq_X11_init_63.2.2.1
theorem dX11_init_70 : decode cX11_init 70 = .ok (.newarray .int, 2) := dq_X11_init_63.2.2.2.1
theorem dX11_init_72 : decode cX11_init 72 = .ok (.putfield 37, 3) := dq_X11_init_63.2.2.2.2.1
theorem dX11_init_75 : decode cX11_init 75 = .ok (.aload_n 0, 1) := dq_X11_init_63.2.2.2.2.2.1
theorem dX11_init_76 : decode cX11_init 76 = .ok (.sipush 128, 3) := dq_X11_init_63.2.2.2.2.2.2.1
theorem dX11_init_79 : decode cX11_init 79 = .ok (.newarray .int, 2) := dq_X11_init_63.2.2.2.2.2.2.2.1
theorem dX11_init_81 : decode cX11_init 81 = .ok (.putfield 40, 3) := dq_X11_init_63.2.2.2.2.2.2.2.2.1
theorem dX11_init_84 : decode cX11_init 84 = .ok (.aload_n 0, 1) := dq_X11_init_63.2.2.2.2.2.2.2.2.2.1
theorem dX11_init_85 : decode cX11_init 85 = .ok (.iconst 1, 1) := dq_X11_init_63.2.2.2.2.2.2.2.2.2.2.1
theorem dX11_init_86 : decode cX11_init 86 = .ok (.putfield 43, 3) := dq_X11_init_63.2.2.2.2.2.2.2.2.2.2.2.1
theorem dX11_init_89 : decode cX11_init 89 = .ok (.aload_n 0, 1) := dq_X11_init_63.2.2.2.2.2.2.2.2.2.2.2.2.1
theorem dX11_init_90 : decode cX11_init 90 = .ok (.sipush 8192, 3) := dq_X11_init_63.2.2.2.2.2.2.2.2.2.2.2.2.2.1
theorem dX11_init_93 : decode cX11_init 93 = .ok (.newarray .boolean, 2) := dq_X11_init_63.2.2.2.2.2.2.2.2.2.2.2.2.2.2.1
theorem dX11_init_95 : decode cX11_init 95 = .ok (.putfield 46, 3) := dq_X11_init_63.2.2.2.2.2.2.2.2.2.2.2.2.2.2.2
theorem dq_X11_init_98 : (decode cX11_init 98 = .ok (.aload_n 0, 1)) ∧ (decode cX11_init 99 = .ok (.sipush 1300, 3)) ∧ (decode cX11_init 102 = .ok (.newarray .int, 2)) ∧ (decode cX11_init 104 = .ok (.putfield 50, 3)) ∧ (decode cX11_init 107 = .ok (.aload_n 0, 1)) ∧ (decode cX11_init 108 = .ok (.sipush 1300, 3)) ∧ (decode cX11_init 111 = .ok (.newarray .int, 2)) ∧ (decode cX11_init 113 = .ok (.putfield 53, 3)) ∧ (decode cX11_init 116 = .ok (.aload_n 0, 1)) ∧ (decode cX11_init 117 = .ok (.iconst 4, 1)) ∧ (decode cX11_init 118 = .ok (.newarray .int, 2)) ∧ (decode cX11_init 120 = .ok (.putfield 56, 3)) ∧ (decode cX11_init 123 = .ok (.aload_n 0, 1)) ∧ (decode cX11_init 124 = .ok (.iconst 4, 1)) ∧ (decode cX11_init 125 = .ok (.newarray .int, 2)) ∧ (decode cX11_init 127 = .ok (.putfield 59, 3)) := by decide +kernel
theorem dX11_init_98 : decode cX11_init 98 = .ok (.aload_n 0, 1) := dq_X11_init_98.1
theorem dX11_init_99 : decode cX11_init 99 = .ok (.sipush 1300, 3) := dq_X11_init_98.2.1
theorem dX11_init_102 : decode cX11_init 102 = .ok (.newarray .int, 2) := dq_X11_init_98.2.2.1
theorem dX11_init_104 : decode cX11_init 104 = .ok (.putfield 50, 3) := dq_X11_init_98.2.2.2.1
theorem dX11_init_107 : decode cX11_init 107 = .ok (.aload_n 0, 1) := dq_X11_init_98.2.2.2.2.1
theorem dX11_init_108 : decode cX11_init 108 = .ok (.sipush 1300, 3) := dq_X11_init_98.2.2.2.2.2.1
theorem dX11_init_111 : decode cX11_init 111 = .ok (.newarray .int, 2) := dq_X11_init_98.2.2.2.2.2.2.1
theorem dX11_init_113 : decode cX11_init 113 = .ok (.putfield 53, 3) := dq_X11_init_98.2.2.2.2.2.2.2.1
theorem dX11_init_116 : decode cX11_init 116 = .ok (.aload_n 0, 1) := dq_X11_init_98.2.2.2.2.2.2.2.2.1
theorem dX11_init_117 : decode cX11_init 117 = .ok (.iconst 4, 1) := dq_X11_init_98.2.2.2.2.2.2.2.2.2.1
theorem dX11_init_118 : decode cX11_init 118 = .ok (.newarray .int, 2) := dq_X11_init_98.2.2.2.2.2.2.2.2.2.2.1
theorem dX11_init_120 : decode cX11_init 120 = .ok (.putfield 56, 3) := dq_X11_init_98.2.2.2.2.2.2.2.2.2.2.2.1
theorem dX11_init_123 : decode cX11_init 123 = .ok (.aload_n 0, 1) := dq_X11_init_98.2.2.2.2.2.2.2.2.2.2.2.2.1
theorem dX11_init_124 : decode cX11_init 124 = .ok (.iconst 4, 1) := dq_X11_init_98.2.2.2.2.2.2.2.2.2.2.2.2.2.1
theorem dX11_init_125 : decode cX11_init 125 = .ok (.newarray .int, 2) := dq_X11_init_98.2.2.2.2.2.2.2.2.2.2.2.2.2.2.1
theorem dX11_init_127 : decode cX11_init 127 = .ok (.putfield 59, 3) := dq_X11_init_98.2.2.2.2.2.2.2.2.2.2.2.2.2.2.2
theorem dq_X11_init_130 : (decode cX11_init 130 = .ok (.aload_n 0, 1)) ∧ (decode cX11_init 131 = .ok (.iconst 4, 1)) ∧ (decode cX11_init 132 = .ok (.newarray .int, 2)) ∧ (decode cX11_init 134 = .ok (.putfield 62, 3)) ∧ (decode cX11_init 137 = .ok (.aload_n 0, 1)) ∧ (decode cX11_init 138 = .ok (.iconst 4, 1)) ∧ (decode cX11_init 139 = .ok (.newarray .int, 2)) ∧ (decode cX11_init 141 = .ok (.putfield 65, 3)) ∧ (decode cX11_init 144 = .ok (.aload_n 0, 1)) ∧ (decode cX11_init 145 = .ok (.iconst 4, 1)) ∧ (decode cX11_init 146 = .ok (.newarray .int, 2)) ∧ (decode cX11_init 148 = .ok (.putfield 68, 3)) ∧ (decode cX11_init 151 = .ok (.aload_n 0, 1)) ∧ (decode cX11_init 152 = .ok (.iconst 4, 1)) ∧ (decode cX11_init 153 = .ok (.newarray .int, 2)) ∧ (decode cX11_init 155 = .ok (.putfield 71, 3)) := by decide +kernel
theorem dX11_init_130 : decode cX11_init 130 = .ok (.aload_n 0, 1) := dq_X11_init_130.1
theorem dX11_init_131 : decode cX11_init 131 = .ok (.iconst 4, 1) := dq_X11_init_130.2.1
theorem dX11_init_132 : decode cX11_init 132 = .ok (.newarray .int, 2) := dq_X11_init_130.2.2.1
theorem dX11_init_134 : decode cX11_init 134 = .ok (.putfield 62, 3) := dq_X11_init_130.2.2.2.1
theorem dX11_init_137 : decode cX11_init 137 = .ok (.aload_n 0, 1) := dq_X11_init_130.2.2.2.2.1
theorem dX11_init_138 : decode cX11_init 138 = .ok (.iconst 4, 1) := dq_X11_init_130.2.2.2.2.2.1
theorem dX11_init_139 : decode cX11_init 139 = .ok (.newarray .int, 2) := dq_X11_init_130.2.2.2.2.2.2.1
theorem dX11_init_141 : decode cX11_init 141 = .ok (.putfield 65, 3) := dq_X11_init_130.2.2.2.2.2.2.2.1
theorem dX11_init_144 : decode cX11_init 144 = .ok (.aload_n 0, 1) := dq_X11_init_130.2.2.2.2.2.2.2.2.1
theorem dX11_init_145 : decode cX11_init 145 = .ok (.iconst 4, 1) := dq_X11_init_130.2.2.2.2.2.2.2.2.2.1
theorem dX11_init_146 : decode cX11_init 146 = .ok (.newarray .int, 2) := dq_X11_init_130.2.2.2.2.2.2.2.2.2.2.1
theorem dX11_init_148 : decode cX11_init 148 = .ok (.putfield 68, 3) := dq_X11_init_130.2.2.2.2.2.2.2.2.2.2.2.1
theorem dX11_init_151 : decode cX11_init 151 = .ok (.aload_n 0, 1) := dq_X11_init_130.2.2.2.2.2.2.2.2.2.2.2.2.1
theorem dX11_init_152 : decode cX11_init 152 = .ok (.iconst 4, 1) := dq_X11_init_130.2.2.2.2.2.2.2.2.2.2.2.2.2.1
theorem dX11_init_153 : decode cX11_init 153 = .ok (.newarray .int, 2) := dq_X11_init_130.2.2.2.2.2.2.2.2.2.2.2.2.2.2.1
theorem dX11_init_155 : decode cX11_init 155 = .ok (.putfield 71, 3) := dq_X11_init_130.2.2.2.2.2.2.2.2.2.2.2.2.2.2.2
theorem dq_X11_init_158 : (decode cX11_init 158 = .ok (.aload_n 0, 1)) ∧ (decode cX11_init 159 = .ok (.iconst 4, 1)) ∧ (decode cX11_init 160 = .ok (.newarray .int, 2)) ∧ (decode cX11_init 162 = .ok (.putfield 74, 3)) ∧ (decode cX11_init 165 = .ok (.aload_n 0, 1)) ∧ (decode cX11_init 166 = .ok (.iconst 4, 1)) ∧ (decode cX11_init 167 = .ok (.newarray .int, 2)) ∧ (decode cX11_init 169 = .ok (.putfield 77, 3)) ∧ (decode cX11_init 172 = .ok (.aload_n 0, 1)) ∧ (decode cX11_init 173 = .ok (.iconst 4, 1)) ∧ (decode cX11_init 174 = .ok (.newarray .int, 2)) ∧ (decode cX11_init 176 = .ok (.putfield 80, 3)) ∧ (decode cX11_init 179 = .ok (.aload_n 0, 1)) ∧ (decode cX11_init 180 = .ok (.iconst 4, 1)) ∧ (decode cX11_init 181 = .ok (.newarray .int, 2)) ∧ (decode cX11_init 183 = .ok (.putfield 83, 3)) := by decide +kernel
theorem dX11_init_158 : decode cX11_init 158 = .ok (.aload_n 0, 1) := dq_X11_init_158.1
theorem dX11_init_159 : decode cX11_init 159 = .ok (.iconst 4, 1) := dq_X11_init_158.2.1
theorem dX11_init_160 : decode cX11_init 160 = .ok (.newarray .int, 2) := dq_X11_init_158.2.2.1
theorem dX11_init_162 : decode cX11_init 162 = .ok (.putfield 74, 3) := dq_X11_init_158.2.2.2.1
theorem dX11_init_165 : decode cX11_init 165 = .ok (.aload_n 0, 1) := dq_X11_init_158.2.2.2.2.1
theorem dX11_init_166 : decode cX11_init 166 = .ok (.iconst 4, 1) := dq_X11_init_158.2.2.2.2.2.1
theorem dX11_init_167 : decode cX11_init 167 = .ok (.newarray .int, 2) := dq_X11_init_158.2.2.2.2.2.2.1
theorem dX11_init_169 : decode cX11_init 169 = .ok (.putfield 77, 3) := dq_X11_init_158.2.2.2.2.2.2.2.1
theorem dX11_init_172 : decode cX11_init 172 = .ok (.aload_n 0, 1) := dq_X11_init_158.2.2.2.2.2.2.2.2.1
theorem dX11_init_173 : decode cX11_init 173 = .ok (.iconst 4, 1) := dq_X11_init_158.2.2.2.2.2.2.2.2.2.1
theorem dX11_init_174 : decode cX11_init 174 = .ok (.newarray .int, 2) := dq_X11_init_158.2.2.2.2.2.2.2.2.2.2.1
theorem dX11_init_176 : decode cX11_init 176 = .ok (.putfield 80, 3) := dq_X11_init_158.2.2.2.2.2.2.2.2.2.2.2.1
theorem dX11_init_179 : decode cX11_init 179 = .ok (.aload_n 0, 1) := dq_X11_init_158.2.2.2.2.2.2.2.2.2.2.2.2.1
theorem dX11_init_180 : decode cX11_init 180 = .ok (.iconst 4, 1) := dq_X11_init_158.2.2.2.2.2.2.2.2.2.2.2.2.2.1
theorem dX11_init_181 : decode cX11_init 181 = .ok (.newarray .int, 2) := dq_X11_init_158.2.2.2.2.2.2.2.2.2.2.2.2.2.2.1
theorem dX11_init_183 : decode cX11_init 183 = .ok (.putfield 83, 3) := dq_X11_init_158.2.2.2.2.2.2.2.2.2.2.2.2.2.2.2
theorem dq_X11_init_186 : (decode cX11_init 186 = .ok (.aload_n 0, 1)) ∧ (decode cX11_init 187 = .ok (.iconst 4, 1)) ∧ (decode cX11_init 188 = .ok (.newarray .int, 2)) ∧ (decode cX11_init 190 = .ok (.putfield 86, 3)) ∧ (decode cX11_init 193 = .ok (.aload_n 0, 1)) ∧ (decode cX11_init 194 = .ok (.iconst 4, 1)) ∧ (decode cX11_init 195 = .ok (.newarray .int, 2)) ∧ (decode cX11_init 197 = .ok (.putfield 89, 3)) ∧ (decode cX11_init 200 = .ok (.aload_n 0, 1)) ∧ (decode cX11_init 201 = .ok (.iconst 4, 1)) ∧ (decode cX11_init 202 = .ok (.newarray .int, 2)) ∧ (decode cX11_init 204 = .ok (.putfield 92, 3)) ∧ (decode cX11_init 207 = .ok (.aload_n 0, 1)) ∧ (decode cX11_init 208 = .ok (.iconst 4, 1)) ∧ (decode cX11_init 209 = .ok (.newarray .int, 2)) ∧ (decode cX11_init 211 = .ok (.putfield 95, 3)) := by decide +kernel
theorem dX11_init_186 : decode cX11_init 186 = .ok (.aload_n 0, 1) := dq_X11_init_186.1
theorem dX11_init_187 : decode cX11_init 187 = .ok (.iconst 4, 1) := dq_X11_init_186.2.1
theorem dX11_init_188 : decode cX11_init 188 = .ok (.newarray .int, 2) := dq_X11_init_186.2.2.1
theorem dX11_init_190 : decode cX11_init 190 = .ok (.putfield 86, 3) := dq_X11_init_186.2.2.2.1
theorem dX11_init_193 : decode cX11_init 193 = .ok (.aload_n 0, 1) := dq_X11_init_186.2.2.2.2.1
theorem dX11_init_194 : decode cX11_init 194 = .ok (.iconst 4, 1) := dq_X11_init_186.2.2.2.2.2.1
theorem dX11_init_195 : decode cX11_init 195 = .ok (.newarray .int, 2) := dq_X11_init_186.2.2.2.2.2.2.1
theorem dX11_init_197 : decode cX11_init 197 = .ok (.putfield 89, 3) := dq_X11_init_186.2.2.2.2.2.2.2.1
theorem dX11_init_200 : decode cX11_init 200 = .ok (.aload_n 0, 1) := dq_X11_init_186.2.2.2.2.2.2.2.2.1
theorem dX11_init_201 : decode cX11_init 201 = .ok (.iconst 4, 1) := dq_X11_init_186.2.2.2.2.2.2.2.2.2.1
theorem dX11_init_202 : decode cX11_init 202 = .ok (.newarray .int, 2) := dq_X11_init_186.2.2.2.2.2.2.2.2.2.2.1
theorem dX11_init_204 : decode cX11_init 204 = .ok (.putfield 92, 3) := dq_X11_init_186.2.2.2.2.2.2.2.2.2.2.2.1
theorem dX11_init_207 : decode cX11_init 207 = .ok (.aload_n 0, 1) := dq_X11_init_186.2.2.2.2.2.2.2.2.2.2.2.2.1
theorem dX11_init_208 : decode cX11_init 208 = .ok (.iconst 4, 1) := dq_X11_init_186.2.2.2.2.2.2.2.2.2.2.2.2.2.1
theorem dX11_init_209 : decode cX11_init 209 = .ok (.newarray .int, 2) := dq_X11_init_186.2.2.2.2.2.2.2.2.2.2.2.2.2.2.1
theorem dX11_init_211 : decode cX11_init 211 = .ok (.putfield 95, 3) := dq_X11_init_186.2.2.2.2.2.2.2.2.2.2.2.2.2.2.2
theorem dq_X11_init_214 : (decode cX11_init 214 = .ok (.aload_n 0, 1)) ∧ (decode cX11_init 215 = .ok (.iconst 4, 1)) ∧ (decode cX11_init 216 = .ok (.newarray .int, 2)) ∧ (decode cX11_init 218 = .ok (.putfield 98, 3)) ∧ (decode cX11_init 221 = .ok (.aload_n 0, 1)) ∧ (decode cX11_init 222 = .ok (.iconst 4, 1)) ∧ (decode cX11_init 223 = .ok (.newarray .int, 2)) ∧ (decode cX11_init 225 = .ok (.putfield 101, 3)) ∧ (decode cX11_init 228 = .ok (.aload_n 0, 1)) ∧ (decode cX11_init 229 = .ok (.iconst 4, 1)) ∧ (decode cX11_init 230 = .ok (.newarray .int, 2)) ∧ (decode cX11_init 232 = .ok (.putfield 104, 3)) ∧ (decode cX11_init 235 = .ok (.aload_n 0, 1)) ∧ (decode cX11_init 236 = .ok (.iconst 4, 1)) ∧ (decode cX11_init 237 = .ok (.newarray .int, 2)) ∧ (decode cX11_init 239 = .ok (.putfield 107, 3)) := by decide +kernel
theorem dX11_init_214 : decode cX11_init 214 = .ok (.aload_n 0, 1) := dq_X11_init_214.1
theorem dX11_init_215 : decode cX11_init 215 = .ok (.iconst 4, 1) := dq_X11_init_214.2.1
theorem dX11_init_216 : decode cX11_init 216 = .ok (.newarray .int, 2) := dq_X11_init_214.2.2.1
theorem dX11_init_218 : decode cX11_init 218 = .ok (.putfield 98, 3) := dq_X11_init_214.2.2.2.1
theorem dX11_init_221 : decode cX11_init 221 = .ok (.aload_n 0, 1) := dq_X11_init_214.2.2.2.2.1
theorem dX11_init_222 : decode cX11_init 222 = .ok (.iconst 4, 1) := dq_X11_init_214.2.2.2.2.2.1
theorem dX11_init_223 : decode cX11_init 223 = .ok (.newarray .int, 2) := dq_X11_init_214.2.2.2.2.2.2.1
theorem dX11_init_225 : decode cX11_init 225 = .ok (.putfield 101, 3) := dq_X11_init_214.2.2.2.2.2.2.2.1
theorem dX11_init_228 : decode cX11_init 228 = .ok (.aload_n 0, 1) := dq_X11_init_214.2.2.2.2.2.2.2.2.1
theorem dX11_init_229 : decode cX11_init 229 = .ok (.iconst 4, 1) := dq_X11_init_214.2.2.2.2.2.2.2.2.2.1
theorem dX11_init_230 : decode cX11_init 230 = .ok (.newarray .int, 2) := dq_X11_init_214.2.2.2.2.2.2.2.2.2.2.1
theorem dX11_init_232 : decode cX11_init 232 = .ok (.putfield 104, 3) := dq_X11_init_214.2.2.2.2.2.2.2.2.2.2.2.1
theorem dX11_init_235 : decode cX11_init 235 = .ok (.aload_n 0, 1) := dq_X11_init_214.2.2.2.2.2.2.2.2.2.2.2.2.1
theorem dX11_init_236 : decode cX11_init 236 = .ok (.iconst 4, 1) := dq_X11_init_214.2.2.2.2.2.2.2.2.2.2.2.2.2.1
theorem dX11_init_237 : decode cX11_init 237 = .ok (.newarray .int, 2) := dq_X11_init_214.2.2.2.2.2.2.2.2.2.2.2.2.2.2.1
theorem dX11_init_239 : decode cX11_init 239 = .ok (.putfield 107, 3) := dq_X11_init_214.2.2.2.2.2.2.2.2.2.2.2.2.2.2.2
theorem dq_X11_init_242 : (decode cX11_init 242 = .ok (.aload_n 0, 1)) ∧ (decode cX11_init 243 = .ok (.iconst 4, 1)) ∧ (decode cX11_init 244 = .ok (.newarray .int, 2)) ∧ (decode cX11_init 246 = .ok (.putfield 110, 3)) ∧ (decode cX11_init 249 = .ok (.aload_n 0, 1)) ∧ (decode cX11_init 250 = .ok (.iconst 4, 1)) ∧ (decode cX11_init 251 = .ok (.newarray .long, 2)) ∧ (decode cX11_init 253 = .ok (.putfield 113, 3)) ∧ (decode cX11_init 256 = .ok (.aload_n 0, 1)) ∧ (decode cX11_init 257 = .ok (.iconst 4, 1)) ∧ (decode cX11_init 258 = .ok (.newarray .boolean, 2)) ∧ (decode cX11_init 260 = .ok (.putfield 117, 3)) ∧ (decode cX11_init 263 = .ok (.aload_n 0, 1)) ∧ (decode cX11_init 264 = .ok (.iconst 4, 1)) ∧ (decode cX11_init 265 = .ok (.newarray .boolean, 2)) ∧ (decode cX11_init 267 = .ok (.putfield 120, 3)) := by decide +kernel
theorem dX11_init_242 : decode cX11_init 242 = .ok (.aload_n 0, 1) := dq_X11_init_242.1
theorem dX11_init_243 : decode cX11_init 243 = .ok (.iconst 4, 1) := dq_X11_init_242.2.1
theorem dX11_init_244 : decode cX11_init 244 = .ok (.newarray .int, 2) := dq_X11_init_242.2.2.1
theorem dX11_init_246 : decode cX11_init 246 = .ok (.putfield 110, 3) := dq_X11_init_242.2.2.2.1
theorem dX11_init_249 : decode cX11_init 249 = .ok (.aload_n 0, 1) := dq_X11_init_242.2.2.2.2.1
theorem dX11_init_250 : decode cX11_init 250 = .ok (.iconst 4, 1) := dq_X11_init_242.2.2.2.2.2.1
theorem dX11_init_251 : decode cX11_init 251 = .ok (.newarray .long, 2) := dq_X11_init_242.2.2.2.2.2.2.1
theorem dX11_init_253 : decode cX11_init 253 = .ok (.putfield 113, 3) := dq_X11_init_242.2.2.2.2.2.2.2.1
theorem dX11_init_256 : decode cX11_init 256 = .ok (.aload_n 0, 1) := dq_X11_init_242.2.2.2.2.2.2.2.2.1
theorem dX11_init_257 : decode cX11_init 257 = .ok (.iconst 4, 1) := dq_X11_init_242.2.2.2.2.2.2.2.2.2.1
theorem dX11_init_258 : decode cX11_init 258 = .ok (.newarray .boolean, 2) := dq_X11_init_242.2.2.2.2.2.2.2.2.2.2.1
theorem dX11_init_260 : decode cX11_init 260 = .ok (.putfield 117, 3) := dq_X11_init_242.2.2.2.2.2.2.2.2.2.2.2.1
theorem dX11_init_263 : decode cX11_init 263 = .ok (.aload_n 0, 1) := dq_X11_init_242.2.2.2.2.2.2.2.2.2.2.2.2.1
theorem dX11_init_264 : decode cX11_init 264 = .ok (.iconst 4, 1) := dq_X11_init_242.2.2.2.2.2.2.2.2.2.2.2.2.2.1
theorem dX11_init_265 : decode cX11_init 265 = .ok (.newarray .boolean, 2) := dq_X11_init_242.2.2.2.2.2.2.2.2.2.2.2.2.2.2.1
theorem dX11_init_267 : decode cX11_init 267 = .ok (.putfield 120, 3) := dq_X11_init_242.2.2.2.2.2.2.2.2.2.2.2.2.2.2.2
theorem dq_X11_init_270 : (decode cX11_init 270 = .ok (.aload_n 0, 1)) ∧ (decode cX11_init 271 = .ok (.sipush 2000, 3)) ∧ (decode cX11_init 274 = .ok (.sipush 16000, 3)) ∧ (decode cX11_init 277 = .ok (.iload_n 1, 1)) ∧ (decode cX11_init 278 = .ok (.invokestatic 123, 3)) ∧ (decode cX11_init 281 = .ok (.invokestatic 129, 3)) ∧ (decode cX11_init 284 = .ok (.putfield 132, 3)) ∧ (decode cX11_init 287 = .ok (.aload_n 0, 1)) ∧ (decode cX11_init 288 = .ok (.invokevirtual 135, 3)) ∧ (decode cX11_init 291 = .ok (.return_, 1)) := by decide +kernel
theorem dX11_init_270 : decode cX11_init 270 = .ok (.aload_n 0, 1) := dq_X11_init_270.1
theorem dX11_init_271 : decode cX11_init 271 = .ok (.sipush 2000, 3) := dq_X11_init_270.2.1
theorem dX11_init_274 : decode cX11_init 274 = .ok (.sipush 16000, 3) := dq_X11_init_270.2.2.1
theorem dX11_init_277 : decode cX11_init 277 = .ok (.iload_n 1, 1) := dq_X11_init_270.2.2.2.1
theorem dX11_init_278 : decode cX11_init 278 = .ok (.invokestatic 123, 3) := dq_X11_init_270.2.2.2.2.1
theorem dX11_init_281 : decode cX11_init 281 = .ok (.invokestatic 129, 3) := dq_X11_init_270.2.2.2.2.2.1
theorem dX11_init_284 : decode cX11_init 284 = .ok (.putfield 132, 3) := dq_X11_init_270.2.2.2.2.2.2.1
theorem dX11_init_287 : decode cX11_init 287 = .ok (.aload_n 0, 1) := dq_X11_init_270.2.2.2.2.2.2.2.1
theorem dX11_init_288 : decode cX11_init 288 = .ok (.invokevirtual 135, 3) := dq_X11_init_270.2.2.2.2.2.2.2.2.1
theorem dX11_init_291 : decode cX11_init 291 = .ok (.return_, 1) := dq_X11_init_270.2.2.2.2.2.2.2.2.2
theorem dq_X11_in_0 : (decode cX11_in 0 = .ok (.iload_n 0, 1)) ∧ (decode cX11_in 1 = .ok (.iload_n 1, 1)) ∧ (decode cX11_in 2 = .ok (.if_icmp .lt 12, 3)) ∧ (decode cX11_in 5 = .ok (.iload_n 0, 1)) ∧ (decode cX11_in 6 = .ok (.iload_n 2, 1)) ∧ (decode cX11_in 7 = .ok (.if_icmp .gt 7, 3)) ∧ (decode cX11_in 10 = .ok (.iconst 1, 1)) ∧ (decode cX11_in 11 = .ok (.goto 4, 3)) ∧ (decode cX11_in 14 = .ok (.iconst 0, 1)) ∧ (decode cX11_in 15 = .ok (.ireturn, 1)) := by decide +kernel
theorem dX11_in_0 : decode cX11_in 0 = .ok (.iload_n 0, 1) := dq_X11_in_0.1
theorem dX11_in_1 : decode cX11_in 1 = .ok (.iload_n 1, 1) := dq_X11_in_0.2.1
theorem dX11_in_2 : decode cX11_in 2 = .ok (.if_icmp .lt 12, 3) := dq_X11_in_0.2.2.1
theorem dX11_in_5 : decode cX11_in 5 = .ok (.iload_n 0, 1) := dq_X11_in_0.2.2.2.1
theorem dX11_in_6 : decode cX11_in 6 = .ok (.iload_n 2, 1) := dq_X11_in_0.2.2.2.2.1
theorem dX11_in_7 : decode cX11_in 7 = .ok (.if_icmp .gt 7, 3) := dq_X11_in_0.2.2.2.2.2.1
theorem dX11_in_10 : decode cX11_in 10 = .ok (.iconst 1, 1) := dq_X11_in_0.2.2.2.2.2.2.1
theorem dX11_in_11 : decode cX11_in 11 = .ok (.goto 4, 3) := dq_X11_in_0.2.2.2.2.2.2.2.1
theorem dX11_in_14 : decode cX11_in 14 = .ok (.iconst 0, 1) := dq_X11_in_0.2.2.2.2.2.2.2.2.1
theorem dX11_in_15 : decode cX11_in 15 = .ok (.ireturn, 1) := dq_X11_in_0.2.2.2.2.2.2.2.2.2
theorem dq_X11_within_0 : (decode cX11_within 0 = .ok (.iload_n 1, 1)) ∧ (decode cX11_within 1 = .ok (.iload_n 2, 1)) ∧ (decode cX11_within 2 = .ok (.iload_n 0, 1)) ∧ (decode cX11_within 3 = .ok (.invokestatic 123, 3)) ∧ (decode cX11_within 6 = .ok (.invokestatic 129, 3)) ∧ (decode cX11_within 9 = .ok (.ireturn, 1)) := by decide +kernel
theorem dX11_within_0 : decode cX11_within 0 = .ok (.iload_n 1, 1) := dq_X11_within_0.1
theorem dX11_within_1 : decode cX11_within 1 = .ok (.iload_n 2, 1) := dq_X11_within_0.2.1
theorem dX11_within_2 : decode cX11_within 2 = .ok (.iload_n 0, 1) := dq_X11_within_0.2.2.1
theorem dX11_within_3 : decode cX11_within 3 = .ok (.invokestatic 123, 3) := dq_X11_within_0.2.2.2.1
theorem dX11_within_6 : decode cX11_within 6 = .ok (.invokestatic 129, 3) := dq_X11_within_0.2.2.2.2.1
theorem dX11_within_9 : decode cX11_within 9 = .ok (.ireturn, 1) := dq_X11_within_0.2.2.2.2.2
theorem dq_X11_types_0 : (decode cX11_types 0 = .ok (.bipush 24, 2)) ∧ (decode cX11_types 2 = .ok (.istore_n 2, 1)) ∧ (decode cX11_types 3 = .ok (.iload_n 2, 1)) ∧ (decode cX11_types 4 = .ok (.ifCond .lt 32, 3)) ∧ (decode cX11_types 7 = .ok (.aload_n 0, 1)) ∧ (decode cX11_types 8 = .ok (.getfield 9, 3)) ∧ (decode cX11_types 11 = .ok (.aload_n 0, 1)) ∧ (decode cX11_types 12 = .ok (.getfield 138, 3)) ∧ (decode cX11_types 15 = .ok (.iload_n 1, 1)) ∧ (decode cX11_types 16 = .ok (.iload_n 2, 1)) ∧ (decode cX11_types 17 = .ok (.ishr, 1)) ∧ (decode cX11_types 18 = .ok (.i2b, 1)) ∧ (decode cX11_types 19 = .ok (.bastore, 1)) ∧ (decode cX11_types 20 = .ok (.aload_n 0, 1)) ∧ (decode cX11_types 21 = .ok (.dup, 1)) ∧ (decode cX11_types 22 = .ok (.getfield 138, 3)) := by decide +kernel
theorem dX11_types_0 : decode cX11_types 0 = .ok (.bipush 24, 2) := dq_X11_types_0.1
theorem dX11_types_2 : decode cX11_types 2 = .ok (.istore_n 2, 1) := dq_X11_types_0.2.1
theorem dX11_types_3 : decode cX11_types 3 = .ok (.iload_n 2, 1) := dq_X11_types_0.2.2.1
theorem dX11_types_4 : decode cX11_types 4 = .ok (.ifCond .lt 32, 3) := dq_X11_types_0.2.2.2.1
theorem dX11_types_7 : decode cX11_types 7 = .ok (.aload_n 0, 1) := dq_X11_types_0.2.2.2.2.1
theorem dX11_types_8 : decode cX11_types 8 = .ok (.getfield 9, 3) := dq_X11_types_0.2.2.2.2.2.1
theorem dX11_types_11 : decode cX11_types 11 = .ok (.aload_n 0, 1) := dq_X11_types_0.2.2.2.2.2.2.1
theorem dX11_types_12 : decode cX11_types 12 = .ok (.getfield 138, 3) := dq_X11_types_0.2.2.2.2.2.2.2.1
theorem dX11_types_15 : decode cX11_types 15 = .ok (.iload_n 1, 1) := dq_X11_types_0.2.2.2.2.2.2.2.2.1
theorem dX11_types_16 : decode cX11_types 16 = .ok (.iload_n 2, 1) := dq_X11_types_0.2.2.2.2.2.2.2.2.2.1
theorem dX11_types_17 : decode cX11_types 17 = .ok (.ishr, 1) := dq_X11_types_0.2.2.2.2.2.2.2.2.2.2.1
theorem dX11_types_18 : decode cX11_types 18 = .ok (.i2b, 1) := dq_X11_types_0.2.2.2.2.2.2.2.2.2.2.2.1
theorem dX11_types_19 : decode cX11_types 19 = .ok (.bastore, 1) := dq_X11_types_0.2.2.2.2.2.2.2.2.2.2.2.2.1
theorem dX11_types_20 : decode cX11_types 20 = .ok (.aload_n 0, 1) := dq_X11_types_0.2.2.2.2.2.2.2.2.2.2.2.2.2.1
theorem dX11_types_21 : decode cX11_types 21 = .ok (.dup, 1) := dq_X11_types_0.2.2.2.2.2.2.2.2.2.2.2.2.2.2.1
theorem dX11_types_22 : decode cX11_types 22 = .ok (.getfield 138, 3) := dq_X11_types_0.2.2.2.2.2.2.2.2.2.2.2.2.2.2.2
theorem dq_X11_types_25 : (decode cX11_types 25 = .ok (.iconst 1, 1)) ∧ (decode cX11_types 26 = .ok (.iadd, 1)) ∧ (decode cX11_types 27 = .ok (.putfield 138, 3)) ∧ (decode cX11_types 30 = .ok (.iinc 2 (-8), 3)) ∧ (decode cX11_types 33 = .ok (.goto (-30), 3)) ∧ (decode cX11_types 36 = .ok (.return_, 1)) := by decide +kernel
theorem dX11_types_25 : decode cX11_types 25 = .ok (.iconst 1, 1) := dq_X11_types_25.1
theorem dX11_types_26 : decode cX11_types 26 = .ok (.iadd, 1) := dq_X11_types_25.2.1
theorem dX11_types_27 : decode cX11_types 27 = .ok (.putfield 138, 3) := dq_X11_types_25.2.2.1
theorem dX11_types_30 : decode cX11_types 30 = .ok (.iinc 2 (-8), 3) := dq_X11_types_25.2.2.2.1
theorem dX11_types_33 : decode cX11_types 33 = .ok (.goto (-30), 3) := dq_X11_types_25.2.2.2.2.1
theorem dX11_types_36 : decode cX11_types 36 = .ok (.return_, 1) := dq_X11_types_25.2.2.2.2.2
theorem dq_X11_feed_0 : (decode cX11_feed 0 = .ok (.aload_n 0, 1)) ∧ (decode cX11_feed 1 = .ok (.getfield 138, 3)) ∧ (decode cX11_feed 4 = .ok (.sipush 8980, 3)) ∧ (decode cX11_feed 7 = .ok (.if_icmp .le 5, 3)) ∧ (decode cX11_feed 10 = .ok (.iconst (-1), 1)) ∧ (decode cX11_feed 11 = .ok (.ireturn, 1)) ∧ (decode cX11_feed 12 = .ok (.aload_n 0, 1)) ∧ (decode cX11_feed 13 = .ok (.iload_n 1, 1)) ∧ (decode cX11_feed 14 = .ok (.invokevirtual 141, 3)) ∧ (decode cX11_feed 17 = .ok (.aload_n 0, 1)) ∧ (decode cX11_feed 18 = .ok (.iload_n 2, 1)) ∧ (decode cX11_feed 19 = .ok (.invokevirtual 141, 3)) ∧ (decode cX11_feed 22 = .ok (.aload_n 0, 1)) ∧ (decode cX11_feed 23 = .ok (.iload_n 3, 1)) ∧ (decode cX11_feed 24 = .ok (.invokevirtual 141, 3)) ∧ (decode cX11_feed 27 = .ok (.aload_n 0, 1)) := by decide +kernel
theorem dX11_feed_0 : decode cX11_feed 0 = .ok (.aload_n 0, 1) := dq_X11_feed_0.1
theorem dX11_feed_1 : decode cX11_feed 1 = .ok (.getfield 138, 3) := dq_X11_feed_0.2.1
theorem dX11_feed_4 : decode cX11_feed 4 = .ok (.sipush 8980, 3) := dq_X11_feed_0.2.2.1
theorem dX11_feed_7 : decode cX11_feed 7 = .ok (.if_icmp .le 5, 3) := dq_X11_feed_0.2.2.2.1
theorem dX11_feed_10 : decode cX11_feed 10 = .ok (.iconst (-1), 1) := dq_X11_feed_0.2.2.2.2.1
theorem dX11_feed_11 : decode cX11_feed 11 = .ok (.ireturn, 1) := dq_X11_feed_0.2.2.2.2.2.1
theorem dX11_feed_12 : decode cX11_feed 12 = .ok (.aload_n 0, 1) := dq_X11_feed_0.2.2.2.2.2.2.1
theorem dX11_feed_13 : decode cX11_feed 13 = .ok (.iload_n 1, 1) := dq_X11_feed_0.2.2.2.2.2.2.2.1
theorem dX11_feed_14 : decode cX11_feed 14 = .ok (.invokevirtual 141, 3) := dq_X11_feed_0.2.2.2.2.2.2.2.2.1
theorem dX11_feed_17 : decode cX11_feed 17 = .ok (.aload_n 0, 1) := dq_X11_feed_0.2.2.2.2.2.2.2.2.2.1
theorem dX11_feed_18 : decode cX11_feed 18 = .ok (.iload_n 2, 1) := dq_X11_feed_0.2.2.2.2.2.2.2.2.2.2.1
theorem dX11_feed_19 : decode cX11_feed 19 = .ok (.invokevirtual 141, 3) := dq_X11_feed_0.2.2.2.2.2.2.2.2.2.2.2.1
theorem dX11_feed_22 : decode cX11_feed 22 = .ok (.aload_n 0, 1) := dq_X11_feed_0.2.2.2.2.2.2.2.2.2.2.2.2.1
theorem dX11_feed_23 : decode cX11_feed 23 = .ok (.iload_n 3, 1) := dq_X11_feed_0.2.2.2.2.2.2.2.2.2.2.2.2.2.1
theorem dX11_feed_24 : decode cX11_feed 24 = .ok (.invokevirtual 141, 3) := dq_X11_feed_0.2.2.2.2.2.2.2.2.2.2.2.2.2.2.1
theorem dX11_feed_27 : decode cX11_feed 27 = .ok (.aload_n 0, 1) := dq_X11_feed_0.2.2.2.2.2.2.2.2.2.2.2.2.2.2.2
theorem dq_X11_feed_28 : (decode cX11_feed 28 = .ok (.iload 4, 2)) ∧ (decode cX11_feed 30 = .ok (.invokevirtual 141, 3)) ∧ (decode cX11_feed 33 = .ok (.aload_n 0, 1)) ∧ (decode cX11_feed 34 = .ok (.iload 5, 2)) ∧ (decode cX11_feed 36 = .ok (.invokevirtual 141, 3)) ∧ (decode cX11_feed 39 = .ok (.aload_n 0, 1)) ∧ (decode cX11_feed 40 = .ok (.getfield 138, 3)) ∧ (decode cX11_feed 43 = .ok (.ireturn, 1)) := by decide +kernel
theorem dX11_feed_28 : decode cX11_feed 28 = .ok (.iload 4, 2) := dq_X11_feed_28.1
theorem dX11_feed_30 : decode cX11_feed 30 = .ok (.invokevirtual 141, 3) := dq_X11_feed_28.2.1
theorem dX11_feed_33 : decode cX11_feed 33 = .ok (.aload_n 0, 1) := dq_X11_feed_28.2.2.1
theorem dX11_feed_34 : decode cX11_feed 34 = .ok (.iload 5, 2) := dq_X11_feed_28.2.2.2.1
theorem dX11_feed_36 : decode cX11_feed 36 = .ok (.invokevirtual 141, 3) := dq_X11_feed_28.2.2.2.2.1
theorem dX11_feed_39 : decode cX11_feed 39 = .ok (.aload_n 0, 1) := dq_X11_feed_28.2.2.2.2.2.1
theorem dX11_feed_40 : decode cX11_feed 40 = .ok (.getfield 138, 3) := dq_X11_feed_28.2.2.2.2.2.2.1
theorem dX11_feed_43 : decode cX11_feed 43 = .ok (.ireturn, 1) := dq_X11_feed_28.2.2.2.2.2.2.2
theorem dq_X11_end_0 : (decode cX11_end 0 = .ok (.iload_n 1, 1)) ∧ (decode cX11_end 1 = .ok (.iconst 0, 1)) ∧ (decode cX11_end 2 = .ok (.aload_n 0, 1)) ∧ (decode cX11_end 3 = .ok (.getfield 138, 3)) ∧ (decode cX11_end 6 = .ok (.invokestatic 145, 3)) ∧ (decode cX11_end 9 = .ok (.ifCond .ne 5, 3)) ∧ (decode cX11_end 12 = .ok (.iconst 0, 1)) ∧ (decode cX11_end 13 = .ok (.ireturn, 1)) ∧ (decode cX11_end 14 = .ok (.aload_n 0, 1)) ∧ (decode cX11_end 15 = .ok (.iload_n 1, 1)) ∧ (decode cX11_end 16 = .ok (.putfield 138, 3)) ∧ (decode cX11_end 19 = .ok (.iconst 1, 1)) ∧ (decode cX11_end 20 = .ok (.ireturn, 1)) := by decide +kernel
theorem dX11_end_0 : decode cX11_end 0 = .ok (.iload_n 1, 1) := dq_X11_end_0.1
theorem dX11_end_1 : decode cX11_end 1 = .ok (.iconst 0, 1) := dq_X11_end_0.2.1
theorem dX11_end_2 : decode cX11_end 2 = .ok (.aload_n 0, 1) := dq_X11_end_0.2.2.1
theorem dX11_end_3 : decode cX11_end 3 = .ok (.getfield 138, 3) := dq_X11_end_0.2.2.2.1
theorem dX11_end_6 : decode cX11_end 6 = .ok (.invokestatic 145, 3) := dq_X11_end_0.2.2.2.2.1
theorem dX11_end_9 : decode cX11_end 9 = .ok (.ifCond .ne 5, 3) := dq_X11_end_0.2.2.2.2.2.1
theorem dX11_end_12 : decode cX11_end 12 = .ok (.iconst 0, 1) := dq_X11_end_0.2.2.2.2.2.2.1
theorem dX11_end_13 : decode cX11_end 13 = .ok (.ireturn, 1) := dq_X11_end_0.2.2.2.2.2.2.2.1
theorem dX11_end_14 : decode cX11_end 14 = .ok (.aload_n 0, 1) := dq_X11_end_0.2.2.2.2.2.2.2.2.1
theorem dX11_end_15 : decode cX11_end 15 = .ok (.iload_n 1, 1) := dq_X11_end_0.2.2.2.2.2.2.2.2.2.1
theorem dX11_end_16 : decode cX11_end 16 = .ok (.putfield 138, 3) := dq_X11_end_0.2.2.2.2.2.2.2.2.2.2.1
theorem dX11_end_19 : decode cX11_end 19 = .ok (.iconst 1, 1) := dq_X11_end_0.2.2.2.2.2.2.2.2.2.2.2.1
theorem dX11_end_20 : decode cX11_end 20 = .ok (.ireturn, 1) := dq_X11_end_0.2.2.2.2.2.2.2.2.2.2.2.2
theorem dq_X11_poke_0 : (decode cX11_poke 0 = .ok (.iload_n 1, 1)) ∧ (decode cX11_poke 1 = .ok (.iconst 0, 1)) ∧ (decode cX11_poke 2 = .ok (.sipush 8999, 3)) ∧ (decode cX11_poke 5 = .ok (.invokestatic 145, 3)) ∧ (decode cX11_poke 8 = .ok (.ifCond .ne 5, 3)) ∧ (decode cX11_poke 11 = .ok (.iconst (-1), 1)) ∧ (decode cX11_poke 12 = .ok (.ireturn, 1)) ∧ (decode cX11_poke 13 = .ok (.aload_n 0, 1)) ∧ (decode cX11_poke 14 = .ok (.getfield 138, 3)) ∧ (decode cX11_poke 17 = .ok (.iload_n 1, 1)) ∧ (decode cX11_poke 18 = .ok (.if_icmp .gt 26, 3)) ∧ (decode cX11_poke 21 = .ok (.aload_n 0, 1)) ∧ (decode cX11_poke 22 = .ok (.getfield 9, 3)) ∧ (decode cX11_poke 25 = .ok (.aload_n 0, 1)) ∧ (decode cX11_poke 26 = .ok (.getfield 138, 3)) ∧ (decode cX11_poke 29 = .ok (.iconst 0, 1)) := by decide +kernel
theorem dX11_poke_0 : decode cX11_poke 0 = .ok (.iload_n 1, 1) := dq_X11_poke_0.1
theorem dX11_poke_1 : decode cX11_poke 1 = .ok (.iconst 0, 1) := dq_X11_poke_0.2.1
theorem dX11_poke_2 : decode cX11_poke 2 = .ok (.sipush 8999, 3) := dq_X11_poke_0.2.2.1
theorem dX11_poke_5 : decode cX11_poke 5 = .ok (.invokestatic 145, 3) := dq_X11_poke_0.2.2.2.1
theorem dX11_poke_8 : decode cX11_poke 8 = .ok (.ifCond .ne 5, 3) := dq_X11_poke_0.2.2.2.2.1
theorem dX11_poke_11 : decode cX11_poke 11 = .ok (.iconst (-1), 1) := dq_X11_poke_0.2.2.2.2.2.1
theorem dX11_poke_12 : decode cX11_poke 12 = .ok (.ireturn, 1) := dq_X11_poke_0.2.2.2.2.2.2.1
theorem dX11_poke_13 : decode cX11_poke 13 = .ok (.aload_n 0, 1) := dq_X11_poke_0.2.2.2.2.2.2.2.1
theorem dX11_poke_14 : decode cX11_poke 14 = .ok (.getfield 138, 3) := dq_X11_poke_0.2.2.2.2.2.2.2.2.1
theorem dX11_poke_17 : decode cX11_poke 17 = .ok (.iload_n 1, 1) := dq_X11_poke_0.2.2.2.2.2.2.2.2.2.1
theorem dX11_poke_18 : decode cX11_poke 18 = .ok (.if_icmp .gt 26, 3) := dq_X11_poke_0.2.2.2.2.2.2.2.2.2.2.1
theorem dX11_poke_21 : decode cX11_poke 21 = .ok (.aload_n 0, 1) := dq_X11_poke_0.2.2.2.2.2.2.2.2.2.2.2.1
theorem dX11_poke_22 : decode cX11_poke 22 = .ok (.getfield 9, 3) := dq_X11_poke_0.2.2.2.2.2.2.2.2.2.2.2.2.1
theorem dX11_poke_25 : decode cX11_poke 25 = .ok (.aload_n 0, 1) := dq_X11_poke_0.2.2.2.2.2.2.2.2.2.2.2.2.2.1
theorem dX11_poke_26 : decode cX11_poke 26 = .ok (.getfield 138, 3) := dq_X11_poke_0.2.2.2.2.2.2.2.2.2.2.2.2.2.2.1
theorem dX11_poke_29 : decode cX11_poke 29 = .ok (.iconst 0, 1) := dq_X11_poke_0.2.2.2.2.2.2.2.2.2.2.2.2.2.2.2
theorem dq_X11_poke_30 : (decode cX11_poke 30 = .ok (.bastore, 1)) ∧ (decode cX11_poke 31 = .ok (.aload_n 0, 1)) ∧ (decode cX11_poke 32 = .ok (.dup, 1)) ∧ (decode cX11_poke 33 = .ok (.getfield 138, 3)) ∧ (decode cX11_poke 36 = .ok (.iconst 1, 1)) ∧ (decode cX11_poke 37 = .ok (.iadd, 1)) ∧ (decode cX11_poke 38 = .ok (.putfield 138, 3)) ∧ (decode cX11_poke 41 = .ok (.goto (-28), 3)) ∧ (decode cX11_poke 44 = .ok (.aload_n 0, 1)) ∧ (decode cX11_poke 45 = .ok (.getfield 9, 3)) ∧ (decode cX11_poke 48 = .ok (.iload_n 1, 1)) ∧ (decode cX11_poke 49 = .ok (.iload_n 2, 1)) ∧ (decode cX11_poke 50 = .ok (.i2b, 1)) ∧ (decode cX11_poke 51 = .ok (.bastore, 1)) ∧ (decode cX11_poke 52 = .ok (.aload_n 0, 1)) ∧ (decode cX11_poke 53 = .ok (.getfield 138, 3)) := by decide +kernel
theorem dX11_poke_30 : decode cX11_poke 30 = .ok (.bastore, 1) := dq_X11_poke_30.1
theorem dX11_poke_31 : decode cX11_poke 31 = .ok (.aload_n 0, 1) := dq_X11_poke_30.2.1
theorem dX11_poke_32 : decode cX11_poke 32 = .ok (.dup, 1) := dq_X11_poke_30.2.2.1
theorem dX11_poke_33 : decode cX11_poke 33 = .ok (.getfield 138, 3) := dq_X11_poke_30.2.2.2.1
theorem dX11_poke_36 : decode cX11_poke 36 = .ok (.iconst 1, 1) := dq_X11_poke_30.2.2.2.2.1
theorem dX11_poke_37 : decode cX11_poke 37 = .ok (.iadd, 1) := dq_X11_poke_30.2.2.2.2.2.1
theorem dX11_poke_38 : decode cX11_poke 38 = .ok (.putfield 138, 3) := dq_X11_poke_30.2.2.2.2.2.2.1
theorem dX11_poke_41 : decode cX11_poke 41 = .ok (.goto (-28), 3) := dq_X11_poke_30.2.2.2.2.2.2.2.1
theorem dX11_poke_44 : decode cX11_poke 44 = .ok (.aload_n 0, 1) := dq_X11_poke_30.2.2.2.2.2.2.2.2.1
theorem dX11_poke_45 : decode cX11_poke 45 = .ok (.getfield 9, 3) := dq_X11_poke_30.2.2.2.2.2.2.2.2.2.1
theorem dX11_poke_48 : decode cX11_poke 48 = .ok (.iload_n 1, 1) := dq_X11_poke_30.2.2.2.2.2.2.2.2.2.2.1
theorem dX11_poke_49 : decode cX11_poke 49 = .ok (.iload_n 2, 1) := dq_X11_poke_30.2.2.2.2.2.2.2.2.2.2.2.1
theorem dX11_poke_50 : decode cX11_poke 50 = .ok (.i2b, 1) := dq_X11_poke_30.2.2.2.2.2.2.2.2.2.2.2.2.1
theorem dX11_poke_51 : decode cX11_poke 51 = .ok (.bastore, 1) := dq_X11_poke_30.2.2.2.2.2.2.2.2.2.2.2.2.2.1
theorem dX11_poke_52 : decode cX11_poke 52 = .ok (.aload_n 0, 1) := dq_X11_poke_30.2.2.2.2.2.2.2.2.2.2.2.2.2.2.1
theorem dX11_poke_53 : decode cX11_poke 53 = .ok (.getfield 138, 3) := dq_X11_poke_30.2.2.2.2.2.2.2.2.2.2.2.2.2.2.2
theorem dX11_poke_56 : decode cX11_poke 56 = .ok (.ireturn, 1) := by decide +kernel
theorem dq_X11_tape_0 : (decode cX11_tape 0 = .ok (.iload_n 1, 1)) ∧ (decode cX11_tape 1 = .ok (.iconst 0, 1)) ∧ (decode cX11_tape 2 = .ok (.aload_n 0, 1)) ∧ (decode cX11_tape 3 = .ok (.getfield 138, 3)) ∧ (decode cX11_tape 6 = .ok (.iconst 1, 1)) ∧ (decode cX11_tape 7 = .ok (.isub, 1)) ∧ (decode cX11_tape 8 = .ok (.invokestatic 145, 3)) ∧ (decode cX11_tape 11 = .ok (.ifCond .eq 16, 3)) ∧ (decode cX11_tape 14 = .ok (.aload_n 0, 1)) ∧ (decode cX11_tape 15 = .ok (.getfield 9, 3)) ∧ (decode cX11_tape 18 = .ok (.iload_n 1, 1)) ∧ (decode cX11_tape 19 = .ok (.baload, 1)) ∧ (decode cX11_tape 20 = .ok (.sipush 255, 3)) ∧ (decode cX11_tape 23 = .ok (.iand, 1)) ∧ (decode cX11_tape 24 = .ok (.goto 4, 3)) ∧ (decode cX11_tape 27 = .ok (.iconst (-1), 1)) := by decide +kernel
theorem dX11_tape_0 : decode cX11_tape 0 = .ok (.iload_n 1, 1) := dq_X11_tape_0.1
theorem dX11_tape_1 : decode cX11_tape 1 = .ok (.iconst 0, 1) := dq_X11_tape_0.2.1
theorem dX11_tape_2 : decode cX11_tape 2 = .ok (.aload_n 0, 1) := dq_X11_tape_0.2.2.1
theorem dX11_tape_3 : decode cX11_tape 3 = .ok (.getfield 138, 3) := dq_X11_tape_0.2.2.2.1
theorem dX11_tape_6 : decode cX11_tape 6 = .ok (.iconst 1, 1) := dq_X11_tape_0.2.2.2.2.1
theorem dX11_tape_7 : decode cX11_tape 7 = .ok (.isub, 1) := dq_X11_tape_0.2.2.2.2.2.1
theorem dX11_tape_8 : decode cX11_tape 8 = .ok (.invokestatic 145, 3) := dq_X11_tape_0.2.2.2.2.2.2.1
theorem dX11_tape_11 : decode cX11_tape 11 = .ok (.ifCond .eq 16, 3) := dq_X11_tape_0.2.2.2.2.2.2.2.1
theorem dX11_tape_14 : decode cX11_tape 14 = .ok (.aload_n 0, 1) := dq_X11_tape_0.2.2.2.2.2.2.2.2.1
theorem dX11_tape_15 : decode cX11_tape 15 = .ok (.getfield 9, 3) := dq_X11_tape_0.2.2.2.2.2.2.2.2.2.1
theorem dX11_tape_18 : decode cX11_tape 18 = .ok (.iload_n 1, 1) := dq_X11_tape_0.2.2.2.2.2.2.2.2.2.2.1
theorem dX11_tape_19 : decode cX11_tape 19 = .ok (.baload, 1) := dq_X11_tape_0.2.2.2.2.2.2.2.2.2.2.2.1
theorem dX11_tape_20 : decode cX11_tape 20 = .ok (.sipush 255, 3) := dq_X11_tape_0.2.2.2.2.2.2.2.2.2.2.2.2.1
theorem dX11_tape_23 : decode cX11_tape 23 = .ok (.iand, 1) := dq_X11_tape_0.2.2.2.2.2.2.2.2.2.2.2.2.2.1
theorem dX11_tape_24 : decode cX11_tape 24 = .ok (.goto 4, 3) := dq_X11_tape_0.2.2.2.2.2.2.2.2.2.2.2.2.2.2.1
theorem dX11_tape_27 : decode cX11_tape 27 = .ok (.iconst (-1), 1) := dq_X11_tape_0.2.2.2.2.2.2.2.2.2.2.2.2.2.2.2
theorem dX11_tape_28 : decode cX11_tape 28 = .ok (.ireturn, 1) := by decide +kernel
theorem dq_X11_fault_0 : (decode cX11_fault 0 = .ok (.iload_n 1, 1)) ∧ (decode cX11_fault 1 = .ok (.ifCond .ne 10, 3)) ∧ (decode cX11_fault 4 = .ok (.aload_n 0, 1)) ∧ (decode cX11_fault 5 = .ok (.getfield 149, 3)) ∧ (decode cX11_fault 8 = .ok (.goto 16, 3)) ∧ (decode cX11_fault 11 = .ok (.iload_n 1, 1)) ∧ (decode cX11_fault 12 = .ok (.iconst 1, 1)) ∧ (decode cX11_fault 13 = .ok (.if_icmp .ne 10, 3)) ∧ (decode cX11_fault 16 = .ok (.aload_n 0, 1)) ∧ (decode cX11_fault 17 = .ok (.getfield 13, 3)) ∧ (decode cX11_fault 20 = .ok (.goto 4, 3)) ∧ (decode cX11_fault 23 = .ok (.iconst (-1), 1)) ∧ (decode cX11_fault 24 = .ok (.ireturn, 1)) := by decide +kernel
theorem dX11_fault_0 : decode cX11_fault 0 = .ok (.iload_n 1, 1) := dq_X11_fault_0.1
theorem dX11_fault_1 : decode cX11_fault 1 = .ok (.ifCond .ne 10, 3) := dq_X11_fault_0.2.1
theorem dX11_fault_4 : decode cX11_fault 4 = .ok (.aload_n 0, 1) := dq_X11_fault_0.2.2.1
theorem dX11_fault_5 : decode cX11_fault 5 = .ok (.getfield 149, 3) := dq_X11_fault_0.2.2.2.1
theorem dX11_fault_8 : decode cX11_fault 8 = .ok (.goto 16, 3) := dq_X11_fault_0.2.2.2.2.1
theorem dX11_fault_11 : decode cX11_fault 11 = .ok (.iload_n 1, 1) := dq_X11_fault_0.2.2.2.2.2.1
theorem dX11_fault_12 : decode cX11_fault 12 = .ok (.iconst 1, 1) := dq_X11_fault_0.2.2.2.2.2.2.1
theorem dX11_fault_13 : decode cX11_fault 13 = .ok (.if_icmp .ne 10, 3) := dq_X11_fault_0.2.2.2.2.2.2.2.1
theorem dX11_fault_16 : decode cX11_fault 16 = .ok (.aload_n 0, 1) := dq_X11_fault_0.2.2.2.2.2.2.2.2.1
theorem dX11_fault_17 : decode cX11_fault 17 = .ok (.getfield 13, 3) := dq_X11_fault_0.2.2.2.2.2.2.2.2.2.1
theorem dX11_fault_20 : decode cX11_fault 20 = .ok (.goto 4, 3) := dq_X11_fault_0.2.2.2.2.2.2.2.2.2.2.1
theorem dX11_fault_23 : decode cX11_fault 23 = .ok (.iconst (-1), 1) := dq_X11_fault_0.2.2.2.2.2.2.2.2.2.2.2.1
theorem dX11_fault_24 : decode cX11_fault 24 = .ok (.ireturn, 1) := dq_X11_fault_0.2.2.2.2.2.2.2.2.2.2.2.2
theorem dq_X11_one_0 : (decode cX11_one 0 = .ok (.aload_n 0, 1)) ∧ (decode cX11_one 1 = .ok (.getfield 9, 3)) ∧ (decode cX11_one 4 = .ok (.iload_n 1, 1)) ∧ (decode cX11_one 5 = .ok (.baload, 1)) ∧ (decode cX11_one 6 = .ok (.sipush 255, 3)) ∧ (decode cX11_one 9 = .ok (.iand, 1)) ∧ (decode cX11_one 10 = .ok (.ireturn, 1)) := by decide +kernel
theorem dX11_one_0 : decode cX11_one 0 = .ok (.aload_n 0, 1) := dq_X11_one_0.1
theorem dX11_one_1 : decode cX11_one 1 = .ok (.getfield 9, 3) := dq_X11_one_0.2.1
theorem dX11_one_4 : decode cX11_one 4 = .ok (.iload_n 1, 1) := dq_X11_one_0.2.2.1
theorem dX11_one_5 : decode cX11_one 5 = .ok (.baload, 1) := dq_X11_one_0.2.2.2.1
theorem dX11_one_6 : decode cX11_one 6 = .ok (.sipush 255, 3) := dq_X11_one_0.2.2.2.2.1
theorem dX11_one_9 : decode cX11_one 9 = .ok (.iand, 1) := dq_X11_one_0.2.2.2.2.2.1
theorem dX11_one_10 : decode cX11_one 10 = .ok (.ireturn, 1) := dq_X11_one_0.2.2.2.2.2.2
theorem dq_X11_two_0 : (decode cX11_two 0 = .ok (.iconst 2, 1)) ∧ (decode cX11_two 1 = .ok (.sipush 256, 3)) ∧ (decode cX11_two 4 = .ok (.aload_n 0, 1)) ∧ (decode cX11_two 5 = .ok (.iload_n 1, 1)) ∧ (decode cX11_two 6 = .ok (.invokevirtual 152, 3)) ∧ (decode cX11_two 9 = .ok (.imul, 1)) ∧ (decode cX11_two 10 = .ok (.aload_n 0, 1)) ∧ (decode cX11_two 11 = .ok (.iload_n 1, 1)) ∧ (decode cX11_two 12 = .ok (.iconst 1, 1)) ∧ (decode cX11_two 13 = .ok (.iadd, 1)) ∧ (decode cX11_two 14 = .ok (.invokevirtual 152, 3)) ∧ (decode cX11_two 17 = .ok (.iadd, 1)) ∧ (decode cX11_two 18 = .ok (.imul, 1)) ∧ (decode cX11_two 19 = .ok (.ireturn, 1)) := by decide +kernel
theorem dX11_two_0 : decode cX11_two 0 = .ok (.iconst 2, 1) := dq_X11_two_0.1
theorem dX11_two_1 : decode cX11_two 1 = .ok (.sipush 256, 3) := dq_X11_two_0.2.1
theorem dX11_two_4 : decode cX11_two 4 = .ok (.aload_n 0, 1) := dq_X11_two_0.2.2.1
theorem dX11_two_5 : decode cX11_two 5 = .ok (.iload_n 1, 1) := dq_X11_two_0.2.2.2.1
theorem dX11_two_6 : decode cX11_two 6 = .ok (.invokevirtual 152, 3) := dq_X11_two_0.2.2.2.2.1
theorem dX11_two_9 : decode cX11_two 9 = .ok (.imul, 1) := dq_X11_two_0.2.2.2.2.2.1
theorem dX11_two_10 : decode cX11_two 10 = .ok (.aload_n 0, 1) := dq_X11_two_0.2.2.2.2.2.2.1
theorem dX11_two_11 : decode cX11_two 11 = .ok (.iload_n 1, 1) := dq_X11_two_0.2.2.2.2.2.2.2.1
theorem dX11_two_12 : decode cX11_two 12 = .ok (.iconst 1, 1) := dq_X11_two_0.2.2.2.2.2.2.2.2.1
theorem dX11_two_13 : decode cX11_two 13 = .ok (.iadd, 1) := dq_X11_two_0.2.2.2.2.2.2.2.2.2.1
theorem dX11_two_14 : decode cX11_two 14 = .ok (.invokevirtual 152, 3) := dq_X11_two_0.2.2.2.2.2.2.2.2.2.2.1
theorem dX11_two_17 : decode cX11_two 17 = .ok (.iadd, 1) := dq_X11_two_0.2.2.2.2.2.2.2.2.2.2.2.1
theorem dX11_two_18 : decode cX11_two 18 = .ok (.imul, 1) := dq_X11_two_0.2.2.2.2.2.2.2.2.2.2.2.2.1
theorem dX11_two_19 : decode cX11_two 19 = .ok (.ireturn, 1) := dq_X11_two_0.2.2.2.2.2.2.2.2.2.2.2.2.2
theorem dq_X11_refuse_0 : (decode cX11_refuse 0 = .ok (.aload_n 0, 1)) ∧ (decode cX11_refuse 1 = .ok (.iload_n 1, 1)) ∧ (decode cX11_refuse 2 = .ok (.putfield 149, 3)) ∧ (decode cX11_refuse 5 = .ok (.aload_n 0, 1)) ∧ (decode cX11_refuse 6 = .ok (.iload_n 2, 1)) ∧ (decode cX11_refuse 7 = .ok (.putfield 13, 3)) ∧ (decode cX11_refuse 10 = .ok (.iconst (-1), 1)) ∧ (decode cX11_refuse 11 = .ok (.ireturn, 1)) := by decide +kernel
theorem dX11_refuse_0 : decode cX11_refuse 0 = .ok (.aload_n 0, 1) := dq_X11_refuse_0.1
theorem dX11_refuse_1 : decode cX11_refuse 1 = .ok (.iload_n 1, 1) := dq_X11_refuse_0.2.1
theorem dX11_refuse_2 : decode cX11_refuse 2 = .ok (.putfield 149, 3) := dq_X11_refuse_0.2.2.1
theorem dX11_refuse_5 : decode cX11_refuse 5 = .ok (.aload_n 0, 1) := dq_X11_refuse_0.2.2.2.1
theorem dX11_refuse_6 : decode cX11_refuse 6 = .ok (.iload_n 2, 1) := dq_X11_refuse_0.2.2.2.2.1
theorem dX11_refuse_7 : decode cX11_refuse 7 = .ok (.putfield 13, 3) := dq_X11_refuse_0.2.2.2.2.2.1
theorem dX11_refuse_10 : decode cX11_refuse 10 = .ok (.iconst (-1), 1) := dq_X11_refuse_0.2.2.2.2.2.2.1
theorem dX11_refuse_11 : decode cX11_refuse 11 = .ok (.ireturn, 1) := dq_X11_refuse_0.2.2.2.2.2.2.2
theorem dq_X11_wrongHead_0 : (decode cX11_wrongHead 0 = .ok (.iconst 0, 1)) ∧ (decode cX11_wrongHead 1 = .ok (.istore_n 1, 1)) ∧ (decode cX11_wrongHead 2 = .ok (.iconst 1, 1)) ∧ (decode cX11_wrongHead 3 = .ok (.istore_n 2, 1)) ∧ (decode cX11_wrongHead 4 = .ok (.iload_n 2, 1)) ∧ (decode cX11_wrongHead 5 = .ok (.bipush 32, 2)) ∧ (decode cX11_wrongHead 7 = .ok (.if_icmp .ge 129, 3)) ∧ (decode cX11_wrongHead 10 = .ok (.bipush 30, 2)) ∧ (decode cX11_wrongHead 12 = .ok (.iload_n 2, 1)) ∧ (decode cX11_wrongHead 13 = .ok (.imul, 1)) ∧ (decode cX11_wrongHead 14 = .ok (.bipush 10, 2)) ∧ (decode cX11_wrongHead 16 = .ok (.isub, 1)) ∧ (decode cX11_wrongHead 17 = .ok (.istore_n 3, 1)) ∧ (decode cX11_wrongHead 18 = .ok (.aload_n 0, 1)) ∧ (decode cX11_wrongHead 19 = .ok (.iload_n 3, 1)) ∧ (decode cX11_wrongHead 20 = .ok (.bipush 22, 2)) := by decide +kernel
theorem dX11_wrongHead_0 : decode cX11_wrongHead 0 = .ok (.iconst 0, 1) := dq_X11_wrongHead_0.1
theorem dX11_wrongHead_1 : decode cX11_wrongHead 1 = .ok (.istore_n 1, 1) := dq_X11_wrongHead_0.2.1
theorem dX11_wrongHead_2 : decode cX11_wrongHead 2 = .ok (.iconst 1, 1) := dq_X11_wrongHead_0.2.2.1
theorem dX11_wrongHead_3 : decode cX11_wrongHead 3 = .ok (.istore_n 2, 1) := dq_X11_wrongHead_0.2.2.2.1
theorem dX11_wrongHead_4 : decode cX11_wrongHead 4 = .ok (.iload_n 2, 1) := dq_X11_wrongHead_0.2.2.2.2.1
theorem dX11_wrongHead_5 : decode cX11_wrongHead 5 = .ok (.bipush 32, 2) := dq_X11_wrongHead_0.2.2.2.2.2.1
theorem dX11_wrongHead_7 : decode cX11_wrongHead 7 = .ok (.if_icmp .ge 129, 3) := dq_X11_wrongHead_0.2.2.2.2.2.2.1
theorem dX11_wrongHead_10 : decode cX11_wrongHead 10 = .ok (.bipush 30, 2) := dq_X11_wrongHead_0.2.2.2.2.2.2.2.1
theorem dX11_wrongHead_12 : decode cX11_wrongHead 12 = .ok (.iload_n 2, 1) := dq_X11_wrongHead_0.2.2.2.2.2.2.2.2.1
theorem dX11_wrongHead_13 : decode cX11_wrongHead 13 = .ok (.imul, 1) := dq_X11_wrongHead_0.2.2.2.2.2.2.2.2.2.1
theorem dX11_wrongHead_14 : decode cX11_wrongHead 14 = .ok (.bipush 10, 2) := dq_X11_wrongHead_0.2.2.2.2.2.2.2.2.2.2.1
theorem dX11_wrongHead_16 : decode cX11_wrongHead 16 = .ok (.isub, 1) := dq_X11_wrongHead_0.2.2.2.2.2.2.2.2.2.2.2.1
theorem dX11_wrongHead_17 : decode cX11_wrongHead 17 = .ok (.istore_n 3, 1) := dq_X11_wrongHead_0.2.2.2.2.2.2.2.2.2.2.2.2.1
theorem dX11_wrongHead_18 : decode cX11_wrongHead 18 = .ok (.aload_n 0, 1) := dq_X11_wrongHead_0.2.2.2.2.2.2.2.2.2.2.2.2.2.1
theorem dX11_wrongHead_19 : decode cX11_wrongHead 19 = .ok (.iload_n 3, 1) := dq_X11_wrongHead_0.2.2.2.2.2.2.2.2.2.2.2.2.2.2.1
theorem dX11_wrongHead_20 : decode cX11_wrongHead 20 = .ok (.bipush 22, 2) := dq_X11_wrongHead_0.2.2.2.2.2.2.2.2.2.2.2.2.2.2.2
theorem dq_X11_wrongHead_22 : (decode cX11_wrongHead 22 = .ok (.iadd, 1)) ∧ (decode cX11_wrongHead 23 = .ok (.invokevirtual 156, 3)) ∧ (decode cX11_wrongHead 26 = .ok (.istore 4, 2)) ∧ (decode cX11_wrongHead 28 = .ok (.iload_n 1, 1)) ∧ (decode cX11_wrongHead 29 = .ok (.iload 4, 2)) ∧ (decode cX11_wrongHead 31 = .ok (.iadd, 1)) ∧ (decode cX11_wrongHead 32 = .ok (.istore_n 1, 1)) ∧ (decode cX11_wrongHead 33 = .ok (.iload 4, 2)) ∧ (decode cX11_wrongHead 35 = .ok (.sipush 2000, 3)) ∧ (decode cX11_wrongHead 38 = .ok (.if_icmp .gt 10, 3)) ∧ (decode cX11_wrongHead 41 = .ok (.iload_n 1, 1)) ∧ (decode cX11_wrongHead 42 = .ok (.sipush 4000, 3)) ∧ (decode cX11_wrongHead 45 = .ok (.if_icmp .le 8, 3)) ∧ (decode cX11_wrongHead 48 = .ok (.iload_n 3, 1)) ∧ (decode cX11_wrongHead 49 = .ok (.bipush 22, 2)) ∧ (decode cX11_wrongHead 51 = .ok (.iadd, 1)) := by decide +kernel
theorem dX11_wrongHead_22 : decode cX11_wrongHead 22 = .ok (.iadd, 1) := dq_X11_wrongHead_22.1
theorem dX11_wrongHead_23 : decode cX11_wrongHead 23 = .ok (.invokevirtual 156, 3) := dq_X11_wrongHead_22.2.1
theorem dX11_wrongHead_26 : decode cX11_wrongHead 26 = .ok (.istore 4, 2) := dq_X11_wrongHead_22.2.2.1
theorem dX11_wrongHead_28 : decode cX11_wrongHead 28 = .ok (.iload_n 1, 1) := dq_X11_wrongHead_22.2.2.2.1
theorem dX11_wrongHead_29 : decode cX11_wrongHead 29 = .ok (.iload 4, 2) := dq_X11_wrongHead_22.2.2.2.2.1
theorem dX11_wrongHead_31 : decode cX11_wrongHead 31 = .ok (.iadd, 1) := dq_X11_wrongHead_22.2.2.2.2.2.1
theorem dX11_wrongHead_32 : decode cX11_wrongHead 32 = .ok (.istore_n 1, 1) := dq_X11_wrongHead_22.2.2.2.2.2.2.1
theorem dX11_wrongHead_33 : decode cX11_wrongHead 33 = .ok (.iload 4, 2) := dq_X11_wrongHead_22.2.2.2.2.2.2.2.1
theorem dX11_wrongHead_35 : decode cX11_wrongHead 35 = .ok (.sipush 2000, 3) := dq_X11_wrongHead_22.2.2.2.2.2.2.2.2.1
theorem dX11_wrongHead_38 : decode cX11_wrongHead 38 = .ok (.if_icmp .gt 10, 3) := dq_X11_wrongHead_22.2.2.2.2.2.2.2.2.2.1
theorem dX11_wrongHead_41 : decode cX11_wrongHead 41 = .ok (.iload_n 1, 1) := dq_X11_wrongHead_22.2.2.2.2.2.2.2.2.2.2.1
theorem dX11_wrongHead_42 : decode cX11_wrongHead 42 = .ok (.sipush 4000, 3) := dq_X11_wrongHead_22.2.2.2.2.2.2.2.2.2.2.2.1
theorem dX11_wrongHead_45 : decode cX11_wrongHead 45 = .ok (.if_icmp .le 8, 3) := dq_X11_wrongHead_22.2.2.2.2.2.2.2.2.2.2.2.2.1
theorem dX11_wrongHead_48 : decode cX11_wrongHead 48 = .ok (.iload_n 3, 1) := dq_X11_wrongHead_22.2.2.2.2.2.2.2.2.2.2.2.2.2.1
theorem dX11_wrongHead_49 : decode cX11_wrongHead 49 = .ok (.bipush 22, 2) := dq_X11_wrongHead_22.2.2.2.2.2.2.2.2.2.2.2.2.2.2.1
theorem dX11_wrongHead_51 : decode cX11_wrongHead 51 = .ok (.iadd, 1) := dq_X11_wrongHead_22.2.2.2.2.2.2.2.2.2.2.2.2.2.2.2
theorem dq_X11_wrongHead_52 : (decode cX11_wrongHead 52 = .ok (.ireturn, 1)) ∧ (decode cX11_wrongHead 53 = .ok (.aload_n 0, 1)) ∧ (decode cX11_wrongHead 54 = .ok (.iload_n 3, 1)) ∧ (decode cX11_wrongHead 55 = .ok (.bipush 24, 2)) ∧ (decode cX11_wrongHead 57 = .ok (.iadd, 1)) ∧ (decode cX11_wrongHead 58 = .ok (.invokevirtual 152, 3)) ∧ (decode cX11_wrongHead 61 = .ok (.bipush 15, 2)) ∧ (decode cX11_wrongHead 63 = .ok (.if_icmp .le 8, 3)) ∧ (decode cX11_wrongHead 66 = .ok (.iload_n 3, 1)) ∧ (decode cX11_wrongHead 67 = .ok (.bipush 24, 2)) ∧ (decode cX11_wrongHead 69 = .ok (.iadd, 1)) ∧ (decode cX11_wrongHead 70 = .ok (.ireturn, 1)) ∧ (decode cX11_wrongHead 71 = .ok (.aload_n 0, 1)) ∧ (decode cX11_wrongHead 72 = .ok (.iload_n 3, 1)) ∧ (decode cX11_wrongHead 73 = .ok (.bipush 25, 2)) ∧ (decode cX11_wrongHead 75 = .ok (.iadd, 1)) := by decide +kernel
theorem dX11_wrongHead_52 : decode cX11_wrongHead 52 = .ok (.ireturn, 1) := dq_X11_wrongHead_52.1
theorem dX11_wrongHead_53 : decode cX11_wrongHead 53 = .ok (.aload_n 0, 1) := dq_X11_wrongHead_52.2.1
theorem dX11_wrongHead_54 : decode cX11_wrongHead 54 = .ok (.iload_n 3, 1) := dq_X11_wrongHead_52.2.2.1
theorem dX11_wrongHead_55 : decode cX11_wrongHead 55 = .ok (.bipush 24, 2) := dq_X11_wrongHead_52.2.2.2.1
theorem dX11_wrongHead_57 : decode cX11_wrongHead 57 = .ok (.iadd, 1) := dq_X11_wrongHead_52.2.2.2.2.1
theorem dX11_wrongHead_58 : decode cX11_wrongHead 58 = .ok (.invokevirtual 152, 3) := dq_X11_wrongHead_52.2.2.2.2.2.1
theorem dX11_wrongHead_61 : decode cX11_wrongHead 61 = .ok (.bipush 15, 2) := dq_X11_wrongHead_52.2.2.2.2.2.2.1
theorem dX11_wrongHead_63 : decode cX11_wrongHead 63 = .ok (.if_icmp .le 8, 3) := dq_X11_wrongHead_52.2.2.2.2.2.2.2.1
theorem dX11_wrongHead_66 : decode cX11_wrongHead 66 = .ok (.iload_n 3, 1) := dq_X11_wrongHead_52.2.2.2.2.2.2.2.2.1
theorem dX11_wrongHead_67 : decode cX11_wrongHead 67 = .ok (.bipush 24, 2) := dq_X11_wrongHead_52.2.2.2.2.2.2.2.2.2.1
theorem dX11_wrongHead_69 : decode cX11_wrongHead 69 = .ok (.iadd, 1) := dq_X11_wrongHead_52.2.2.2.2.2.2.2.2.2.2.1
theorem dX11_wrongHead_70 : decode cX11_wrongHead 70 = .ok (.ireturn, 1) := dq_X11_wrongHead_52.2.2.2.2.2.2.2.2.2.2.2.1
theorem dX11_wrongHead_71 : decode cX11_wrongHead 71 = .ok (.aload_n 0, 1) := dq_X11_wrongHead_52.2.2.2.2.2.2.2.2.2.2.2.2.1
theorem dX11_wrongHead_72 : decode cX11_wrongHead 72 = .ok (.iload_n 3, 1) := dq_X11_wrongHead_52.2.2.2.2.2.2.2.2.2.2.2.2.2.1
theorem dX11_wrongHead_73 : decode cX11_wrongHead 73 = .ok (.bipush 25, 2) := dq_X11_wrongHead_52.2.2.2.2.2.2.2.2.2.2.2.2.2.2.1
theorem dX11_wrongHead_75 : decode cX11_wrongHead 75 = .ok (.iadd, 1) := dq_X11_wrongHead_52.2.2.2.2.2.2.2.2.2.2.2.2.2.2.2
theorem dq_X11_wrongHead_76 : (decode cX11_wrongHead 76 = .ok (.invokevirtual 152, 3)) ∧ (decode cX11_wrongHead 79 = .ok (.bipush 64, 2)) ∧ (decode cX11_wrongHead 81 = .ok (.if_icmp .le 8, 3)) ∧ (decode cX11_wrongHead 84 = .ok (.iload_n 3, 1)) ∧ (decode cX11_wrongHead 85 = .ok (.bipush 25, 2)) ∧ (decode cX11_wrongHead 87 = .ok (.iadd, 1)) ∧ (decode cX11_wrongHead 88 = .ok (.ireturn, 1)) ∧ (decode cX11_wrongHead 89 = .ok (.aload_n 0, 1)) ∧ (decode cX11_wrongHead 90 = .ok (.iload_n 3, 1)) ∧ (decode cX11_wrongHead 91 = .ok (.bipush 28, 2)) ∧ (decode cX11_wrongHead 93 = .ok (.iadd, 1)) ∧ (decode cX11_wrongHead 94 = .ok (.invokevirtual 156, 3)) ∧ (decode cX11_wrongHead 97 = .ok (.istore 5, 2)) ∧ (decode cX11_wrongHead 99 = .ok (.aload_n 0, 1)) ∧ (decode cX11_wrongHead 100 = .ok (.iload_n 3, 1)) ∧ (decode cX11_wrongHead 101 = .ok (.bipush 26, 2)) := by decide +kernel
theorem dX11_wrongHead_76 : decode cX11_wrongHead 76 = .ok (.invokevirtual 152, 3) := dq_X11_wrongHead_76.1
theorem dX11_wrongHead_79 : decode cX11_wrongHead 79 = .ok (.bipush 64, 2) := dq_X11_wrongHead_76.2.1
theorem dX11_wrongHead_81 : decode cX11_wrongHead 81 = .ok (.if_icmp .le 8, 3) := dq_X11_wrongHead_76.2.2.1
theorem dX11_wrongHead_84 : decode cX11_wrongHead 84 = .ok (.iload_n 3, 1) := dq_X11_wrongHead_76.2.2.2.1
theorem dX11_wrongHead_85 : decode cX11_wrongHead 85 = .ok (.bipush 25, 2) := dq_X11_wrongHead_76.2.2.2.2.1
theorem dX11_wrongHead_87 : decode cX11_wrongHead 87 = .ok (.iadd, 1) := dq_X11_wrongHead_76.2.2.2.2.2.1
theorem dX11_wrongHead_88 : decode cX11_wrongHead 88 = .ok (.ireturn, 1) := dq_X11_wrongHead_76.2.2.2.2.2.2.1
theorem dX11_wrongHead_89 : decode cX11_wrongHead 89 = .ok (.aload_n 0, 1) := dq_X11_wrongHead_76.2.2.2.2.2.2.2.1
theorem dX11_wrongHead_90 : decode cX11_wrongHead 90 = .ok (.iload_n 3, 1) := dq_X11_wrongHead_76.2.2.2.2.2.2.2.2.1
theorem dX11_wrongHead_91 : decode cX11_wrongHead 91 = .ok (.bipush 28, 2) := dq_X11_wrongHead_76.2.2.2.2.2.2.2.2.2.1
theorem dX11_wrongHead_93 : decode cX11_wrongHead 93 = .ok (.iadd, 1) := dq_X11_wrongHead_76.2.2.2.2.2.2.2.2.2.2.1
theorem dX11_wrongHead_94 : decode cX11_wrongHead 94 = .ok (.invokevirtual 156, 3) := dq_X11_wrongHead_76.2.2.2.2.2.2.2.2.2.2.2.1
theorem dX11_wrongHead_97 : decode cX11_wrongHead 97 = .ok (.istore 5, 2) := dq_X11_wrongHead_76.2.2.2.2.2.2.2.2.2.2.2.2.1
theorem dX11_wrongHead_99 : decode cX11_wrongHead 99 = .ok (.aload_n 0, 1) := dq_X11_wrongHead_76.2.2.2.2.2.2.2.2.2.2.2.2.2.1
theorem dX11_wrongHead_100 : decode cX11_wrongHead 100 = .ok (.iload_n 3, 1) := dq_X11_wrongHead_76.2.2.2.2.2.2.2.2.2.2.2.2.2.2.1
theorem dX11_wrongHead_101 : decode cX11_wrongHead 101 = .ok (.bipush 26, 2) := dq_X11_wrongHead_76.2.2.2.2.2.2.2.2.2.2.2.2.2.2.2
theorem dq_X11_wrongHead_103 : (decode cX11_wrongHead 103 = .ok (.iadd, 1)) ∧ (decode cX11_wrongHead 104 = .ok (.invokevirtual 156, 3)) ∧ (decode cX11_wrongHead 107 = .ok (.iload 5, 2)) ∧ (decode cX11_wrongHead 109 = .ok (.iconst 2, 1)) ∧ (decode cX11_wrongHead 110 = .ok (.if_icmp .le 8, 3)) ∧ (decode cX11_wrongHead 113 = .ok (.iload 5, 2)) ∧ (decode cX11_wrongHead 115 = .ok (.goto 4, 3)) ∧ (decode cX11_wrongHead 118 = .ok (.iconst 0, 1)) ∧ (decode cX11_wrongHead 119 = .ok (.iadd, 1)) ∧ (decode cX11_wrongHead 120 = .ok (.iload 4, 2)) ∧ (decode cX11_wrongHead 122 = .ok (.if_icmp .le 8, 3)) ∧ (decode cX11_wrongHead 125 = .ok (.iload_n 3, 1)) ∧ (decode cX11_wrongHead 126 = .ok (.bipush 26, 2)) ∧ (decode cX11_wrongHead 128 = .ok (.iadd, 1)) ∧ (decode cX11_wrongHead 129 = .ok (.ireturn, 1)) ∧ (decode cX11_wrongHead 130 = .ok (.iinc 2 1, 3)) := by decide +kernel
theorem dX11_wrongHead_103 : decode cX11_wrongHead 103 = .ok (.iadd, 1) := dq_X11_wrongHead_103.1
theorem dX11_wrongHead_104 : decode cX11_wrongHead 104 = .ok (.invokevirtual 156, 3) := dq_X11_wrongHead_103.2.1
theorem dX11_wrongHead_107 : decode cX11_wrongHead 107 = .ok (.iload 5, 2) := dq_X11_wrongHead_103.2.2.1
theorem dX11_wrongHead_109 : decode cX11_wrongHead 109 = .ok (.iconst 2, 1) := dq_X11_wrongHead_103.2.2.2.1
theorem dX11_wrongHead_110 : decode cX11_wrongHead 110 = .ok (.if_icmp .le 8, 3) := dq_X11_wrongHead_103.2.2.2.2.1
theorem dX11_wrongHead_113 : decode cX11_wrongHead 113 = .ok (.iload 5, 2) := dq_X11_wrongHead_103.2.2.2.2.2.1
theorem dX11_wrongHead_115 : decode cX11_wrongHead 115 = .ok (.goto 4, 3) := dq_X11_wrongHead_103.2.2.2.2.2.2.1
theorem dX11_wrongHead_118 : decode cX11_wrongHead 118 = .ok (.iconst 0, 1) := dq_X11_wrongHead_103.2.2.2.2.2.2.2.1
theorem dX11_wrongHead_119 : decode cX11_wrongHead 119 = .ok (.iadd, 1) := dq_X11_wrongHead_103.2.2.2.2.2.2.2.2.1
theorem dX11_wrongHead_120 : decode cX11_wrongHead 120 = .ok (.iload 4, 2) := dq_X11_wrongHead_103.2.2.2.2.2.2.2.2.2.1
theorem dX11_wrongHead_122 : decode cX11_wrongHead 122 = .ok (.if_icmp .le 8, 3) := dq_X11_wrongHead_103.2.2.2.2.2.2.2.2.2.2.1
theorem dX11_wrongHead_125 : decode cX11_wrongHead 125 = .ok (.iload_n 3, 1) := dq_X11_wrongHead_103.2.2.2.2.2.2.2.2.2.2.2.1
theorem dX11_wrongHead_126 : decode cX11_wrongHead 126 = .ok (.bipush 26, 2) := dq_X11_wrongHead_103.2.2.2.2.2.2.2.2.2.2.2.2.1
theorem dX11_wrongHead_128 : decode cX11_wrongHead 128 = .ok (.iadd, 1) := dq_X11_wrongHead_103.2.2.2.2.2.2.2.2.2.2.2.2.2.1
theorem dX11_wrongHead_129 : decode cX11_wrongHead 129 = .ok (.ireturn, 1) := dq_X11_wrongHead_103.2.2.2.2.2.2.2.2.2.2.2.2.2.2.1
theorem dX11_wrongHead_130 : decode cX11_wrongHead 130 = .ok (.iinc 2 1, 3) := dq_X11_wrongHead_103.2.2.2.2.2.2.2.2.2.2.2.2.2.2.2
theorem dq_X11_wrongHead_133 : (decode cX11_wrongHead 133 = .ok (.goto (-129), 3)) ∧ (decode cX11_wrongHead 136 = .ok (.aload_n 0, 1)) ∧ (decode cX11_wrongHead 137 = .ok (.sipush 950, 3)) ∧ (decode cX11_wrongHead 140 = .ok (.invokevirtual 152, 3)) ∧ (decode cX11_wrongHead 143 = .ok (.iconst 1, 1)) ∧ (decode cX11_wrongHead 144 = .ok (.sipush 128, 3)) ∧ (decode cX11_wrongHead 147 = .ok (.invokestatic 145, 3)) ∧ (decode cX11_wrongHead 150 = .ok (.ifCond .ne 7, 3)) ∧ (decode cX11_wrongHead 153 = .ok (.sipush 950, 3)) ∧ (decode cX11_wrongHead 156 = .ok (.ireturn, 1)) ∧ (decode cX11_wrongHead 157 = .ok (.iconst 0, 1)) ∧ (decode cX11_wrongHead 158 = .ok (.istore_n 2, 1)) ∧ (decode cX11_wrongHead 159 = .ok (.iload_n 2, 1)) ∧ (decode cX11_wrongHead 160 = .ok (.aload_n 0, 1)) ∧ (decode cX11_wrongHead 161 = .ok (.sipush 950, 3)) ∧ (decode cX11_wrongHead 164 = .ok (.invokevirtual 152, 3)) := by decide +kernel
theorem dX11_wrongHead_133 : decode cX11_wrongHead 133 = .ok (.goto (-129), 3) := dq_X11_wrongHead_133.1
theorem dX11_wrongHead_136 : decode cX11_wrongHead 136 = .ok (.aload_n 0, 1) := dq_X11_wrongHead_133.2.1
theorem dX11_wrongHead_137 : decode cX11_wrongHead 137 = .ok (.sipush 950, 3) := dq_X11_wrongHead_133.2.2.1
theorem dX11_wrongHead_140 : decode cX11_wrongHead 140 = .ok (.invokevirtual 152, 3) := dq_X11_wrongHead_133.2.2.2.1
theorem dX11_wrongHead_143 : decode cX11_wrongHead 143 = .ok (.iconst 1, 1) := dq_X11_wrongHead_133.2.2.2.2.1
theorem dX11_wrongHead_144 : decode cX11_wrongHead 144 = .ok (.sipush 128, 3) := dq_X11_wrongHead_133.2.2.2.2.2.1
theorem dX11_wrongHead_147 : decode cX11_wrongHead 147 = .ok (.invokestatic 145, 3) := dq_X11_wrongHead_133.2.2.2.2.2.2.1
theorem dX11_wrongHead_150 : decode cX11_wrongHead 150 = .ok (.ifCond .ne 7, 3) := dq_X11_wrongHead_133.2.2.2.2.2.2.2.1
theorem dX11_wrongHead_153 : decode cX11_wrongHead 153 = .ok (.sipush 950, 3) := dq_X11_wrongHead_133.2.2.2.2.2.2.2.2.1
theorem dX11_wrongHead_156 : decode cX11_wrongHead 156 = .ok (.ireturn, 1) := dq_X11_wrongHead_133.2.2.2.2.2.2.2.2.2.1
theorem dX11_wrongHead_157 : decode cX11_wrongHead 157 = .ok (.iconst 0, 1) := dq_X11_wrongHead_133.2.2.2.2.2.2.2.2.2.2.1
theorem dX11_wrongHead_158 : decode cX11_wrongHead 158 = .ok (.istore_n 2, 1) := dq_X11_wrongHead_133.2.2.2.2.2.2.2.2.2.2.2.1
theorem dX11_wrongHead_159 : decode cX11_wrongHead 159 = .ok (.iload_n 2, 1) := dq_X11_wrongHead_133.2.2.2.2.2.2.2.2.2.2.2.2.1
theorem dX11_wrongHead_160 : decode cX11_wrongHead 160 = .ok (.aload_n 0, 1) := dq_X11_wrongHead_133.2.2.2.2.2.2.2.2.2.2.2.2.2.1
theorem dX11_wrongHead_161 : decode cX11_wrongHead 161 = .ok (.sipush 950, 3) := dq_X11_wrongHead_133.2.2.2.2.2.2.2.2.2.2.2.2.2.2.1
theorem dX11_wrongHead_164 : decode cX11_wrongHead 164 = .ok (.invokevirtual 152, 3) := dq_X11_wrongHead_133.2.2.2.2.2.2.2.2.2.2.2.2.2.2.2
theorem dq_X11_wrongHead_167 : (decode cX11_wrongHead 167 = .ok (.if_icmp .ge 29, 3)) ∧ (decode cX11_wrongHead 170 = .ok (.aload_n 0, 1)) ∧ (decode cX11_wrongHead 171 = .ok (.sipush 952, 3)) ∧ (decode cX11_wrongHead 174 = .ok (.iload_n 2, 1)) ∧ (decode cX11_wrongHead 175 = .ok (.iadd, 1)) ∧ (decode cX11_wrongHead 176 = .ok (.invokevirtual 152, 3)) ∧ (decode cX11_wrongHead 179 = .ok (.bipush 8, 2)) ∧ (decode cX11_wrongHead 181 = .ok (.if_icmp .lt 9, 3)) ∧ (decode cX11_wrongHead 184 = .ok (.sipush 952, 3)) ∧ (decode cX11_wrongHead 187 = .ok (.iload_n 2, 1)) ∧ (decode cX11_wrongHead 188 = .ok (.iadd, 1)) ∧ (decode cX11_wrongHead 189 = .ok (.ireturn, 1)) ∧ (decode cX11_wrongHead 190 = .ok (.iinc 2 1, 3)) ∧ (decode cX11_wrongHead 193 = .ok (.goto (-34), 3)) ∧ (decode cX11_wrongHead 196 = .ok (.iconst (-1), 1)) ∧ (decode cX11_wrongHead 197 = .ok (.ireturn, 1)) := by decide +kernel
theorem dX11_wrongHead_167 : decode cX11_wrongHead 167 = .ok (.if_icmp .ge 29, 3) := dq_X11_wrongHead_167.1
theorem dX11_wrongHead_170 : decode cX11_wrongHead 170 = .ok (.aload_n 0, 1) := dq_X11_wrongHead_167.2.1
theorem dX11_wrongHead_171 : decode cX11_wrongHead 171 = .ok (.sipush 952, 3) := dq_X11_wrongHead_167.2.2.1
theorem dX11_wrongHead_174 : decode cX11_wrongHead 174 = .ok (.iload_n 2, 1) := dq_X11_wrongHead_167.2.2.2.1
theorem dX11_wrongHead_175 : decode cX11_wrongHead 175 = .ok (.iadd, 1) := dq_X11_wrongHead_167.2.2.2.2.1
theorem dX11_wrongHead_176 : decode cX11_wrongHead 176 = .ok (.invokevirtual 152, 3) := dq_X11_wrongHead_167.2.2.2.2.2.1
theorem dX11_wrongHead_179 : decode cX11_wrongHead 179 = .ok (.bipush 8, 2) := dq_X11_wrongHead_167.2.2.2.2.2.2.1
theorem dX11_wrongHead_181 : decode cX11_wrongHead 181 = .ok (.if_icmp .lt 9, 3) := dq_X11_wrongHead_167.2.2.2.2.2.2.2.1
theorem dX11_wrongHead_184 : decode cX11_wrongHead 184 = .ok (.sipush 952, 3) := dq_X11_wrongHead_167.2.2.2.2.2.2.2.2.1
theorem dX11_wrongHead_187 : decode cX11_wrongHead 187 = .ok (.iload_n 2, 1) := dq_X11_wrongHead_167.2.2.2.2.2.2.2.2.2.1
theorem dX11_wrongHead_188 : decode cX11_wrongHead 188 = .ok (.iadd, 1) := dq_X11_wrongHead_167.2.2.2.2.2.2.2.2.2.2.1
theorem dX11_wrongHead_189 : decode cX11_wrongHead 189 = .ok (.ireturn, 1) := dq_X11_wrongHead_167.2.2.2.2.2.2.2.2.2.2.2.1
theorem dX11_wrongHead_190 : decode cX11_wrongHead 190 = .ok (.iinc 2 1, 3) := dq_X11_wrongHead_167.2.2.2.2.2.2.2.2.2.2.2.2.1
theorem dX11_wrongHead_193 : decode cX11_wrongHead 193 = .ok (.goto (-34), 3) := dq_X11_wrongHead_167.2.2.2.2.2.2.2.2.2.2.2.2.2.1
theorem dX11_wrongHead_196 : decode cX11_wrongHead 196 = .ok (.iconst (-1), 1) := dq_X11_wrongHead_167.2.2.2.2.2.2.2.2.2.2.2.2.2.2.1
theorem dX11_wrongHead_197 : decode cX11_wrongHead 197 = .ok (.ireturn, 1) := dq_X11_wrongHead_167.2.2.2.2.2.2.2.2.2.2.2.2.2.2.2
theorem dq_X11_patternsOnTape_0 : (decode cX11_patternsOnTape 0 = .ok (.iconst 0, 1)) ∧ (decode cX11_patternsOnTape 1 = .ok (.istore_n 1, 1)) ∧ (decode cX11_patternsOnTape 2 = .ok (.iconst 0, 1)) ∧ (decode cX11_patternsOnTape 3 = .ok (.istore_n 2, 1)) ∧ (decode cX11_patternsOnTape 4 = .ok (.iload_n 2, 1)) ∧ (decode cX11_patternsOnTape 5 = .ok (.aload_n 0, 1)) ∧ (decode cX11_patternsOnTape 6 = .ok (.sipush 950, 3)) ∧ (decode cX11_patternsOnTape 9 = .ok (.invokevirtual 152, 3)) ∧ (decode cX11_patternsOnTape 12 = .ok (.if_icmp .ge 25, 3)) ∧ (decode cX11_patternsOnTape 15 = .ok (.iload_n 1, 1)) ∧ (decode cX11_patternsOnTape 16 = .ok (.aload_n 0, 1)) ∧ (decode cX11_patternsOnTape 17 = .ok (.sipush 952, 3)) ∧ (decode cX11_patternsOnTape 20 = .ok (.iload_n 2, 1)) ∧ (decode cX11_patternsOnTape 21 = .ok (.iadd, 1)) ∧ (decode cX11_patternsOnTape 22 = .ok (.invokevirtual 152, 3)) ∧ (decode cX11_patternsOnTape 25 = .ok (.iconst 1, 1)) := by decide +kernel
theorem dX11_patternsOnTape_0 : decode cX11_patternsOnTape 0 = .ok (.iconst 0, 1) := dq_X11_patternsOnTape_0.1
theorem dX11_patternsOnTape_1 : decode cX11_patternsOnTape 1 = .ok (.istore_n 1, 1) := dq_X11_patternsOnTape_0.2.1
theorem dX11_patternsOnTape_2 : decode cX11_patternsOnTape 2 = .ok (.iconst 0, 1) := dq_X11_patternsOnTape_0.2.2.1
theorem dX11_patternsOnTape_3 : decode cX11_patternsOnTape 3 = .ok (.istore_n 2, 1) := dq_X11_patternsOnTape_0.2.2.2.1
theorem dX11_patternsOnTape_4 : decode cX11_patternsOnTape 4 = .ok (.iload_n 2, 1) := dq_X11_patternsOnTape_0.2.2.2.2.1
theorem dX11_patternsOnTape_5 : decode cX11_patternsOnTape 5 = .ok (.aload_n 0, 1) := dq_X11_patternsOnTape_0.2.2.2.2.2.1
theorem dX11_patternsOnTape_6 : decode cX11_patternsOnTape 6 = .ok (.sipush 950, 3) := dq_X11_patternsOnTape_0.2.2.2.2.2.2.1
theorem dX11_patternsOnTape_9 : decode cX11_patternsOnTape 9 = .ok (.invokevirtual 152, 3) := dq_X11_patternsOnTape_0.2.2.2.2.2.2.2.1
theorem dX11_patternsOnTape_12 : decode cX11_patternsOnTape 12 = .ok (.if_icmp .ge 25, 3) := dq_X11_patternsOnTape_0.2.2.2.2.2.2.2.2.1
theorem dX11_patternsOnTape_15 : decode cX11_patternsOnTape 15 = .ok (.iload_n 1, 1) := dq_X11_patternsOnTape_0.2.2.2.2.2.2.2.2.2.1
theorem dX11_patternsOnTape_16 : decode cX11_patternsOnTape 16 = .ok (.aload_n 0, 1) := dq_X11_patternsOnTape_0.2.2.2.2.2.2.2.2.2.2.1
theorem dX11_patternsOnTape_17 : decode cX11_patternsOnTape 17 = .ok (.sipush 952, 3) := dq_X11_patternsOnTape_0.2.2.2.2.2.2.2.2.2.2.2.1
theorem dX11_patternsOnTape_20 : decode cX11_patternsOnTape 20 = .ok (.iload_n 2, 1) := dq_X11_patternsOnTape_0.2.2.2.2.2.2.2.2.2.2.2.2.1
theorem dX11_patternsOnTape_21 : decode cX11_patternsOnTape 21 = .ok (.iadd, 1) := dq_X11_patternsOnTape_0.2.2.2.2.2.2.2.2.2.2.2.2.2.1
theorem dX11_patternsOnTape_22 : decode cX11_patternsOnTape 22 = .ok (.invokevirtual 152, 3) := dq_X11_patternsOnTape_0.2.2.2.2.2.2.2.2.2.2.2.2.2.2.1
theorem dX11_patternsOnTape_25 : decode cX11_patternsOnTape 25 = .ok (.iconst 1, 1) := dq_X11_patternsOnTape_0.2.2.2.2.2.2.2.2.2.2.2.2.2.2.2
theorem dq_X11_patternsOnTape_26 : (decode cX11_patternsOnTape 26 = .ok (.iadd, 1)) ∧ (decode cX11_patternsOnTape 27 = .ok (.invokestatic 129, 3)) ∧ (decode cX11_patternsOnTape 30 = .ok (.istore_n 1, 1)) ∧ (decode cX11_patternsOnTape 31 = .ok (.iinc 2 1, 3)) ∧ (decode cX11_patternsOnTape 34 = .ok (.goto (-30), 3)) ∧ (decode cX11_patternsOnTape 37 = .ok (.iload_n 1, 1)) ∧ (decode cX11_patternsOnTape 38 = .ok (.ireturn, 1)) := by decide +kernel
theorem dX11_patternsOnTape_26 : decode cX11_patternsOnTape 26 = .ok (.iadd, 1) := dq_X11_patternsOnTape_26.1
theorem dX11_patternsOnTape_27 : decode cX11_patternsOnTape 27 = .ok (.invokestatic 129, 3) := dq_X11_patternsOnTape_26.2.1
theorem dX11_patternsOnTape_30 : decode cX11_patternsOnTape 30 = .ok (.istore_n 1, 1) := dq_X11_patternsOnTape_26.2.2.1
theorem dX11_patternsOnTape_31 : decode cX11_patternsOnTape 31 = .ok (.iinc 2 1, 3) := dq_X11_patternsOnTape_26.2.2.2.1
theorem dX11_patternsOnTape_34 : decode cX11_patternsOnTape 34 = .ok (.goto (-30), 3) := dq_X11_patternsOnTape_26.2.2.2.2.1
theorem dX11_patternsOnTape_37 : decode cX11_patternsOnTape 37 = .ok (.iload_n 1, 1) := dq_X11_patternsOnTape_26.2.2.2.2.2.1
theorem dX11_patternsOnTape_38 : decode cX11_patternsOnTape 38 = .ok (.ireturn, 1) := dq_X11_patternsOnTape_26.2.2.2.2.2.2
theorem dq_X11_load_0 : (decode cX11_load 0 = .ok (.aload_n 0, 1)) ∧ (decode cX11_load 1 = .ok (.iconst 0, 1)) ∧ (decode cX11_load 2 = .ok (.iconst (-1), 1)) ∧ (decode cX11_load 3 = .ok (.invokevirtual 159, 3)) ∧ (decode cX11_load 6 = .ok (.istore_n 1, 1)) ∧ (decode cX11_load 7 = .ok (.aload_n 0, 1)) ∧ (decode cX11_load 8 = .ok (.getfield 138, 3)) ∧ (decode cX11_load 11 = .ok (.sipush 1084, 3)) ∧ (decode cX11_load 14 = .ok (.if_icmp .ge 13, 3)) ∧ (decode cX11_load 17 = .ok (.aload_n 0, 1)) ∧ (decode cX11_load 18 = .ok (.iconst 1, 1)) ∧ (decode cX11_load 19 = .ok (.aload_n 0, 1)) ∧ (decode cX11_load 20 = .ok (.getfield 138, 3)) ∧ (decode cX11_load 23 = .ok (.invokevirtual 159, 3)) ∧ (decode cX11_load 26 = .ok (.ireturn, 1)) ∧ (decode cX11_load 27 = .ok (.iconst 0, 1)) := by decide +kernel
theorem dX11_load_0 : decode cX11_load 0 = .ok (.aload_n 0, 1) := dq_X11_load_0.1
theorem dX11_load_1 : decode cX11_load 1 = .ok (.iconst 0, 1) := dq_X11_load_0.2.1
theorem dX11_load_2 : decode cX11_load 2 = .ok (.iconst (-1), 1) := dq_X11_load_0.2.2.1
theorem dX11_load_3 : decode cX11_load 3 = .ok (.invokevirtual 159, 3) := dq_X11_load_0.2.2.2.1
theorem dX11_load_6 : decode cX11_load 6 = .ok (.istore_n 1, 1) := dq_X11_load_0.2.2.2.2.1
theorem dX11_load_7 : decode cX11_load 7 = .ok (.aload_n 0, 1) := dq_X11_load_0.2.2.2.2.2.1
theorem dX11_load_8 : decode cX11_load 8 = .ok (.getfield 138, 3) := dq_X11_load_0.2.2.2.2.2.2.1
theorem dX11_load_11 : decode cX11_load 11 = .ok (.sipush 1084, 3) := dq_X11_load_0.2.2.2.2.2.2.2.1
theorem dX11_load_14 : decode cX11_load 14 = .ok (.if_icmp .ge 13, 3) := dq_X11_load_0.2.2.2.2.2.2.2.2.1
theorem dX11_load_17 : decode cX11_load 17 = .ok (.aload_n 0, 1) := dq_X11_load_0.2.2.2.2.2.2.2.2.2.1
theorem dX11_load_18 : decode cX11_load 18 = .ok (.iconst 1, 1) := dq_X11_load_0.2.2.2.2.2.2.2.2.2.2.1
theorem dX11_load_19 : decode cX11_load 19 = .ok (.aload_n 0, 1) := dq_X11_load_0.2.2.2.2.2.2.2.2.2.2.2.1
theorem dX11_load_20 : decode cX11_load 20 = .ok (.getfield 138, 3) := dq_X11_load_0.2.2.2.2.2.2.2.2.2.2.2.2.1
theorem dX11_load_23 : decode cX11_load 23 = .ok (.invokevirtual 159, 3) := dq_X11_load_0.2.2.2.2.2.2.2.2.2.2.2.2.2.1
theorem dX11_load_26 : decode cX11_load 26 = .ok (.ireturn, 1) := dq_X11_load_0.2.2.2.2.2.2.2.2.2.2.2.2.2.2.1
theorem dX11_load_27 : decode cX11_load 27 = .ok (.iconst 0, 1) := dq_X11_load_0.2.2.2.2.2.2.2.2.2.2.2.2.2.2.2
theorem dq_X11_load_28 : (decode cX11_load 28 = .ok (.istore_n 2, 1)) ∧ (decode cX11_load 29 = .ok (.iload_n 2, 1)) ∧ (decode cX11_load 30 = .ok (.iconst 4, 1)) ∧ (decode cX11_load 31 = .ok (.if_icmp .ge 37, 3)) ∧ (decode cX11_load 34 = .ok (.aload_n 0, 1)) ∧ (decode cX11_load 35 = .ok (.sipush 1080, 3)) ∧ (decode cX11_load 38 = .ok (.iload_n 2, 1)) ∧ (decode cX11_load 39 = .ok (.iadd, 1)) ∧ (decode cX11_load 40 = .ok (.invokevirtual 152, 3)) ∧ (decode cX11_load 43 = .ok (.getstatic 162, 3)) ∧ (decode cX11_load 46 = .ok (.iload_n 2, 1)) ∧ (decode cX11_load 47 = .ok (.iaload, 1)) ∧ (decode cX11_load 48 = .ok (.if_icmp .eq 14, 3)) ∧ (decode cX11_load 51 = .ok (.aload_n 0, 1)) ∧ (decode cX11_load 52 = .ok (.iconst 2, 1)) ∧ (decode cX11_load 53 = .ok (.sipush 1080, 3)) := by decide +kernel
theorem dX11_load_28 : decode cX11_load 28 = .ok (.istore_n 2, 1) := dq_X11_load_28.1
theorem dX11_load_29 : decode cX11_load 29 = .ok (.iload_n 2, 1) := dq_X11_load_28.2.1
theorem dX11_load_30 : decode cX11_load 30 = .ok (.iconst 4, 1) := dq_X11_load_28.2.2.1
theorem dX11_load_31 : decode cX11_load 31 = .ok (.if_icmp .ge 37, 3) := dq_X11_load_28.2.2.2.1
theorem dX11_load_34 : decode cX11_load 34 = .ok (.aload_n 0, 1) := dq_X11_load_28.2.2.2.2.1
theorem dX11_load_35 : decode cX11_load 35 = .ok (.sipush 1080, 3) := dq_X11_load_28.2.2.2.2.2.1
theorem dX11_load_38 : decode cX11_load 38 = .ok (.iload_n 2, 1) := dq_X11_load_28.2.2.2.2.2.2.1
theorem dX11_load_39 : decode cX11_load 39 = .ok (.iadd, 1) := dq_X11_load_28.2.2.2.2.2.2.2.1
theorem dX11_load_40 : decode cX11_load 40 = .ok (.invokevirtual 152, 3) := dq_X11_load_28.2.2.2.2.2.2.2.2.1
theorem dX11_load_43 : decode cX11_load 43 = .ok (.getstatic 162, 3) := dq_X11_load_28.2.2.2.2.2.2.2.2.2.1
theorem dX11_load_46 : decode cX11_load 46 = .ok (.iload_n 2, 1) := dq_X11_load_28.2.2.2.2.2.2.2.2.2.2.1
theorem dX11_load_47 : decode cX11_load 47 = .ok (.iaload, 1) := dq_X11_load_28.2.2.2.2.2.2.2.2.2.2.2.1
theorem dX11_load_48 : decode cX11_load 48 = .ok (.if_icmp .eq 14, 3) := dq_X11_load_28.2.2.2.2.2.2.2.2.2.2.2.2.1
theorem dX11_load_51 : decode cX11_load 51 = .ok (.aload_n 0, 1) := dq_X11_load_28.2.2.2.2.2.2.2.2.2.2.2.2.2.1
theorem dX11_load_52 : decode cX11_load 52 = .ok (.iconst 2, 1) := dq_X11_load_28.2.2.2.2.2.2.2.2.2.2.2.2.2.2.1
theorem dX11_load_53 : decode cX11_load 53 = .ok (.sipush 1080, 3) := dq_X11_load_28.2.2.2.2.2.2.2.2.2.2.2.2.2.2.2
theorem dq_X11_load_56 : (decode cX11_load 56 = .ok (.iload_n 2, 1)) ∧ (decode cX11_load 57 = .ok (.iadd, 1)) ∧ (decode cX11_load 58 = .ok (.invokevirtual 159, 3)) ∧ (decode cX11_load 61 = .ok (.ireturn, 1)) ∧ (decode cX11_load 62 = .ok (.iinc 2 1, 3)) ∧ (decode cX11_load 65 = .ok (.goto (-36), 3)) ∧ (decode cX11_load 68 = .ok (.aload_n 0, 1)) ∧ (decode cX11_load 69 = .ok (.invokevirtual 165, 3)) ∧ (decode cX11_load 72 = .ok (.istore_n 2, 1)) ∧ (decode cX11_load 73 = .ok (.iload_n 2, 1)) ∧ (decode cX11_load 74 = .ok (.iconst (-1), 1)) ∧ (decode cX11_load 75 = .ok (.if_icmp .eq 10, 3)) ∧ (decode cX11_load 78 = .ok (.aload_n 0, 1)) ∧ (decode cX11_load 79 = .ok (.iconst 3, 1)) ∧ (decode cX11_load 80 = .ok (.iload_n 2, 1)) ∧ (decode cX11_load 81 = .ok (.invokevirtual 159, 3)) := by decide +kernel
theorem dX11_load_56 : decode cX11_load 56 = .ok (.iload_n 2, 1) := dq_X11_load_56.1
theorem dX11_load_57 : decode cX11_load 57 = .ok (.iadd, 1) := dq_X11_load_56.2.1
theorem dX11_load_58 : decode cX11_load 58 = .ok (.invokevirtual 159, 3) := dq_X11_load_56.2.2.1
theorem dX11_load_61 : decode cX11_load 61 = .ok (.ireturn, 1) := dq_X11_load_56.2.2.2.1
theorem dX11_load_62 : decode cX11_load 62 = .ok (.iinc 2 1, 3) := dq_X11_load_56.2.2.2.2.1
theorem dX11_load_65 : decode cX11_load 65 = .ok (.goto (-36), 3) := dq_X11_load_56.2.2.2.2.2.1
theorem dX11_load_68 : decode cX11_load 68 = .ok (.aload_n 0, 1) := dq_X11_load_56.2.2.2.2.2.2.1
theorem dX11_load_69 : decode cX11_load 69 = .ok (.invokevirtual 165, 3) := dq_X11_load_56.2.2.2.2.2.2.2.1
theorem dX11_load_72 : decode cX11_load 72 = .ok (.istore_n 2, 1) := dq_X11_load_56.2.2.2.2.2.2.2.2.1
theorem dX11_load_73 : decode cX11_load 73 = .ok (.iload_n 2, 1) := dq_X11_load_56.2.2.2.2.2.2.2.2.2.1
theorem dX11_load_74 : decode cX11_load 74 = .ok (.iconst (-1), 1) := dq_X11_load_56.2.2.2.2.2.2.2.2.2.2.1
theorem dX11_load_75 : decode cX11_load 75 = .ok (.if_icmp .eq 10, 3) := dq_X11_load_56.2.2.2.2.2.2.2.2.2.2.2.1
theorem dX11_load_78 : decode cX11_load 78 = .ok (.aload_n 0, 1) := dq_X11_load_56.2.2.2.2.2.2.2.2.2.2.2.2.1
theorem dX11_load_79 : decode cX11_load 79 = .ok (.iconst 3, 1) := dq_X11_load_56.2.2.2.2.2.2.2.2.2.2.2.2.2.1
theorem dX11_load_80 : decode cX11_load 80 = .ok (.iload_n 2, 1) := dq_X11_load_56.2.2.2.2.2.2.2.2.2.2.2.2.2.2.1
theorem dX11_load_81 : decode cX11_load 81 = .ok (.invokevirtual 159, 3) := dq_X11_load_56.2.2.2.2.2.2.2.2.2.2.2.2.2.2.2
theorem dq_X11_load_84 : (decode cX11_load 84 = .ok (.ireturn, 1)) ∧ (decode cX11_load 85 = .ok (.aload_n 0, 1)) ∧ (decode cX11_load 86 = .ok (.invokevirtual 169, 3)) ∧ (decode cX11_load 89 = .ok (.istore_n 3, 1)) ∧ (decode cX11_load 90 = .ok (.sipush 1084, 3)) ∧ (decode cX11_load 93 = .ok (.sipush 1024, 3)) ∧ (decode cX11_load 96 = .ok (.iload_n 3, 1)) ∧ (decode cX11_load 97 = .ok (.imul, 1)) ∧ (decode cX11_load 98 = .ok (.iadd, 1)) ∧ (decode cX11_load 99 = .ok (.istore 4, 2)) ∧ (decode cX11_load 101 = .ok (.iconst 1, 1)) ∧ (decode cX11_load 102 = .ok (.istore 5, 2)) ∧ (decode cX11_load 104 = .ok (.iload 5, 2)) ∧ (decode cX11_load 106 = .ok (.bipush 32, 2)) ∧ (decode cX11_load 108 = .ok (.if_icmp .ge 26, 3)) ∧ (decode cX11_load 111 = .ok (.iload 4, 2)) := by decide +kernel
theorem dX11_load_84 : decode cX11_load 84 = .ok (.ireturn, 1) := dq_X11_load_84.1
theorem dX11_load_85 : decode cX11_load 85 = .ok (.aload_n 0, 1) := dq_X11_load_84.2.1
theorem dX11_load_86 : decode cX11_load 86 = .ok (.invokevirtual 169, 3) := dq_X11_load_84.2.2.1
theorem dX11_load_89 : decode cX11_load 89 = .ok (.istore_n 3, 1) := dq_X11_load_84.2.2.2.1
theorem dX11_load_90 : decode cX11_load 90 = .ok (.sipush 1084, 3) := dq_X11_load_84.2.2.2.2.1
theorem dX11_load_93 : decode cX11_load 93 = .ok (.sipush 1024, 3) := dq_X11_load_84.2.2.2.2.2.1
theorem dX11_load_96 : decode cX11_load 96 = .ok (.iload_n 3, 1) := dq_X11_load_84.2.2.2.2.2.2.1
theorem dX11_load_97 : decode cX11_load 97 = .ok (.imul, 1) := dq_X11_load_84.2.2.2.2.2.2.2.1
theorem dX11_load_98 : decode cX11_load 98 = .ok (.iadd, 1) := dq_X11_load_84.2.2.2.2.2.2.2.2.1
theorem dX11_load_99 : decode cX11_load 99 = .ok (.istore 4, 2) := dq_X11_load_84.2.2.2.2.2.2.2.2.2.1
theorem dX11_load_101 : decode cX11_load 101 = .ok (.iconst 1, 1) := dq_X11_load_84.2.2.2.2.2.2.2.2.2.2.1
theorem dX11_load_102 : decode cX11_load 102 = .ok (.istore 5, 2) := dq_X11_load_84.2.2.2.2.2.2.2.2.2.2.2.1
theorem dX11_load_104 : decode cX11_load 104 = .ok (.iload 5, 2) := dq_X11_load_84.2.2.2.2.2.2.2.2.2.2.2.2.1
theorem dX11_load_106 : decode cX11_load 106 = .ok (.bipush 32, 2) := dq_X11_load_84.2.2.2.2.2.2.2.2.2.2.2.2.2.1
theorem dX11_load_108 : decode cX11_load 108 = .ok (.if_icmp .ge 26, 3) := dq_X11_load_84.2.2.2.2.2.2.2.2.2.2.2.2.2.2.1
theorem dX11_load_111 : decode cX11_load 111 = .ok (.iload 4, 2) := dq_X11_load_84.2.2.2.2.2.2.2.2.2.2.2.2.2.2.2
theorem dq_X11_load_113 : (decode cX11_load 113 = .ok (.aload_n 0, 1)) ∧ (decode cX11_load 114 = .ok (.bipush 30, 2)) ∧ (decode cX11_load 116 = .ok (.iload 5, 2)) ∧ (decode cX11_load 118 = .ok (.imul, 1)) ∧ (decode cX11_load 119 = .ok (.bipush 12, 2)) ∧ (decode cX11_load 121 = .ok (.iadd, 1)) ∧ (decode cX11_load 122 = .ok (.invokevirtual 156, 3)) ∧ (decode cX11_load 125 = .ok (.iadd, 1)) ∧ (decode cX11_load 126 = .ok (.istore 4, 2)) ∧ (decode cX11_load 128 = .ok (.iinc 5 1, 3)) ∧ (decode cX11_load 131 = .ok (.goto (-27), 3)) ∧ (decode cX11_load 134 = .ok (.aload_n 0, 1)) ∧ (decode cX11_load 135 = .ok (.getfield 138, 3)) ∧ (decode cX11_load 138 = .ok (.iload 4, 2)) ∧ (decode cX11_load 140 = .ok (.if_icmp .ge 13, 3)) ∧ (decode cX11_load 143 = .ok (.aload_n 0, 1)) := by decide +kernel
theorem dX11_load_113 : decode cX11_load 113 = .ok (.aload_n 0, 1) := dq_X11_load_113.1
theorem dX11_load_114 : decode cX11_load 114 = .ok (.bipush 30, 2) := dq_X11_load_113.2.1
theorem dX11_load_116 : decode cX11_load 116 = .ok (.iload 5, 2) := dq_X11_load_113.2.2.1
theorem dX11_load_118 : decode cX11_load 118 = .ok (.imul, 1) := dq_X11_load_113.2.2.2.1
theorem dX11_load_119 : decode cX11_load 119 = .ok (.bipush 12, 2) := dq_X11_load_113.2.2.2.2.1
theorem dX11_load_121 : decode cX11_load 121 = .ok (.iadd, 1) := dq_X11_load_113.2.2.2.2.2.1
theorem dX11_load_122 : decode cX11_load 122 = .ok (.invokevirtual 156, 3) := dq_X11_load_113.2.2.2.2.2.2.1
theorem dX11_load_125 : decode cX11_load 125 = .ok (.iadd, 1) := dq_X11_load_113.2.2.2.2.2.2.2.1
theorem dX11_load_126 : decode cX11_load 126 = .ok (.istore 4, 2) := dq_X11_load_113.2.2.2.2.2.2.2.2.1
theorem dX11_load_128 : decode cX11_load 128 = .ok (.iinc 5 1, 3) := dq_X11_load_113.2.2.2.2.2.2.2.2.2.1
theorem dX11_load_131 : decode cX11_load 131 = .ok (.goto (-27), 3) := dq_X11_load_113.2.2.2.2.2.2.2.2.2.2.1
theorem dX11_load_134 : decode cX11_load 134 = .ok (.aload_n 0, 1) := dq_X11_load_113.2.2.2.2.2.2.2.2.2.2.2.1
theorem dX11_load_135 : decode cX11_load 135 = .ok (.getfield 138, 3) := dq_X11_load_113.2.2.2.2.2.2.2.2.2.2.2.2.1
theorem dX11_load_138 : decode cX11_load 138 = .ok (.iload 4, 2) := dq_X11_load_113.2.2.2.2.2.2.2.2.2.2.2.2.2.1
theorem dX11_load_140 : decode cX11_load 140 = .ok (.if_icmp .ge 13, 3) := dq_X11_load_113.2.2.2.2.2.2.2.2.2.2.2.2.2.2.1
theorem dX11_load_143 : decode cX11_load 143 = .ok (.aload_n 0, 1) := dq_X11_load_113.2.2.2.2.2.2.2.2.2.2.2.2.2.2.2
theorem dq_X11_load_144 : (decode cX11_load 144 = .ok (.iconst 4, 1)) ∧ (decode cX11_load 145 = .ok (.aload_n 0, 1)) ∧ (decode cX11_load 146 = .ok (.getfield 138, 3)) ∧ (decode cX11_load 149 = .ok (.invokevirtual 159, 3)) ∧ (decode cX11_load 152 = .ok (.ireturn, 1)) ∧ (decode cX11_load 153 = .ok (.sipush 1084, 3)) ∧ (decode cX11_load 156 = .ok (.sipush 1024, 3)) ∧ (decode cX11_load 159 = .ok (.iload_n 3, 1)) ∧ (decode cX11_load 160 = .ok (.imul, 1)) ∧ (decode cX11_load 161 = .ok (.iadd, 1)) ∧ (decode cX11_load 162 = .ok (.istore 5, 2)) ∧ (decode cX11_load 164 = .ok (.iconst 1, 1)) ∧ (decode cX11_load 165 = .ok (.istore 6, 2)) ∧ (decode cX11_load 167 = .ok (.iload 6, 2)) ∧ (decode cX11_load 169 = .ok (.bipush 32, 2)) ∧ (decode cX11_load 171 = .ok (.if_icmp .ge 197, 3)) := by decide +kernel
theorem dX11_load_144 : decode cX11_load 144 = .ok (.iconst 4, 1) := dq_X11_load_144.1
theorem dX11_load_145 : decode cX11_load 145 = .ok (.aload_n 0, 1) := dq_X11_load_144.2.1
theorem dX11_load_146 : decode cX11_load 146 = .ok (.getfield 138, 3) := dq_X11_load_144.2.2.1
theorem dX11_load_149 : decode cX11_load 149 = .ok (.invokevirtual 159, 3) := dq_X11_load_144.2.2.2.1
theorem dX11_load_152 : decode cX11_load 152 = .ok (.ireturn, 1) := dq_X11_load_144.2.2.2.2.1
theorem dX11_load_153 : decode cX11_load 153 = .ok (.sipush 1084, 3) := dq_X11_load_144.2.2.2.2.2.1
theorem dX11_load_156 : decode cX11_load 156 = .ok (.sipush 1024, 3) := dq_X11_load_144.2.2.2.2.2.2.1
theorem dX11_load_159 : decode cX11_load 159 = .ok (.iload_n 3, 1) := dq_X11_load_144.2.2.2.2.2.2.2.1
theorem dX11_load_160 : decode cX11_load 160 = .ok (.imul, 1) := dq_X11_load_144.2.2.2.2.2.2.2.2.1
theorem dX11_load_161 : decode cX11_load 161 = .ok (.iadd, 1) := dq_X11_load_144.2.2.2.2.2.2.2.2.2.1
theorem dX11_load_162 : decode cX11_load 162 = .ok (.istore 5, 2) := dq_X11_load_144.2.2.2.2.2.2.2.2.2.2.1
theorem dX11_load_164 : decode cX11_load 164 = .ok (.iconst 1, 1) := dq_X11_load_144.2.2.2.2.2.2.2.2.2.2.2.1
theorem dX11_load_165 : decode cX11_load 165 = .ok (.istore 6, 2) := dq_X11_load_144.2.2.2.2.2.2.2.2.2.2.2.2.1
theorem dX11_load_167 : decode cX11_load 167 = .ok (.iload 6, 2) := dq_X11_load_144.2.2.2.2.2.2.2.2.2.2.2.2.2.1
theorem dX11_load_169 : decode cX11_load 169 = .ok (.bipush 32, 2) := dq_X11_load_144.2.2.2.2.2.2.2.2.2.2.2.2.2.2.1
theorem dX11_load_171 : decode cX11_load 171 = .ok (.if_icmp .ge 197, 3) := dq_X11_load_144.2.2.2.2.2.2.2.2.2.2.2.2.2.2.2
theorem dq_X11_load_174 : (decode cX11_load 174 = .ok (.bipush 30, 2)) ∧ (decode cX11_load 176 = .ok (.iload 6, 2)) ∧ (decode cX11_load 178 = .ok (.imul, 1)) ∧ (decode cX11_load 179 = .ok (.bipush 10, 2)) ∧ (decode cX11_load 181 = .ok (.isub, 1)) ∧ (decode cX11_load 182 = .ok (.istore 7, 2)) ∧ (decode cX11_load 184 = .ok (.aload_n 0, 1)) ∧ (decode cX11_load 185 = .ok (.getfield 17, 3)) ∧ (decode cX11_load 188 = .ok (.iload 6, 2)) ∧ (decode cX11_load 190 = .ok (.aload_n 0, 1)) ∧ (decode cX11_load 191 = .ok (.iload 7, 2)) ∧ (decode cX11_load 193 = .ok (.bipush 22, 2)) ∧ (decode cX11_load 195 = .ok (.iadd, 1)) ∧ (decode cX11_load 196 = .ok (.invokevirtual 156, 3)) ∧ (decode cX11_load 199 = .ok (.iastore, 1)) ∧ (decode cX11_load 200 = .ok (.aload_n 0, 1)) := by decide +kernel
theorem dX11_load_174 : decode cX11_load 174 = .ok (.bipush 30, 2) := dq_X11_load_174.1
theorem dX11_load_176 : decode cX11_load 176 = .ok (.iload 6, 2) := dq_X11_load_174.2.1
theorem dX11_load_178 : decode cX11_load 178 = .ok (.imul, 1) := dq_X11_load_174.2.2.1
theorem dX11_load_179 : decode cX11_load 179 = .ok (.bipush 10, 2) := dq_X11_load_174.2.2.2.1
theorem dX11_load_181 : decode cX11_load 181 = .ok (.isub, 1) := dq_X11_load_174.2.2.2.2.1
theorem dX11_load_182 : decode cX11_load 182 = .ok (.istore 7, 2) := dq_X11_load_174.2.2.2.2.2.1
theorem dX11_load_184 : decode cX11_load 184 = .ok (.aload_n 0, 1) := dq_X11_load_174.2.2.2.2.2.2.1
theorem dX11_load_185 : decode cX11_load 185 = .ok (.getfield 17, 3) := dq_X11_load_174.2.2.2.2.2.2.2.1
theorem dX11_load_188 : decode cX11_load 188 = .ok (.iload 6, 2) := dq_X11_load_174.2.2.2.2.2.2.2.2.1
theorem dX11_load_190 : decode cX11_load 190 = .ok (.aload_n 0, 1) := dq_X11_load_174.2.2.2.2.2.2.2.2.2.1
theorem dX11_load_191 : decode cX11_load 191 = .ok (.iload 7, 2) := dq_X11_load_174.2.2.2.2.2.2.2.2.2.2.1
theorem dX11_load_193 : decode cX11_load 193 = .ok (.bipush 22, 2) := dq_X11_load_174.2.2.2.2.2.2.2.2.2.2.2.1
theorem dX11_load_195 : decode cX11_load 195 = .ok (.iadd, 1) := dq_X11_load_174.2.2.2.2.2.2.2.2.2.2.2.2.1
theorem dX11_load_196 : decode cX11_load 196 = .ok (.invokevirtual 156, 3) := dq_X11_load_174.2.2.2.2.2.2.2.2.2.2.2.2.2.1
theorem dX11_load_199 : decode cX11_load 199 = .ok (.iastore, 1) := dq_X11_load_174.2.2.2.2.2.2.2.2.2.2.2.2.2.2.1
theorem dX11_load_200 : decode cX11_load 200 = .ok (.aload_n 0, 1) := dq_X11_load_174.2.2.2.2.2.2.2.2.2.2.2.2.2.2.2
theorem dq_X11_load_201 : (decode cX11_load 201 = .ok (.getfield 21, 3)) ∧ (decode cX11_load 204 = .ok (.iload 6, 2)) ∧ (decode cX11_load 206 = .ok (.aload_n 0, 1)) ∧ (decode cX11_load 207 = .ok (.iload 7, 2)) ∧ (decode cX11_load 209 = .ok (.bipush 24, 2)) ∧ (decode cX11_load 211 = .ok (.iadd, 1)) ∧ (decode cX11_load 212 = .ok (.invokevirtual 152, 3)) ∧ (decode cX11_load 215 = .ok (.bipush 7, 2)) ∧ (decode cX11_load 217 = .ok (.if_icmp .le 18, 3)) ∧ (decode cX11_load 220 = .ok (.aload_n 0, 1)) ∧ (decode cX11_load 221 = .ok (.iload 7, 2)) ∧ (decode cX11_load 223 = .ok (.bipush 24, 2)) ∧ (decode cX11_load 225 = .ok (.iadd, 1)) ∧ (decode cX11_load 226 = .ok (.invokevirtual 152, 3)) ∧ (decode cX11_load 229 = .ok (.bipush 16, 2)) ∧ (decode cX11_load 231 = .ok (.isub, 1)) := by decide +kernel
theorem dX11_load_201 : decode cX11_load 201 = .ok (.getfield 21, 3) := dq_X11_load_201.1
theorem dX11_load_204 : decode cX11_load 204 = .ok (.iload 6, 2) := dq_X11_load_201.2.1
theorem dX11_load_206 : decode cX11_load 206 = .ok (.aload_n 0, 1) := dq_X11_load_201.2.2.1
theorem dX11_load_207 : decode cX11_load 207 = .ok (.iload 7, 2) := dq_X11_load_201.2.2.2.1
theorem dX11_load_209 : decode cX11_load 209 = .ok (.bipush 24, 2) := dq_X11_load_201.2.2.2.2.1
theorem dX11_load_211 : decode cX11_load 211 = .ok (.iadd, 1) := dq_X11_load_201.2.2.2.2.2.1
theorem dX11_load_212 : decode cX11_load 212 = .ok (.invokevirtual 152, 3) := dq_X11_load_201.2.2.2.2.2.2.1
theorem dX11_load_215 : decode cX11_load 215 = .ok (.bipush 7, 2) := dq_X11_load_201.2.2.2.2.2.2.2.1
theorem dX11_load_217 : decode cX11_load 217 = .ok (.if_icmp .le 18, 3) := dq_X11_load_201.2.2.2.2.2.2.2.2.1
theorem dX11_load_220 : decode cX11_load 220 = .ok (.aload_n 0, 1) := dq_X11_load_201.2.2.2.2.2.2.2.2.2.1
theorem dX11_load_221 : decode cX11_load 221 = .ok (.iload 7, 2) := dq_X11_load_201.2.2.2.2.2.2.2.2.2.2.1
theorem dX11_load_223 : decode cX11_load 223 = .ok (.bipush 24, 2) := dq_X11_load_201.2.2.2.2.2.2.2.2.2.2.2.1
theorem dX11_load_225 : decode cX11_load 225 = .ok (.iadd, 1) := dq_X11_load_201.2.2.2.2.2.2.2.2.2.2.2.2.1
theorem dX11_load_226 : decode cX11_load 226 = .ok (.invokevirtual 152, 3) := dq_X11_load_201.2.2.2.2.2.2.2.2.2.2.2.2.2.1
theorem dX11_load_229 : decode cX11_load 229 = .ok (.bipush 16, 2) := dq_X11_load_201.2.2.2.2.2.2.2.2.2.2.2.2.2.2.1
theorem dX11_load_231 : decode cX11_load 231 = .ok (.isub, 1) := dq_X11_load_201.2.2.2.2.2.2.2.2.2.2.2.2.2.2.2
theorem dq_X11_load_232 : (decode cX11_load 232 = .ok (.goto 12, 3)) ∧ (decode cX11_load 235 = .ok (.aload_n 0, 1)) ∧ (decode cX11_load 236 = .ok (.iload 7, 2)) ∧ (decode cX11_load 238 = .ok (.bipush 24, 2)) ∧ (decode cX11_load 240 = .ok (.iadd, 1)) ∧ (decode cX11_load 241 = .ok (.invokevirtual 152, 3)) ∧ (decode cX11_load 244 = .ok (.iastore, 1)) ∧ (decode cX11_load 245 = .ok (.aload_n 0, 1)) ∧ (decode cX11_load 246 = .ok (.getfield 24, 3)) ∧ (decode cX11_load 249 = .ok (.iload 6, 2)) ∧ (decode cX11_load 251 = .ok (.aload_n 0, 1)) ∧ (decode cX11_load 252 = .ok (.iload 7, 2)) ∧ (decode cX11_load 254 = .ok (.bipush 25, 2)) ∧ (decode cX11_load 256 = .ok (.iadd, 1)) ∧ (decode cX11_load 257 = .ok (.invokevirtual 152, 3)) ∧ (decode cX11_load 260 = .ok (.iastore, 1)) := by decide +kernel
theorem dX11_load_232 : decode cX11_load 232 = .ok (.goto 12, 3) := dq_X11_load_232.1
theorem dX11_load_235 : decode cX11_load 235 = .ok (.aload_n 0, 1) := dq_X11_load_232.2.1
theorem dX11_load_236 : decode cX11_load 236 = .ok (.iload 7, 2) := dq_X11_load_232.2.2.1
theorem dX11_load_238 : decode cX11_load 238 = .ok (.bipush 24, 2) := dq_X11_load_232.2.2.2.1
theorem dX11_load_240 : decode cX11_load 240 = .ok (.iadd, 1) := dq_X11_load_232.2.2.2.2.1
theorem dX11_load_241 : decode cX11_load 241 = .ok (.invokevirtual 152, 3) := dq_X11_load_232.2.2.2.2.2.1
theorem dX11_load_244 : decode cX11_load 244 = .ok (.iastore, 1) := dq_X11_load_232.2.2.2.2.2.2.1
theorem dX11_load_245 : decode cX11_load 245 = .ok (.aload_n 0, 1) := dq_X11_load_232.2.2.2.2.2.2.2.1
theorem dX11_load_246 : decode cX11_load 246 = .ok (.getfield 24, 3) := dq_X11_load_232.2.2.2.2.2.2.2.2.1
theorem dX11_load_249 : decode cX11_load 249 = .ok (.iload 6, 2) := dq_X11_load_232.2.2.2.2.2.2.2.2.2.1
theorem dX11_load_251 : decode cX11_load 251 = .ok (.aload_n 0, 1) := dq_X11_load_232.2.2.2.2.2.2.2.2.2.2.1
theorem dX11_load_252 : decode cX11_load 252 = .ok (.iload 7, 2) := dq_X11_load_232.2.2.2.2.2.2.2.2.2.2.2.1
theorem dX11_load_254 : decode cX11_load 254 = .ok (.bipush 25, 2) := dq_X11_load_232.2.2.2.2.2.2.2.2.2.2.2.2.1
theorem dX11_load_256 : decode cX11_load 256 = .ok (.iadd, 1) := dq_X11_load_232.2.2.2.2.2.2.2.2.2.2.2.2.2.1
theorem dX11_load_257 : decode cX11_load 257 = .ok (.invokevirtual 152, 3) := dq_X11_load_232.2.2.2.2.2.2.2.2.2.2.2.2.2.2.1
theorem dX11_load_260 : decode cX11_load 260 = .ok (.iastore, 1) := dq_X11_load_232.2.2.2.2.2.2.2.2.2.2.2.2.2.2.2
theorem dq_X11_load_261 : (decode cX11_load 261 = .ok (.aload_n 0, 1)) ∧ (decode cX11_load 262 = .ok (.getfield 27, 3)) ∧ (decode cX11_load 265 = .ok (.iload 6, 2)) ∧ (decode cX11_load 267 = .ok (.aload_n 0, 1)) ∧ (decode cX11_load 268 = .ok (.iload 7, 2)) ∧ (decode cX11_load 270 = .ok (.bipush 26, 2)) ∧ (decode cX11_load 272 = .ok (.iadd, 1)) ∧ (decode cX11_load 273 = .ok (.invokevirtual 156, 3)) ∧ (decode cX11_load 276 = .ok (.iastore, 1)) ∧ (decode cX11_load 277 = .ok (.aload_n 0, 1)) ∧ (decode cX11_load 278 = .ok (.getfield 30, 3)) ∧ (decode cX11_load 281 = .ok (.iload 6, 2)) ∧ (decode cX11_load 283 = .ok (.aload_n 0, 1)) ∧ (decode cX11_load 284 = .ok (.iload 7, 2)) ∧ (decode cX11_load 286 = .ok (.bipush 28, 2)) ∧ (decode cX11_load 288 = .ok (.iadd, 1)) := by decide +kernel
theorem dX11_load_261 : decode cX11_load 261 = .ok (.aload_n 0, 1) := dq_X11_load_261.1
theorem dX11_load_262 : decode cX11_load 262 = .ok (.getfield 27, 3) := dq_X11_load_261.2.1
theorem dX11_load_265 : decode cX11_load 265 = .ok (.iload 6, 2) := dq_X11_load_261.2.2.1
theorem dX11_load_267 : decode cX11_load 267 = .ok (.aload_n 0, 1) := dq_X11_load_261.2.2.2.1
theorem dX11_load_268 : decode cX11_load 268 = .ok (.iload 7, 2) := dq_X11_load_261.2.2.2.2.1
theorem dX11_load_270 : decode cX11_load 270 = .ok (.bipush 26, 2) := dq_X11_load_261.2.2.2.2.2.1
theorem dX11_load_272 : decode cX11_load 272 = .ok (.iadd, 1) := dq_X11_load_261.2.2.2.2.2.2.1
theorem dX11_load_273 : decode cX11_load 273 = .ok (.invokevirtual 156, 3) := dq_X11_load_261.2.2.2.2.2.2.2.1
theorem dX11_load_276 : decode cX11_load 276 = .ok (.iastore, 1) := dq_X11_load_261.2.2.2.2.2.2.2.2.1
theorem dX11_load_277 : decode cX11_load 277 = .ok (.aload_n 0, 1) := dq_X11_load_261.2.2.2.2.2.2.2.2.2.1
theorem dX11_load_278 : decode cX11_load 278 = .ok (.getfield 30, 3) := dq_X11_load_261.2.2.2.2.2.2.2.2.2.2.1
theorem dX11_load_281 : decode cX11_load 281 = .ok (.iload 6, 2) := dq_X11_load_261.2.2.2.2.2.2.2.2.2.2.2.1
theorem dX11_load_283 : decode cX11_load 283 = .ok (.aload_n 0, 1) := dq_X11_load_261.2.2.2.2.2.2.2.2.2.2.2.2.1
theorem dX11_load_284 : decode cX11_load 284 = .ok (.iload 7, 2) := dq_X11_load_261.2.2.2.2.2.2.2.2.2.2.2.2.2.1
theorem dX11_load_286 : decode cX11_load 286 = .ok (.bipush 28, 2) := dq_X11_load_261.2.2.2.2.2.2.2.2.2.2.2.2.2.2.1
theorem dX11_load_288 : decode cX11_load 288 = .ok (.iadd, 1) := dq_X11_load_261.2.2.2.2.2.2.2.2.2.2.2.2.2.2.2
theorem dq_X11_load_289 : (decode cX11_load 289 = .ok (.invokevirtual 156, 3)) ∧ (decode cX11_load 292 = .ok (.iastore, 1)) ∧ (decode cX11_load 293 = .ok (.iconst 0, 1)) ∧ (decode cX11_load 294 = .ok (.istore 8, 2)) ∧ (decode cX11_load 296 = .ok (.iload 8, 2)) ∧ (decode cX11_load 298 = .ok (.sipush 2000, 3)) ∧ (decode cX11_load 301 = .ok (.if_icmp .ge 49, 3)) ∧ (decode cX11_load 304 = .ok (.aload_n 0, 1)) ∧ (decode cX11_load 305 = .ok (.getfield 34, 3)) ∧ (decode cX11_load 308 = .ok (.sipush 2000, 3)) ∧ (decode cX11_load 311 = .ok (.iload 6, 2)) ∧ (decode cX11_load 313 = .ok (.imul, 1)) ∧ (decode cX11_load 314 = .ok (.iload 8, 2)) ∧ (decode cX11_load 316 = .ok (.iadd, 1)) ∧ (decode cX11_load 317 = .ok (.iload 8, 2)) ∧ (decode cX11_load 319 = .ok (.aload_n 0, 1)) := by decide +kernel
theorem dX11_load_289 : decode cX11_load 289 = .ok (.invokevirtual 156, 3) := dq_X11_load_289.1
theorem dX11_load_292 : decode cX11_load 292 = .ok (.iastore, 1) := dq_X11_load_289.2.1
theorem dX11_load_293 : decode cX11_load 293 = .ok (.iconst 0, 1) := dq_X11_load_289.2.2.1
theorem dX11_load_294 : decode cX11_load 294 = .ok (.istore 8, 2) := dq_X11_load_289.2.2.2.1
theorem dX11_load_296 : decode cX11_load 296 = .ok (.iload 8, 2) := dq_X11_load_289.2.2.2.2.1
theorem dX11_load_298 : decode cX11_load 298 = .ok (.sipush 2000, 3) := dq_X11_load_289.2.2.2.2.2.1
theorem dX11_load_301 : decode cX11_load 301 = .ok (.if_icmp .ge 49, 3) := dq_X11_load_289.2.2.2.2.2.2.1
theorem dX11_load_304 : decode cX11_load 304 = .ok (.aload_n 0, 1) := dq_X11_load_289.2.2.2.2.2.2.2.1
theorem dX11_load_305 : decode cX11_load 305 = .ok (.getfield 34, 3) := dq_X11_load_289.2.2.2.2.2.2.2.2.1
theorem dX11_load_308 : decode cX11_load 308 = .ok (.sipush 2000, 3) := dq_X11_load_289.2.2.2.2.2.2.2.2.2.1
theorem dX11_load_311 : decode cX11_load 311 = .ok (.iload 6, 2) := dq_X11_load_289.2.2.2.2.2.2.2.2.2.2.1
theorem dX11_load_313 : decode cX11_load 313 = .ok (.imul, 1) := dq_X11_load_289.2.2.2.2.2.2.2.2.2.2.2.1
theorem dX11_load_314 : decode cX11_load 314 = .ok (.iload 8, 2) := dq_X11_load_289.2.2.2.2.2.2.2.2.2.2.2.2.1
theorem dX11_load_316 : decode cX11_load 316 = .ok (.iadd, 1) := dq_X11_load_289.2.2.2.2.2.2.2.2.2.2.2.2.2.1
theorem dX11_load_317 : decode cX11_load 317 = .ok (.iload 8, 2) := dq_X11_load_289.2.2.2.2.2.2.2.2.2.2.2.2.2.2.1
theorem dX11_load_319 : decode cX11_load 319 = .ok (.aload_n 0, 1) := dq_X11_load_289.2.2.2.2.2.2.2.2.2.2.2.2.2.2.2
theorem dq_X11_load_320 : (decode cX11_load 320 = .ok (.getfield 17, 3)) ∧ (decode cX11_load 323 = .ok (.iload 6, 2)) ∧ (decode cX11_load 325 = .ok (.iaload, 1)) ∧ (decode cX11_load 326 = .ok (.if_icmp .ge 16, 3)) ∧ (decode cX11_load 329 = .ok (.aload_n 0, 1)) ∧ (decode cX11_load 330 = .ok (.getfield 9, 3)) ∧ (decode cX11_load 333 = .ok (.iload 5, 2)) ∧ (decode cX11_load 335 = .ok (.iload 8, 2)) ∧ (decode cX11_load 337 = .ok (.iadd, 1)) ∧ (decode cX11_load 338 = .ok (.baload, 1)) ∧ (decode cX11_load 339 = .ok (.goto 4, 3)) ∧ (decode cX11_load 342 = .ok (.iconst 0, 1)) ∧ (decode cX11_load 343 = .ok (.bastore, 1)) ∧ (decode cX11_load 344 = .ok (.iinc 8 1, 3)) ∧ (decode cX11_load 347 = .ok (.goto (-51), 3)) ∧ (decode cX11_load 350 = .ok (.iload 5, 2)) := by decide +kernel
theorem dX11_load_320 : decode cX11_load 320 = .ok (.getfield 17, 3) := dq_X11_load_320.1
theorem dX11_load_323 : decode cX11_load 323 = .ok (.iload 6, 2) := dq_X11_load_320.2.1
theorem dX11_load_325 : decode cX11_load 325 = .ok (.iaload, 1) := dq_X11_load_320.2.2.1
theorem dX11_load_326 : decode cX11_load 326 = .ok (.if_icmp .ge 16, 3) := dq_X11_load_320.2.2.2.1
theorem dX11_load_329 : decode cX11_load 329 = .ok (.aload_n 0, 1) := dq_X11_load_320.2.2.2.2.1
theorem dX11_load_330 : decode cX11_load 330 = .ok (.getfield 9, 3) := dq_X11_load_320.2.2.2.2.2.1
theorem dX11_load_333 : decode cX11_load 333 = .ok (.iload 5, 2) := dq_X11_load_320.2.2.2.2.2.2.1
theorem dX11_load_335 : decode cX11_load 335 = .ok (.iload 8, 2) := dq_X11_load_320.2.2.2.2.2.2.2.1
theorem dX11_load_337 : decode cX11_load 337 = .ok (.iadd, 1) := dq_X11_load_320.2.2.2.2.2.2.2.2.1
theorem dX11_load_338 : decode cX11_load 338 = .ok (.baload, 1) := dq_X11_load_320.2.2.2.2.2.2.2.2.2.1
theorem dX11_load_339 : decode cX11_load 339 = .ok (.goto 4, 3) := dq_X11_load_320.2.2.2.2.2.2.2.2.2.2.1
theorem dX11_load_342 : decode cX11_load 342 = .ok (.iconst 0, 1) := dq_X11_load_320.2.2.2.2.2.2.2.2.2.2.2.1
theorem dX11_load_343 : decode cX11_load 343 = .ok (.bastore, 1) := dq_X11_load_320.2.2.2.2.2.2.2.2.2.2.2.2.1
theorem dX11_load_344 : decode cX11_load 344 = .ok (.iinc 8 1, 3) := dq_X11_load_320.2.2.2.2.2.2.2.2.2.2.2.2.2.1
theorem dX11_load_347 : decode cX11_load 347 = .ok (.goto (-51), 3) := dq_X11_load_320.2.2.2.2.2.2.2.2.2.2.2.2.2.2.1
theorem dX11_load_350 : decode cX11_load 350 = .ok (.iload 5, 2) := dq_X11_load_320.2.2.2.2.2.2.2.2.2.2.2.2.2.2.2
theorem dq_X11_load_352 : (decode cX11_load 352 = .ok (.aload_n 0, 1)) ∧ (decode cX11_load 353 = .ok (.getfield 17, 3)) ∧ (decode cX11_load 356 = .ok (.iload 6, 2)) ∧ (decode cX11_load 358 = .ok (.iaload, 1)) ∧ (decode cX11_load 359 = .ok (.iadd, 1)) ∧ (decode cX11_load 360 = .ok (.istore 5, 2)) ∧ (decode cX11_load 362 = .ok (.iinc 6 1, 3)) ∧ (decode cX11_load 365 = .ok (.goto (-198), 3)) ∧ (decode cX11_load 368 = .ok (.aload_n 0, 1)) ∧ (decode cX11_load 369 = .ok (.aload_n 0, 1)) ∧ (decode cX11_load 370 = .ok (.sipush 950, 3)) ∧ (decode cX11_load 373 = .ok (.invokevirtual 152, 3)) ∧ (decode cX11_load 376 = .ok (.putfield 43, 3)) ∧ (decode cX11_load 379 = .ok (.aload_n 0, 1)) ∧ (decode cX11_load 380 = .ok (.aload_n 0, 1)) ∧ (decode cX11_load 381 = .ok (.sipush 951, 3)) := by decide +kernel
theorem dX11_load_352 : decode cX11_load 352 = .ok (.aload_n 0, 1) := dq_X11_load_352.1
theorem dX11_load_353 : decode cX11_load 353 = .ok (.getfield 17, 3) := dq_X11_load_352.2.1
theorem dX11_load_356 : decode cX11_load 356 = .ok (.iload 6, 2) := dq_X11_load_352.2.2.1
theorem dX11_load_358 : decode cX11_load 358 = .ok (.iaload, 1) := dq_X11_load_352.2.2.2.1
theorem dX11_load_359 : decode cX11_load 359 = .ok (.iadd, 1) := dq_X11_load_352.2.2.2.2.1
theorem dX11_load_360 : decode cX11_load 360 = .ok (.istore 5, 2) := dq_X11_load_352.2.2.2.2.2.1
theorem dX11_load_362 : decode cX11_load 362 = .ok (.iinc 6 1, 3) := dq_X11_load_352.2.2.2.2.2.2.1
theorem dX11_load_365 : decode cX11_load 365 = .ok (.goto (-198), 3) := dq_X11_load_352.2.2.2.2.2.2.2.1
theorem dX11_load_368 : decode cX11_load 368 = .ok (.aload_n 0, 1) := dq_X11_load_352.2.2.2.2.2.2.2.2.1
theorem dX11_load_369 : decode cX11_load 369 = .ok (.aload_n 0, 1) := dq_X11_load_352.2.2.2.2.2.2.2.2.2.1
theorem dX11_load_370 : decode cX11_load 370 = .ok (.sipush 950, 3) := dq_X11_load_352.2.2.2.2.2.2.2.2.2.2.1
theorem dX11_load_373 : decode cX11_load 373 = .ok (.invokevirtual 152, 3) := dq_X11_load_352.2.2.2.2.2.2.2.2.2.2.2.1
theorem dX11_load_376 : decode cX11_load 376 = .ok (.putfield 43, 3) := dq_X11_load_352.2.2.2.2.2.2.2.2.2.2.2.2.1
theorem dX11_load_379 : decode cX11_load 379 = .ok (.aload_n 0, 1) := dq_X11_load_352.2.2.2.2.2.2.2.2.2.2.2.2.2.1
theorem dX11_load_380 : decode cX11_load 380 = .ok (.aload_n 0, 1) := dq_X11_load_352.2.2.2.2.2.2.2.2.2.2.2.2.2.2.1
theorem dX11_load_381 : decode cX11_load 381 = .ok (.sipush 951, 3) := dq_X11_load_352.2.2.2.2.2.2.2.2.2.2.2.2.2.2.2
theorem dq_X11_load_384 : (decode cX11_load 384 = .ok (.invokevirtual 152, 3)) ∧ (decode cX11_load 387 = .ok (.putfield 172, 3)) ∧ (decode cX11_load 390 = .ok (.iconst 0, 1)) ∧ (decode cX11_load 391 = .ok (.istore 6, 2)) ∧ (decode cX11_load 393 = .ok (.iload 6, 2)) ∧ (decode cX11_load 395 = .ok (.sipush 128, 3)) ∧ (decode cX11_load 398 = .ok (.if_icmp .ge 39, 3)) ∧ (decode cX11_load 401 = .ok (.aload_n 0, 1)) ∧ (decode cX11_load 402 = .ok (.getfield 40, 3)) ∧ (decode cX11_load 405 = .ok (.iload 6, 2)) ∧ (decode cX11_load 407 = .ok (.iload 6, 2)) ∧ (decode cX11_load 409 = .ok (.aload_n 0, 1)) ∧ (decode cX11_load 410 = .ok (.getfield 43, 3)) ∧ (decode cX11_load 413 = .ok (.if_icmp .ge 16, 3)) ∧ (decode cX11_load 416 = .ok (.aload_n 0, 1)) ∧ (decode cX11_load 417 = .ok (.sipush 952, 3)) := by decide +kernel
theorem dX11_load_384 : decode cX11_load 384 = .ok (.invokevirtual 152, 3) := dq_X11_load_384.1
theorem dX11_load_387 : decode cX11_load 387 = .ok (.putfield 172, 3) := dq_X11_load_384.2.1
theorem dX11_load_390 : decode cX11_load 390 = .ok (.iconst 0, 1) := dq_X11_load_384.2.2.1
theorem dX11_load_391 : decode cX11_load 391 = .ok (.istore 6, 2) := dq_X11_load_384.2.2.2.1
theorem dX11_load_393 : decode cX11_load 393 = .ok (.iload 6, 2) := dq_X11_load_384.2.2.2.2.1
theorem dX11_load_395 : decode cX11_load 395 = .ok (.sipush 128, 3) := dq_X11_load_384.2.2.2.2.2.1
theorem dX11_load_398 : decode cX11_load 398 = .ok (.if_icmp .ge 39, 3) := dq_X11_load_384.2.2.2.2.2.2.1
theorem dX11_load_401 : decode cX11_load 401 = .ok (.aload_n 0, 1) := dq_X11_load_384.2.2.2.2.2.2.2.1
theorem dX11_load_402 : decode cX11_load 402 = .ok (.getfield 40, 3) := dq_X11_load_384.2.2.2.2.2.2.2.2.1
theorem dX11_load_405 : decode cX11_load 405 = .ok (.iload 6, 2) := dq_X11_load_384.2.2.2.2.2.2.2.2.2.1
theorem dX11_load_407 : decode cX11_load 407 = .ok (.iload 6, 2) := dq_X11_load_384.2.2.2.2.2.2.2.2.2.2.1
theorem dX11_load_409 : decode cX11_load 409 = .ok (.aload_n 0, 1) := dq_X11_load_384.2.2.2.2.2.2.2.2.2.2.2.1
theorem dX11_load_410 : decode cX11_load 410 = .ok (.getfield 43, 3) := dq_X11_load_384.2.2.2.2.2.2.2.2.2.2.2.2.1
theorem dX11_load_413 : decode cX11_load 413 = .ok (.if_icmp .ge 16, 3) := dq_X11_load_384.2.2.2.2.2.2.2.2.2.2.2.2.2.1
theorem dX11_load_416 : decode cX11_load 416 = .ok (.aload_n 0, 1) := dq_X11_load_384.2.2.2.2.2.2.2.2.2.2.2.2.2.2.1
theorem dX11_load_417 : decode cX11_load 417 = .ok (.sipush 952, 3) := dq_X11_load_384.2.2.2.2.2.2.2.2.2.2.2.2.2.2.2
theorem dq_X11_load_420 : (decode cX11_load 420 = .ok (.iload 6, 2)) ∧ (decode cX11_load 422 = .ok (.iadd, 1)) ∧ (decode cX11_load 423 = .ok (.invokevirtual 152, 3)) ∧ (decode cX11_load 426 = .ok (.goto 4, 3)) ∧ (decode cX11_load 429 = .ok (.iconst 0, 1)) ∧ (decode cX11_load 430 = .ok (.iastore, 1)) ∧ (decode cX11_load 431 = .ok (.iinc 6 1, 3)) ∧ (decode cX11_load 434 = .ok (.goto (-41), 3)) ∧ (decode cX11_load 437 = .ok (.iconst 0, 1)) ∧ (decode cX11_load 438 = .ok (.istore 6, 2)) ∧ (decode cX11_load 440 = .ok (.iload 6, 2)) ∧ (decode cX11_load 442 = .ok (.sipush 2048, 3)) ∧ (decode cX11_load 445 = .ok (.if_icmp .ge 42, 3)) ∧ (decode cX11_load 448 = .ok (.aload_n 0, 1)) ∧ (decode cX11_load 449 = .ok (.getfield 37, 3)) ∧ (decode cX11_load 452 = .ok (.iload 6, 2)) := by decide +kernel
theorem dX11_load_420 : decode cX11_load 420 = .ok (.iload 6, 2) := dq_X11_load_420.1
theorem dX11_load_422 : decode cX11_load 422 = .ok (.iadd, 1) := dq_X11_load_420.2.1
theorem dX11_load_423 : decode cX11_load 423 = .ok (.invokevirtual 152, 3) := dq_X11_load_420.2.2.1
theorem dX11_load_426 : decode cX11_load 426 = .ok (.goto 4, 3) := dq_X11_load_420.2.2.2.1
theorem dX11_load_429 : decode cX11_load 429 = .ok (.iconst 0, 1) := dq_X11_load_420.2.2.2.2.1
theorem dX11_load_430 : decode cX11_load 430 = .ok (.iastore, 1) := dq_X11_load_420.2.2.2.2.2.1
theorem dX11_load_431 : decode cX11_load 431 = .ok (.iinc 6 1, 3) := dq_X11_load_420.2.2.2.2.2.2.1
theorem dX11_load_434 : decode cX11_load 434 = .ok (.goto (-41), 3) := dq_X11_load_420.2.2.2.2.2.2.2.1
theorem dX11_load_437 : decode cX11_load 437 = .ok (.iconst 0, 1) := dq_X11_load_420.2.2.2.2.2.2.2.2.1
theorem dX11_load_438 : decode cX11_load 438 = .ok (.istore 6, 2) := dq_X11_load_420.2.2.2.2.2.2.2.2.2.1
theorem dX11_load_440 : decode cX11_load 440 = .ok (.iload 6, 2) := dq_X11_load_420.2.2.2.2.2.2.2.2.2.2.1
theorem dX11_load_442 : decode cX11_load 442 = .ok (.sipush 2048, 3) := dq_X11_load_420.2.2.2.2.2.2.2.2.2.2.2.1
theorem dX11_load_445 : decode cX11_load 445 = .ok (.if_icmp .ge 42, 3) := dq_X11_load_420.2.2.2.2.2.2.2.2.2.2.2.2.1
theorem dX11_load_448 : decode cX11_load 448 = .ok (.aload_n 0, 1) := dq_X11_load_420.2.2.2.2.2.2.2.2.2.2.2.2.2.1
theorem dX11_load_449 : decode cX11_load 449 = .ok (.getfield 37, 3) := dq_X11_load_420.2.2.2.2.2.2.2.2.2.2.2.2.2.2.1
theorem dX11_load_452 : decode cX11_load 452 = .ok (.iload 6, 2) := dq_X11_load_420.2.2.2.2.2.2.2.2.2.2.2.2.2.2.2
theorem dq_X11_load_454 : (decode cX11_load 454 = .ok (.iload 6, 2)) ∧ (decode cX11_load 456 = .ok (.sipush 256, 3)) ∧ (decode cX11_load 459 = .ok (.iload_n 3, 1)) ∧ (decode cX11_load 460 = .ok (.imul, 1)) ∧ (decode cX11_load 461 = .ok (.if_icmp .ge 18, 3)) ∧ (decode cX11_load 464 = .ok (.aload_n 0, 1)) ∧ (decode cX11_load 465 = .ok (.sipush 1084, 3)) ∧ (decode cX11_load 468 = .ok (.iconst 4, 1)) ∧ (decode cX11_load 469 = .ok (.iload 6, 2)) ∧ (decode cX11_load 471 = .ok (.imul, 1)) ∧ (decode cX11_load 472 = .ok (.iadd, 1)) ∧ (decode cX11_load 473 = .ok (.invokevirtual 175, 3)) ∧ (decode cX11_load 476 = .ok (.goto 4, 3)) ∧ (decode cX11_load 479 = .ok (.iconst 0, 1)) ∧ (decode cX11_load 480 = .ok (.iastore, 1)) ∧ (decode cX11_load 481 = .ok (.iinc 6 1, 3)) := by decide +kernel
theorem dX11_load_454 : decode cX11_load 454 = .ok (.iload 6, 2) := dq_X11_load_454.1
theorem dX11_load_456 : decode cX11_load 456 = .ok (.sipush 256, 3) := dq_X11_load_454.2.1
theorem dX11_load_459 : decode cX11_load 459 = .ok (.iload_n 3, 1) := dq_X11_load_454.2.2.1
theorem dX11_load_460 : decode cX11_load 460 = .ok (.imul, 1) := dq_X11_load_454.2.2.2.1
theorem dX11_load_461 : decode cX11_load 461 = .ok (.if_icmp .ge 18, 3) := dq_X11_load_454.2.2.2.2.1
theorem dX11_load_464 : decode cX11_load 464 = .ok (.aload_n 0, 1) := dq_X11_load_454.2.2.2.2.2.1
theorem dX11_load_465 : decode cX11_load 465 = .ok (.sipush 1084, 3) := dq_X11_load_454.2.2.2.2.2.2.1
theorem dX11_load_468 : decode cX11_load 468 = .ok (.iconst 4, 1) := dq_X11_load_454.2.2.2.2.2.2.2.1
theorem dX11_load_469 : decode cX11_load 469 = .ok (.iload 6, 2) := dq_X11_load_454.2.2.2.2.2.2.2.2.1
theorem dX11_load_471 : decode cX11_load 471 = .ok (.imul, 1) := dq_X11_load_454.2.2.2.2.2.2.2.2.2.1
theorem dX11_load_472 : decode cX11_load 472 = .ok (.iadd, 1) := dq_X11_load_454.2.2.2.2.2.2.2.2.2.2.1
theorem dX11_load_473 : decode cX11_load 473 = .ok (.invokevirtual 175, 3) := dq_X11_load_454.2.2.2.2.2.2.2.2.2.2.2.1
theorem dX11_load_476 : decode cX11_load 476 = .ok (.goto 4, 3) := dq_X11_load_454.2.2.2.2.2.2.2.2.2.2.2.2.1
theorem dX11_load_479 : decode cX11_load 479 = .ok (.iconst 0, 1) := dq_X11_load_454.2.2.2.2.2.2.2.2.2.2.2.2.2.1
theorem dX11_load_480 : decode cX11_load 480 = .ok (.iastore, 1) := dq_X11_load_454.2.2.2.2.2.2.2.2.2.2.2.2.2.2.1
theorem dX11_load_481 : decode cX11_load 481 = .ok (.iinc 6 1, 3) := dq_X11_load_454.2.2.2.2.2.2.2.2.2.2.2.2.2.2.2
theorem dq_X11_load_484 : (decode cX11_load 484 = .ok (.goto (-44), 3)) ∧ (decode cX11_load 487 = .ok (.aload_n 0, 1)) ∧ (decode cX11_load 488 = .ok (.invokevirtual 135, 3)) ∧ (decode cX11_load 491 = .ok (.iload_n 3, 1)) ∧ (decode cX11_load 492 = .ok (.ireturn, 1)) := by decide +kernel
theorem dX11_load_484 : decode cX11_load 484 = .ok (.goto (-44), 3) := dq_X11_load_484.1
theorem dX11_load_487 : decode cX11_load 487 = .ok (.aload_n 0, 1) := dq_X11_load_484.2.1
theorem dX11_load_488 : decode cX11_load 488 = .ok (.invokevirtual 135, 3) := dq_X11_load_484.2.2.1
theorem dX11_load_491 : decode cX11_load 491 = .ok (.iload_n 3, 1) := dq_X11_load_484.2.2.2.1
theorem dX11_load_492 : decode cX11_load 492 = .ok (.ireturn, 1) := dq_X11_load_484.2.2.2.2
theorem dq_X11_cellAt_0 : (decode cX11_cellAt 0 = .ok (.aload_n 0, 1)) ∧ (decode cX11_cellAt 1 = .ok (.iload_n 1, 1)) ∧ (decode cX11_cellAt 2 = .ok (.invokevirtual 152, 3)) ∧ (decode cX11_cellAt 5 = .ok (.sipush 240, 3)) ∧ (decode cX11_cellAt 8 = .ok (.iand, 1)) ∧ (decode cX11_cellAt 9 = .ok (.aload_n 0, 1)) ∧ (decode cX11_cellAt 10 = .ok (.iload_n 1, 1)) ∧ (decode cX11_cellAt 11 = .ok (.iconst 2, 1)) ∧ (decode cX11_cellAt 12 = .ok (.iadd, 1)) ∧ (decode cX11_cellAt 13 = .ok (.invokevirtual 152, 3)) ∧ (decode cX11_cellAt 16 = .ok (.iconst 4, 1)) ∧ (decode cX11_cellAt 17 = .ok (.ishr, 1)) ∧ (decode cX11_cellAt 18 = .ok (.ior, 1)) ∧ (decode cX11_cellAt 19 = .ok (.bipush 31, 2)) ∧ (decode cX11_cellAt 21 = .ok (.iand, 1)) ∧ (decode cX11_cellAt 22 = .ok (.istore_n 2, 1)) := by decide +kernel
theorem dX11_cellAt_0 : decode cX11_cellAt 0 = .ok (.aload_n 0, 1) := dq_X11_cellAt_0.1
theorem dX11_cellAt_1 : decode cX11_cellAt 1 = .ok (.iload_n 1, 1) := dq_X11_cellAt_0.2.1
theorem dX11_cellAt_2 : decode cX11_cellAt 2 = .ok (.invokevirtual 152, 3) := dq_X11_cellAt_0.2.2.1
theorem dX11_cellAt_5 : decode cX11_cellAt 5 = .ok (.sipush 240, 3) := dq_X11_cellAt_0.2.2.2.1
theorem dX11_cellAt_8 : decode cX11_cellAt 8 = .ok (.iand, 1) := dq_X11_cellAt_0.2.2.2.2.1
theorem dX11_cellAt_9 : decode cX11_cellAt 9 = .ok (.aload_n 0, 1) := dq_X11_cellAt_0.2.2.2.2.2.1
theorem dX11_cellAt_10 : decode cX11_cellAt 10 = .ok (.iload_n 1, 1) := dq_X11_cellAt_0.2.2.2.2.2.2.1
theorem dX11_cellAt_11 : decode cX11_cellAt 11 = .ok (.iconst 2, 1) := dq_X11_cellAt_0.2.2.2.2.2.2.2.1
theorem dX11_cellAt_12 : decode cX11_cellAt 12 = .ok (.iadd, 1) := dq_X11_cellAt_0.2.2.2.2.2.2.2.2.1
theorem dX11_cellAt_13 : decode cX11_cellAt 13 = .ok (.invokevirtual 152, 3) := dq_X11_cellAt_0.2.2.2.2.2.2.2.2.2.1
theorem dX11_cellAt_16 : decode cX11_cellAt 16 = .ok (.iconst 4, 1) := dq_X11_cellAt_0.2.2.2.2.2.2.2.2.2.2.1
theorem dX11_cellAt_17 : decode cX11_cellAt 17 = .ok (.ishr, 1) := dq_X11_cellAt_0.2.2.2.2.2.2.2.2.2.2.2.1
theorem dX11_cellAt_18 : decode cX11_cellAt 18 = .ok (.ior, 1) := dq_X11_cellAt_0.2.2.2.2.2.2.2.2.2.2.2.2.1
theorem dX11_cellAt_19 : decode cX11_cellAt 19 = .ok (.bipush 31, 2) := dq_X11_cellAt_0.2.2.2.2.2.2.2.2.2.2.2.2.2.1
theorem dX11_cellAt_21 : decode cX11_cellAt 21 = .ok (.iand, 1) := dq_X11_cellAt_0.2.2.2.2.2.2.2.2.2.2.2.2.2.2.1
theorem dX11_cellAt_22 : decode cX11_cellAt 22 = .ok (.istore_n 2, 1) := dq_X11_cellAt_0.2.2.2.2.2.2.2.2.2.2.2.2.2.2.2
theorem dq_X11_cellAt_23 : (decode cX11_cellAt 23 = .ok (.sipush 256, 3)) ∧ (decode cX11_cellAt 26 = .ok (.aload_n 0, 1)) ∧ (decode cX11_cellAt 27 = .ok (.iload_n 1, 1)) ∧ (decode cX11_cellAt 28 = .ok (.invokevirtual 152, 3)) ∧ (decode cX11_cellAt 31 = .ok (.bipush 15, 2)) ∧ (decode cX11_cellAt 33 = .ok (.iand, 1)) ∧ (decode cX11_cellAt 34 = .ok (.imul, 1)) ∧ (decode cX11_cellAt 35 = .ok (.aload_n 0, 1)) ∧ (decode cX11_cellAt 36 = .ok (.iload_n 1, 1)) ∧ (decode cX11_cellAt 37 = .ok (.iconst 1, 1)) ∧ (decode cX11_cellAt 38 = .ok (.iadd, 1)) ∧ (decode cX11_cellAt 39 = .ok (.invokevirtual 152, 3)) ∧ (decode cX11_cellAt 42 = .ok (.iadd, 1)) ∧ (decode cX11_cellAt 43 = .ok (.istore_n 3, 1)) ∧ (decode cX11_cellAt 44 = .ok (.ldc 178, 2)) ∧ (decode cX11_cellAt 46 = .ok (.iload_n 3, 1)) := by decide +kernel
theorem dX11_cellAt_23 : decode cX11_cellAt 23 = .ok (.sipush 256, 3) := dq_X11_cellAt_23.1
theorem dX11_cellAt_26 : decode cX11_cellAt 26 = .ok (.aload_n 0, 1) := dq_X11_cellAt_23.2.1
theorem dX11_cellAt_27 : decode cX11_cellAt 27 = .ok (.iload_n 1, 1) := dq_X11_cellAt_23.2.2.1
theorem dX11_cellAt_28 : decode cX11_cellAt 28 = .ok (.invokevirtual 152, 3) := dq_X11_cellAt_23.2.2.2.1
theorem dX11_cellAt_31 : decode cX11_cellAt 31 = .ok (.bipush 15, 2) := dq_X11_cellAt_23.2.2.2.2.1
theorem dX11_cellAt_33 : decode cX11_cellAt 33 = .ok (.iand, 1) := dq_X11_cellAt_23.2.2.2.2.2.1
theorem dX11_cellAt_34 : decode cX11_cellAt 34 = .ok (.imul, 1) := dq_X11_cellAt_23.2.2.2.2.2.2.1
theorem dX11_cellAt_35 : decode cX11_cellAt 35 = .ok (.aload_n 0, 1) := dq_X11_cellAt_23.2.2.2.2.2.2.2.1
theorem dX11_cellAt_36 : decode cX11_cellAt 36 = .ok (.iload_n 1, 1) := dq_X11_cellAt_23.2.2.2.2.2.2.2.2.1
theorem dX11_cellAt_37 : decode cX11_cellAt 37 = .ok (.iconst 1, 1) := dq_X11_cellAt_23.2.2.2.2.2.2.2.2.2.1
theorem dX11_cellAt_38 : decode cX11_cellAt 38 = .ok (.iadd, 1) := dq_X11_cellAt_23.2.2.2.2.2.2.2.2.2.2.1
theorem dX11_cellAt_39 : decode cX11_cellAt 39 = .ok (.invokevirtual 152, 3) := dq_X11_cellAt_23.2.2.2.2.2.2.2.2.2.2.2.1
theorem dX11_cellAt_42 : decode cX11_cellAt 42 = .ok (.iadd, 1) := dq_X11_cellAt_23.2.2.2.2.2.2.2.2.2.2.2.2.1
theorem dX11_cellAt_43 : decode cX11_cellAt 43 = .ok (.istore_n 3, 1) := dq_X11_cellAt_23.2.2.2.2.2.2.2.2.2.2.2.2.2.1
theorem dX11_cellAt_44 : decode cX11_cellAt 44 = .ok (.ldc 178, 2) := dq_X11_cellAt_23.2.2.2.2.2.2.2.2.2.2.2.2.2.2.1
theorem dX11_cellAt_46 : decode cX11_cellAt 46 = .ok (.iload_n 3, 1) := dq_X11_cellAt_23.2.2.2.2.2.2.2.2.2.2.2.2.2.2.2
theorem dq_X11_cellAt_47 : (decode cX11_cellAt 47 = .ok (.imul, 1)) ∧ (decode cX11_cellAt 48 = .ok (.sipush 4096, 3)) ∧ (decode cX11_cellAt 51 = .ok (.iload_n 2, 1)) ∧ (decode cX11_cellAt 52 = .ok (.imul, 1)) ∧ (decode cX11_cellAt 53 = .ok (.iadd, 1)) ∧ (decode cX11_cellAt 54 = .ok (.sipush 256, 3)) ∧ (decode cX11_cellAt 57 = .ok (.aload_n 0, 1)) ∧ (decode cX11_cellAt 58 = .ok (.iload_n 1, 1)) ∧ (decode cX11_cellAt 59 = .ok (.iconst 2, 1)) ∧ (decode cX11_cellAt 60 = .ok (.iadd, 1)) ∧ (decode cX11_cellAt 61 = .ok (.invokevirtual 152, 3)) ∧ (decode cX11_cellAt 64 = .ok (.bipush 15, 2)) ∧ (decode cX11_cellAt 66 = .ok (.iand, 1)) ∧ (decode cX11_cellAt 67 = .ok (.imul, 1)) ∧ (decode cX11_cellAt 68 = .ok (.iadd, 1)) ∧ (decode cX11_cellAt 69 = .ok (.aload_n 0, 1)) := by decide +kernel
theorem dX11_cellAt_47 : decode cX11_cellAt 47 = .ok (.imul, 1) := dq_X11_cellAt_47.1
theorem dX11_cellAt_48 : decode cX11_cellAt 48 = .ok (.sipush 4096, 3) := dq_X11_cellAt_47.2.1
theorem dX11_cellAt_51 : decode cX11_cellAt 51 = .ok (.iload_n 2, 1) := dq_X11_cellAt_47.2.2.1
theorem dX11_cellAt_52 : decode cX11_cellAt 52 = .ok (.imul, 1) := dq_X11_cellAt_47.2.2.2.1
theorem dX11_cellAt_53 : decode cX11_cellAt 53 = .ok (.iadd, 1) := dq_X11_cellAt_47.2.2.2.2.1
theorem dX11_cellAt_54 : decode cX11_cellAt 54 = .ok (.sipush 256, 3) := dq_X11_cellAt_47.2.2.2.2.2.1
theorem dX11_cellAt_57 : decode cX11_cellAt 57 = .ok (.aload_n 0, 1) := dq_X11_cellAt_47.2.2.2.2.2.2.1
theorem dX11_cellAt_58 : decode cX11_cellAt 58 = .ok (.iload_n 1, 1) := dq_X11_cellAt_47.2.2.2.2.2.2.2.1
theorem dX11_cellAt_59 : decode cX11_cellAt 59 = .ok (.iconst 2, 1) := dq_X11_cellAt_47.2.2.2.2.2.2.2.2.1
theorem dX11_cellAt_60 : decode cX11_cellAt 60 = .ok (.iadd, 1) := dq_X11_cellAt_47.2.2.2.2.2.2.2.2.2.1
theorem dX11_cellAt_61 : decode cX11_cellAt 61 = .ok (.invokevirtual 152, 3) := dq_X11_cellAt_47.2.2.2.2.2.2.2.2.2.2.1
theorem dX11_cellAt_64 : decode cX11_cellAt 64 = .ok (.bipush 15, 2) := dq_X11_cellAt_47.2.2.2.2.2.2.2.2.2.2.2.1
theorem dX11_cellAt_66 : decode cX11_cellAt 66 = .ok (.iand, 1) := dq_X11_cellAt_47.2.2.2.2.2.2.2.2.2.2.2.2.1
theorem dX11_cellAt_67 : decode cX11_cellAt 67 = .ok (.imul, 1) := dq_X11_cellAt_47.2.2.2.2.2.2.2.2.2.2.2.2.2.1
theorem dX11_cellAt_68 : decode cX11_cellAt 68 = .ok (.iadd, 1) := dq_X11_cellAt_47.2.2.2.2.2.2.2.2.2.2.2.2.2.2.1
theorem dX11_cellAt_69 : decode cX11_cellAt 69 = .ok (.aload_n 0, 1) := dq_X11_cellAt_47.2.2.2.2.2.2.2.2.2.2.2.2.2.2.2
theorem dq_X11_cellAt_70 : (decode cX11_cellAt 70 = .ok (.iload_n 1, 1)) ∧ (decode cX11_cellAt 71 = .ok (.iconst 3, 1)) ∧ (decode cX11_cellAt 72 = .ok (.iadd, 1)) ∧ (decode cX11_cellAt 73 = .ok (.invokevirtual 152, 3)) ∧ (decode cX11_cellAt 76 = .ok (.iadd, 1)) ∧ (decode cX11_cellAt 77 = .ok (.ireturn, 1)) := by decide +kernel
theorem dX11_cellAt_70 : decode cX11_cellAt 70 = .ok (.iload_n 1, 1) := dq_X11_cellAt_70.1
theorem dX11_cellAt_71 : decode cX11_cellAt 71 = .ok (.iconst 3, 1) := dq_X11_cellAt_70.2.1
theorem dX11_cellAt_72 : decode cX11_cellAt 72 = .ok (.iadd, 1) := dq_X11_cellAt_70.2.2.1
theorem dX11_cellAt_73 : decode cX11_cellAt 73 = .ok (.invokevirtual 152, 3) := dq_X11_cellAt_70.2.2.2.1
theorem dX11_cellAt_76 : decode cX11_cellAt 76 = .ok (.iadd, 1) := dq_X11_cellAt_70.2.2.2.2.1
theorem dX11_cellAt_77 : decode cX11_cellAt 77 = .ok (.ireturn, 1) := dq_X11_cellAt_70.2.2.2.2.2
theorem dq_X11_patterns_0 : (decode cX11_patterns 0 = .ok (.iconst 0, 1)) ∧ (decode cX11_patterns 1 = .ok (.istore_n 1, 1)) ∧ (decode cX11_patterns 2 = .ok (.iconst 0, 1)) ∧ (decode cX11_patterns 3 = .ok (.istore_n 2, 1)) ∧ (decode cX11_patterns 4 = .ok (.iload_n 2, 1)) ∧ (decode cX11_patterns 5 = .ok (.aload_n 0, 1)) ∧ (decode cX11_patterns 6 = .ok (.getfield 43, 3)) ∧ (decode cX11_patterns 9 = .ok (.if_icmp .ge 22, 3)) ∧ (decode cX11_patterns 12 = .ok (.iload_n 1, 1)) ∧ (decode cX11_patterns 13 = .ok (.aload_n 0, 1)) ∧ (decode cX11_patterns 14 = .ok (.getfield 40, 3)) ∧ (decode cX11_patterns 17 = .ok (.iload_n 2, 1)) ∧ (decode cX11_patterns 18 = .ok (.iaload, 1)) ∧ (decode cX11_patterns 19 = .ok (.iconst 1, 1)) ∧ (decode cX11_patterns 20 = .ok (.iadd, 1)) ∧ (decode cX11_patterns 21 = .ok (.invokestatic 129, 3)) := by decide +kernel
theorem dX11_patterns_0 : decode cX11_patterns 0 = .ok (.iconst 0, 1) := dq_X11_patterns_0.1
theorem dX11_patterns_1 : decode cX11_patterns 1 = .ok (.istore_n 1, 1) := dq_X11_patterns_0.2.1
theorem dX11_patterns_2 : decode cX11_patterns 2 = .ok (.iconst 0, 1) := dq_X11_patterns_0.2.2.1
theorem dX11_patterns_3 : decode cX11_patterns 3 = .ok (.istore_n 2, 1) := dq_X11_patterns_0.2.2.2.1
theorem dX11_patterns_4 : decode cX11_patterns 4 = .ok (.iload_n 2, 1) := dq_X11_patterns_0.2.2.2.2.1
theorem dX11_patterns_5 : decode cX11_patterns 5 = .ok (.aload_n 0, 1) := dq_X11_patterns_0.2.2.2.2.2.1
theorem dX11_patterns_6 : decode cX11_patterns 6 = .ok (.getfield 43, 3) := dq_X11_patterns_0.2.2.2.2.2.2.1
theorem dX11_patterns_9 : decode cX11_patterns 9 = .ok (.if_icmp .ge 22, 3) := dq_X11_patterns_0.2.2.2.2.2.2.2.1
theorem dX11_patterns_12 : decode cX11_patterns 12 = .ok (.iload_n 1, 1) := dq_X11_patterns_0.2.2.2.2.2.2.2.2.1
theorem dX11_patterns_13 : decode cX11_patterns 13 = .ok (.aload_n 0, 1) := dq_X11_patterns_0.2.2.2.2.2.2.2.2.2.1
theorem dX11_patterns_14 : decode cX11_patterns 14 = .ok (.getfield 40, 3) := dq_X11_patterns_0.2.2.2.2.2.2.2.2.2.2.1
theorem dX11_patterns_17 : decode cX11_patterns 17 = .ok (.iload_n 2, 1) := dq_X11_patterns_0.2.2.2.2.2.2.2.2.2.2.2.1
theorem dX11_patterns_18 : decode cX11_patterns 18 = .ok (.iaload, 1) := dq_X11_patterns_0.2.2.2.2.2.2.2.2.2.2.2.2.1
theorem dX11_patterns_19 : decode cX11_patterns 19 = .ok (.iconst 1, 1) := dq_X11_patterns_0.2.2.2.2.2.2.2.2.2.2.2.2.2.1
theorem dX11_patterns_20 : decode cX11_patterns 20 = .ok (.iadd, 1) := dq_X11_patterns_0.2.2.2.2.2.2.2.2.2.2.2.2.2.2.1
theorem dX11_patterns_21 : decode cX11_patterns 21 = .ok (.invokestatic 129, 3) := dq_X11_patterns_0.2.2.2.2.2.2.2.2.2.2.2.2.2.2.2
theorem dq_X11_patterns_24 : (decode cX11_patterns 24 = .ok (.istore_n 1, 1)) ∧ (decode cX11_patterns 25 = .ok (.iinc 2 1, 3)) ∧ (decode cX11_patterns 28 = .ok (.goto (-24), 3)) ∧ (decode cX11_patterns 31 = .ok (.iload_n 1, 1)) ∧ (decode cX11_patterns 32 = .ok (.ireturn, 1)) := by decide +kernel
theorem dX11_patterns_24 : decode cX11_patterns 24 = .ok (.istore_n 1, 1) := dq_X11_patterns_24.1
theorem dX11_patterns_25 : decode cX11_patterns 25 = .ok (.iinc 2 1, 3) := dq_X11_patterns_24.2.1
theorem dX11_patterns_28 : decode cX11_patterns 28 = .ok (.goto (-24), 3) := dq_X11_patterns_24.2.2.1
theorem dX11_patterns_31 : decode cX11_patterns 31 = .ok (.iload_n 1, 1) := dq_X11_patterns_24.2.2.2.1
theorem dX11_patterns_32 : decode cX11_patterns 32 = .ok (.ireturn, 1) := dq_X11_patterns_24.2.2.2.2
theorem dq_X11_put_0 : (decode cX11_put 0 = .ok (.aload_n 0, 1)) ∧ (decode cX11_put 1 = .ok (.getfield 9, 3)) ∧ (decode cX11_put 4 = .ok (.aload_n 0, 1)) ∧ (decode cX11_put 5 = .ok (.getfield 138, 3)) ∧ (decode cX11_put 8 = .ok (.iload_n 1, 1)) ∧ (decode cX11_put 9 = .ok (.i2b, 1)) ∧ (decode cX11_put 10 = .ok (.bastore, 1)) ∧ (decode cX11_put 11 = .ok (.aload_n 0, 1)) ∧ (decode cX11_put 12 = .ok (.dup, 1)) ∧ (decode cX11_put 13 = .ok (.getfield 138, 3)) ∧ (decode cX11_put 16 = .ok (.iconst 1, 1)) ∧ (decode cX11_put 17 = .ok (.iadd, 1)) ∧ (decode cX11_put 18 = .ok (.putfield 138, 3)) ∧ (decode cX11_put 21 = .ok (.return_, 1)) := by decide +kernel
theorem dX11_put_0 : decode cX11_put 0 = .ok (.aload_n 0, 1) := dq_X11_put_0.1
theorem dX11_put_1 : decode cX11_put 1 = .ok (.getfield 9, 3) := dq_X11_put_0.2.1
theorem dX11_put_4 : decode cX11_put 4 = .ok (.aload_n 0, 1) := dq_X11_put_0.2.2.1
theorem dX11_put_5 : decode cX11_put 5 = .ok (.getfield 138, 3) := dq_X11_put_0.2.2.2.1
theorem dX11_put_8 : decode cX11_put 8 = .ok (.iload_n 1, 1) := dq_X11_put_0.2.2.2.2.1
theorem dX11_put_9 : decode cX11_put 9 = .ok (.i2b, 1) := dq_X11_put_0.2.2.2.2.2.1
theorem dX11_put_10 : decode cX11_put 10 = .ok (.bastore, 1) := dq_X11_put_0.2.2.2.2.2.2.1
theorem dX11_put_11 : decode cX11_put 11 = .ok (.aload_n 0, 1) := dq_X11_put_0.2.2.2.2.2.2.2.1
theorem dX11_put_12 : decode cX11_put 12 = .ok (.dup, 1) := dq_X11_put_0.2.2.2.2.2.2.2.2.1
theorem dX11_put_13 : decode cX11_put 13 = .ok (.getfield 138, 3) := dq_X11_put_0.2.2.2.2.2.2.2.2.2.1
theorem dX11_put_16 : decode cX11_put 16 = .ok (.iconst 1, 1) := dq_X11_put_0.2.2.2.2.2.2.2.2.2.2.1
theorem dX11_put_17 : decode cX11_put 17 = .ok (.iadd, 1) := dq_X11_put_0.2.2.2.2.2.2.2.2.2.2.2.1
theorem dX11_put_18 : decode cX11_put 18 = .ok (.putfield 138, 3) := dq_X11_put_0.2.2.2.2.2.2.2.2.2.2.2.2.1
theorem dX11_put_21 : decode cX11_put 21 = .ok (.return_, 1) := dq_X11_put_0.2.2.2.2.2.2.2.2.2.2.2.2.2
theorem dq_X11_putTwo_0 : (decode cX11_putTwo 0 = .ok (.aload_n 0, 1)) ∧ (decode cX11_putTwo 1 = .ok (.iload_n 1, 1)) ∧ (decode cX11_putTwo 2 = .ok (.iconst 2, 1)) ∧ (decode cX11_putTwo 3 = .ok (.idiv, 1)) ∧ (decode cX11_putTwo 4 = .ok (.bipush 8, 2)) ∧ (decode cX11_putTwo 6 = .ok (.ishr, 1)) ∧ (decode cX11_putTwo 7 = .ok (.invokevirtual 179, 3)) ∧ (decode cX11_putTwo 10 = .ok (.aload_n 0, 1)) ∧ (decode cX11_putTwo 11 = .ok (.iload_n 1, 1)) ∧ (decode cX11_putTwo 12 = .ok (.iconst 2, 1)) ∧ (decode cX11_putTwo 13 = .ok (.idiv, 1)) ∧ (decode cX11_putTwo 14 = .ok (.invokevirtual 179, 3)) ∧ (decode cX11_putTwo 17 = .ok (.return_, 1)) := by decide +kernel
theorem dX11_putTwo_0 : decode cX11_putTwo 0 = .ok (.aload_n 0, 1) := dq_X11_putTwo_0.1
theorem dX11_putTwo_1 : decode cX11_putTwo 1 = .ok (.iload_n 1, 1) := dq_X11_putTwo_0.2.1
theorem dX11_putTwo_2 : decode cX11_putTwo 2 = .ok (.iconst 2, 1) := dq_X11_putTwo_0.2.2.1
theorem dX11_putTwo_3 : decode cX11_putTwo 3 = .ok (.idiv, 1) := dq_X11_putTwo_0.2.2.2.1
theorem dX11_putTwo_4 : decode cX11_putTwo 4 = .ok (.bipush 8, 2) := dq_X11_putTwo_0.2.2.2.2.1
theorem dX11_putTwo_6 : decode cX11_putTwo 6 = .ok (.ishr, 1) := dq_X11_putTwo_0.2.2.2.2.2.1
theorem dX11_putTwo_7 : decode cX11_putTwo 7 = .ok (.invokevirtual 179, 3) := dq_X11_putTwo_0.2.2.2.2.2.2.1
theorem dX11_putTwo_10 : decode cX11_putTwo 10 = .ok (.aload_n 0, 1) := dq_X11_putTwo_0.2.2.2.2.2.2.2.1
theorem dX11_putTwo_11 : decode cX11_putTwo 11 = .ok (.iload_n 1, 1) := dq_X11_putTwo_0.2.2.2.2.2.2.2.2.1
theorem dX11_putTwo_12 : decode cX11_putTwo 12 = .ok (.iconst 2, 1) := dq_X11_putTwo_0.2.2.2.2.2.2.2.2.2.1
theorem dX11_putTwo_13 : decode cX11_putTwo 13 = .ok (.idiv, 1) := dq_X11_putTwo_0.2.2.2.2.2.2.2.2.2.2.1
theorem dX11_putTwo_14 : decode cX11_putTwo 14 = .ok (.invokevirtual 179, 3) := dq_X11_putTwo_0.2.2.2.2.2.2.2.2.2.2.2.1
theorem dX11_putTwo_17 : decode cX11_putTwo 17 = .ok (.return_, 1) := dq_X11_putTwo_0.2.2.2.2.2.2.2.2.2.2.2.2
theorem dq_X11_save_0 : (decode cX11_save 0 = .ok (.aload_n 0, 1)) ∧ (decode cX11_save 1 = .ok (.invokevirtual 182, 3)) ∧ (decode cX11_save 4 = .ok (.istore_n 1, 1)) ∧ (decode cX11_save 5 = .ok (.sipush 1084, 3)) ∧ (decode cX11_save 8 = .ok (.sipush 1024, 3)) ∧ (decode cX11_save 11 = .ok (.iload_n 1, 1)) ∧ (decode cX11_save 12 = .ok (.imul, 1)) ∧ (decode cX11_save 13 = .ok (.iadd, 1)) ∧ (decode cX11_save 14 = .ok (.istore_n 2, 1)) ∧ (decode cX11_save 15 = .ok (.iconst 1, 1)) ∧ (decode cX11_save 16 = .ok (.istore_n 3, 1)) ∧ (decode cX11_save 17 = .ok (.iload_n 3, 1)) ∧ (decode cX11_save 18 = .ok (.bipush 32, 2)) ∧ (decode cX11_save 20 = .ok (.if_icmp .ge 18, 3)) ∧ (decode cX11_save 23 = .ok (.iload_n 2, 1)) ∧ (decode cX11_save 24 = .ok (.aload_n 0, 1)) := by decide +kernel
theorem dX11_save_0 : decode cX11_save 0 = .ok (.aload_n 0, 1) := dq_X11_save_0.1
theorem dX11_save_1 : decode cX11_save 1 = .ok (.invokevirtual 182, 3) := dq_X11_save_0.2.1
theorem dX11_save_4 : decode cX11_save 4 = .ok (.istore_n 1, 1) := dq_X11_save_0.2.2.1
theorem dX11_save_5 : decode cX11_save 5 = .ok (.sipush 1084, 3) := dq_X11_save_0.2.2.2.1
theorem dX11_save_8 : decode cX11_save 8 = .ok (.sipush 1024, 3) := dq_X11_save_0.2.2.2.2.1
theorem dX11_save_11 : decode cX11_save 11 = .ok (.iload_n 1, 1) := dq_X11_save_0.2.2.2.2.2.1
theorem dX11_save_12 : decode cX11_save 12 = .ok (.imul, 1) := dq_X11_save_0.2.2.2.2.2.2.1
theorem dX11_save_13 : decode cX11_save 13 = .ok (.iadd, 1) := dq_X11_save_0.2.2.2.2.2.2.2.1
theorem dX11_save_14 : decode cX11_save 14 = .ok (.istore_n 2, 1) := dq_X11_save_0.2.2.2.2.2.2.2.2.1
theorem dX11_save_15 : decode cX11_save 15 = .ok (.iconst 1, 1) := dq_X11_save_0.2.2.2.2.2.2.2.2.2.1
theorem dX11_save_16 : decode cX11_save 16 = .ok (.istore_n 3, 1) := dq_X11_save_0.2.2.2.2.2.2.2.2.2.2.1
theorem dX11_save_17 : decode cX11_save 17 = .ok (.iload_n 3, 1) := dq_X11_save_0.2.2.2.2.2.2.2.2.2.2.2.1
theorem dX11_save_18 : decode cX11_save 18 = .ok (.bipush 32, 2) := dq_X11_save_0.2.2.2.2.2.2.2.2.2.2.2.2.1
theorem dX11_save_20 : decode cX11_save 20 = .ok (.if_icmp .ge 18, 3) := dq_X11_save_0.2.2.2.2.2.2.2.2.2.2.2.2.2.1
theorem dX11_save_23 : decode cX11_save 23 = .ok (.iload_n 2, 1) := dq_X11_save_0.2.2.2.2.2.2.2.2.2.2.2.2.2.2.1
theorem dX11_save_24 : decode cX11_save 24 = .ok (.aload_n 0, 1) := dq_X11_save_0.2.2.2.2.2.2.2.2.2.2.2.2.2.2.2
theorem dq_X11_save_25 : (decode cX11_save 25 = .ok (.getfield 17, 3)) ∧ (decode cX11_save 28 = .ok (.iload_n 3, 1)) ∧ (decode cX11_save 29 = .ok (.iaload, 1)) ∧ (decode cX11_save 30 = .ok (.iadd, 1)) ∧ (decode cX11_save 31 = .ok (.istore_n 2, 1)) ∧ (decode cX11_save 32 = .ok (.iinc 3 1, 3)) ∧ (decode cX11_save 35 = .ok (.goto (-18), 3)) ∧ (decode cX11_save 38 = .ok (.iload_n 2, 1)) ∧ (decode cX11_save 39 = .ok (.sipush 9000, 3)) ∧ (decode cX11_save 42 = .ok (.if_icmp .le 5, 3)) ∧ (decode cX11_save 45 = .ok (.iconst (-1), 1)) ∧ (decode cX11_save 46 = .ok (.ireturn, 1)) ∧ (decode cX11_save 47 = .ok (.aload_n 0, 1)) ∧ (decode cX11_save 48 = .ok (.iconst 0, 1)) ∧ (decode cX11_save 49 = .ok (.putfield 138, 3)) ∧ (decode cX11_save 52 = .ok (.iconst 0, 1)) := by decide +kernel
theorem dX11_save_25 : decode cX11_save 25 = .ok (.getfield 17, 3) := dq_X11_save_25.1
theorem dX11_save_28 : decode cX11_save 28 = .ok (.iload_n 3, 1) := dq_X11_save_25.2.1
theorem dX11_save_29 : decode cX11_save 29 = .ok (.iaload, 1) := dq_X11_save_25.2.2.1
theorem dX11_save_30 : decode cX11_save 30 = .ok (.iadd, 1) := dq_X11_save_25.2.2.2.1
theorem dX11_save_31 : decode cX11_save 31 = .ok (.istore_n 2, 1) := dq_X11_save_25.2.2.2.2.1
theorem dX11_save_32 : decode cX11_save 32 = .ok (.iinc 3 1, 3) := dq_X11_save_25.2.2.2.2.2.1
theorem dX11_save_35 : decode cX11_save 35 = .ok (.goto (-18), 3) := dq_X11_save_25.2.2.2.2.2.2.1
theorem dX11_save_38 : decode cX11_save 38 = .ok (.iload_n 2, 1) := dq_X11_save_25.2.2.2.2.2.2.2.1
theorem dX11_save_39 : decode cX11_save 39 = .ok (.sipush 9000, 3) := dq_X11_save_25.2.2.2.2.2.2.2.2.1
theorem dX11_save_42 : decode cX11_save 42 = .ok (.if_icmp .le 5, 3) := dq_X11_save_25.2.2.2.2.2.2.2.2.2.1
theorem dX11_save_45 : decode cX11_save 45 = .ok (.iconst (-1), 1) := dq_X11_save_25.2.2.2.2.2.2.2.2.2.2.1
theorem dX11_save_46 : decode cX11_save 46 = .ok (.ireturn, 1) := dq_X11_save_25.2.2.2.2.2.2.2.2.2.2.2.1
theorem dX11_save_47 : decode cX11_save 47 = .ok (.aload_n 0, 1) := dq_X11_save_25.2.2.2.2.2.2.2.2.2.2.2.2.1
theorem dX11_save_48 : decode cX11_save 48 = .ok (.iconst 0, 1) := dq_X11_save_25.2.2.2.2.2.2.2.2.2.2.2.2.2.1
theorem dX11_save_49 : decode cX11_save 49 = .ok (.putfield 138, 3) := dq_X11_save_25.2.2.2.2.2.2.2.2.2.2.2.2.2.2.1
theorem dX11_save_52 : decode cX11_save 52 = .ok (.iconst 0, 1) := dq_X11_save_25.2.2.2.2.2.2.2.2.2.2.2.2.2.2.2
theorem dq_X11_save_53 : (decode cX11_save 53 = .ok (.istore_n 3, 1)) ∧ (decode cX11_save 54 = .ok (.iload_n 3, 1)) ∧ (decode cX11_save 55 = .ok (.bipush 20, 2)) ∧ (decode cX11_save 57 = .ok (.if_icmp .ge 14, 3)) ∧ (decode cX11_save 60 = .ok (.aload_n 0, 1)) ∧ (decode cX11_save 61 = .ok (.iconst 0, 1)) ∧ (decode cX11_save 62 = .ok (.invokevirtual 179, 3)) ∧ (decode cX11_save 65 = .ok (.iinc 3 1, 3)) ∧ (decode cX11_save 68 = .ok (.goto (-14), 3)) ∧ (decode cX11_save 71 = .ok (.iconst 1, 1)) ∧ (decode cX11_save 72 = .ok (.istore_n 3, 1)) ∧ (decode cX11_save 73 = .ok (.iload_n 3, 1)) ∧ (decode cX11_save 74 = .ok (.bipush 32, 2)) ∧ (decode cX11_save 76 = .ok (.if_icmp .ge 83, 3)) ∧ (decode cX11_save 79 = .ok (.iconst 0, 1)) ∧ (decode cX11_save 80 = .ok (.istore 4, 2)) := by decide +kernel
theorem dX11_save_53 : decode cX11_save 53 = .ok (.istore_n 3, 1) := dq_X11_save_53.1
theorem dX11_save_54 : decode cX11_save 54 = .ok (.iload_n 3, 1) := dq_X11_save_53.2.1
theorem dX11_save_55 : decode cX11_save 55 = .ok (.bipush 20, 2) := dq_X11_save_53.2.2.1
theorem dX11_save_57 : decode cX11_save 57 = .ok (.if_icmp .ge 14, 3) := dq_X11_save_53.2.2.2.1
theorem dX11_save_60 : decode cX11_save 60 = .ok (.aload_n 0, 1) := dq_X11_save_53.2.2.2.2.1
theorem dX11_save_61 : decode cX11_save 61 = .ok (.iconst 0, 1) := dq_X11_save_53.2.2.2.2.2.1
theorem dX11_save_62 : decode cX11_save 62 = .ok (.invokevirtual 179, 3) := dq_X11_save_53.2.2.2.2.2.2.1
theorem dX11_save_65 : decode cX11_save 65 = .ok (.iinc 3 1, 3) := dq_X11_save_53.2.2.2.2.2.2.2.1
theorem dX11_save_68 : decode cX11_save 68 = .ok (.goto (-14), 3) := dq_X11_save_53.2.2.2.2.2.2.2.2.1
theorem dX11_save_71 : decode cX11_save 71 = .ok (.iconst 1, 1) := dq_X11_save_53.2.2.2.2.2.2.2.2.2.1
theorem dX11_save_72 : decode cX11_save 72 = .ok (.istore_n 3, 1) := dq_X11_save_53.2.2.2.2.2.2.2.2.2.2.1
theorem dX11_save_73 : decode cX11_save 73 = .ok (.iload_n 3, 1) := dq_X11_save_53.2.2.2.2.2.2.2.2.2.2.2.1
theorem dX11_save_74 : decode cX11_save 74 = .ok (.bipush 32, 2) := dq_X11_save_53.2.2.2.2.2.2.2.2.2.2.2.2.1
theorem dX11_save_76 : decode cX11_save 76 = .ok (.if_icmp .ge 83, 3) := dq_X11_save_53.2.2.2.2.2.2.2.2.2.2.2.2.2.1
theorem dX11_save_79 : decode cX11_save 79 = .ok (.iconst 0, 1) := dq_X11_save_53.2.2.2.2.2.2.2.2.2.2.2.2.2.2.1
theorem dX11_save_80 : decode cX11_save 80 = .ok (.istore 4, 2) := dq_X11_save_53.2.2.2.2.2.2.2.2.2.2.2.2.2.2.2
theorem dq_X11_save_82 : (decode cX11_save 82 = .ok (.iload 4, 2)) ∧ (decode cX11_save 84 = .ok (.bipush 22, 2)) ∧ (decode cX11_save 86 = .ok (.if_icmp .ge 14, 3)) ∧ (decode cX11_save 89 = .ok (.aload_n 0, 1)) ∧ (decode cX11_save 90 = .ok (.iconst 0, 1)) ∧ (decode cX11_save 91 = .ok (.invokevirtual 179, 3)) ∧ (decode cX11_save 94 = .ok (.iinc 4 1, 3)) ∧ (decode cX11_save 97 = .ok (.goto (-15), 3)) ∧ (decode cX11_save 100 = .ok (.aload_n 0, 1)) ∧ (decode cX11_save 101 = .ok (.aload_n 0, 1)) ∧ (decode cX11_save 102 = .ok (.getfield 17, 3)) ∧ (decode cX11_save 105 = .ok (.iload_n 3, 1)) ∧ (decode cX11_save 106 = .ok (.iaload, 1)) ∧ (decode cX11_save 107 = .ok (.invokevirtual 185, 3)) ∧ (decode cX11_save 110 = .ok (.aload_n 0, 1)) ∧ (decode cX11_save 111 = .ok (.aload_n 0, 1)) := by decide +kernel
theorem dX11_save_82 : decode cX11_save 82 = .ok (.iload 4, 2) := dq_X11_save_82.1
theorem dX11_save_84 : decode cX11_save 84 = .ok (.bipush 22, 2) := dq_X11_save_82.2.1
theorem dX11_save_86 : decode cX11_save 86 = .ok (.if_icmp .ge 14, 3) := dq_X11_save_82.2.2.1
theorem dX11_save_89 : decode cX11_save 89 = .ok (.aload_n 0, 1) := dq_X11_save_82.2.2.2.1
theorem dX11_save_90 : decode cX11_save 90 = .ok (.iconst 0, 1) := dq_X11_save_82.2.2.2.2.1
theorem dX11_save_91 : decode cX11_save 91 = .ok (.invokevirtual 179, 3) := dq_X11_save_82.2.2.2.2.2.1
theorem dX11_save_94 : decode cX11_save 94 = .ok (.iinc 4 1, 3) := dq_X11_save_82.2.2.2.2.2.2.1
theorem dX11_save_97 : decode cX11_save 97 = .ok (.goto (-15), 3) := dq_X11_save_82.2.2.2.2.2.2.2.1
theorem dX11_save_100 : decode cX11_save 100 = .ok (.aload_n 0, 1) := dq_X11_save_82.2.2.2.2.2.2.2.2.1
theorem dX11_save_101 : decode cX11_save 101 = .ok (.aload_n 0, 1) := dq_X11_save_82.2.2.2.2.2.2.2.2.2.1
theorem dX11_save_102 : decode cX11_save 102 = .ok (.getfield 17, 3) := dq_X11_save_82.2.2.2.2.2.2.2.2.2.2.1
theorem dX11_save_105 : decode cX11_save 105 = .ok (.iload_n 3, 1) := dq_X11_save_82.2.2.2.2.2.2.2.2.2.2.2.1
theorem dX11_save_106 : decode cX11_save 106 = .ok (.iaload, 1) := dq_X11_save_82.2.2.2.2.2.2.2.2.2.2.2.2.1
theorem dX11_save_107 : decode cX11_save 107 = .ok (.invokevirtual 185, 3) := dq_X11_save_82.2.2.2.2.2.2.2.2.2.2.2.2.2.1
theorem dX11_save_110 : decode cX11_save 110 = .ok (.aload_n 0, 1) := dq_X11_save_82.2.2.2.2.2.2.2.2.2.2.2.2.2.2.1
theorem dX11_save_111 : decode cX11_save 111 = .ok (.aload_n 0, 1) := dq_X11_save_82.2.2.2.2.2.2.2.2.2.2.2.2.2.2.2
theorem dq_X11_save_112 : (decode cX11_save 112 = .ok (.getfield 21, 3)) ∧ (decode cX11_save 115 = .ok (.iload_n 3, 1)) ∧ (decode cX11_save 116 = .ok (.iaload, 1)) ∧ (decode cX11_save 117 = .ok (.bipush 15, 2)) ∧ (decode cX11_save 119 = .ok (.iand, 1)) ∧ (decode cX11_save 120 = .ok (.invokevirtual 179, 3)) ∧ (decode cX11_save 123 = .ok (.aload_n 0, 1)) ∧ (decode cX11_save 124 = .ok (.aload_n 0, 1)) ∧ (decode cX11_save 125 = .ok (.getfield 24, 3)) ∧ (decode cX11_save 128 = .ok (.iload_n 3, 1)) ∧ (decode cX11_save 129 = .ok (.iaload, 1)) ∧ (decode cX11_save 130 = .ok (.invokevirtual 179, 3)) ∧ (decode cX11_save 133 = .ok (.aload_n 0, 1)) ∧ (decode cX11_save 134 = .ok (.aload_n 0, 1)) ∧ (decode cX11_save 135 = .ok (.getfield 27, 3)) ∧ (decode cX11_save 138 = .ok (.iload_n 3, 1)) := by decide +kernel
theorem dX11_save_112 : decode cX11_save 112 = .ok (.getfield 21, 3) := dq_X11_save_112.1
theorem dX11_save_115 : decode cX11_save 115 = .ok (.iload_n 3, 1) := dq_X11_save_112.2.1
theorem dX11_save_116 : decode cX11_save 116 = .ok (.iaload, 1) := dq_X11_save_112.2.2.1
theorem dX11_save_117 : decode cX11_save 117 = .ok (.bipush 15, 2) := dq_X11_save_112.2.2.2.1
theorem dX11_save_119 : decode cX11_save 119 = .ok (.iand, 1) := dq_X11_save_112.2.2.2.2.1
theorem dX11_save_120 : decode cX11_save 120 = .ok (.invokevirtual 179, 3) := dq_X11_save_112.2.2.2.2.2.1
theorem dX11_save_123 : decode cX11_save 123 = .ok (.aload_n 0, 1) := dq_X11_save_112.2.2.2.2.2.2.1
theorem dX11_save_124 : decode cX11_save 124 = .ok (.aload_n 0, 1) := dq_X11_save_112.2.2.2.2.2.2.2.1
theorem dX11_save_125 : decode cX11_save 125 = .ok (.getfield 24, 3) := dq_X11_save_112.2.2.2.2.2.2.2.2.1
theorem dX11_save_128 : decode cX11_save 128 = .ok (.iload_n 3, 1) := dq_X11_save_112.2.2.2.2.2.2.2.2.2.1
theorem dX11_save_129 : decode cX11_save 129 = .ok (.iaload, 1) := dq_X11_save_112.2.2.2.2.2.2.2.2.2.2.1
theorem dX11_save_130 : decode cX11_save 130 = .ok (.invokevirtual 179, 3) := dq_X11_save_112.2.2.2.2.2.2.2.2.2.2.2.1
theorem dX11_save_133 : decode cX11_save 133 = .ok (.aload_n 0, 1) := dq_X11_save_112.2.2.2.2.2.2.2.2.2.2.2.2.1
theorem dX11_save_134 : decode cX11_save 134 = .ok (.aload_n 0, 1) := dq_X11_save_112.2.2.2.2.2.2.2.2.2.2.2.2.2.1
theorem dX11_save_135 : decode cX11_save 135 = .ok (.getfield 27, 3) := dq_X11_save_112.2.2.2.2.2.2.2.2.2.2.2.2.2.2.1
theorem dX11_save_138 : decode cX11_save 138 = .ok (.iload_n 3, 1) := dq_X11_save_112.2.2.2.2.2.2.2.2.2.2.2.2.2.2.2
theorem dq_X11_save_139 : (decode cX11_save 139 = .ok (.iaload, 1)) ∧ (decode cX11_save 140 = .ok (.invokevirtual 185, 3)) ∧ (decode cX11_save 143 = .ok (.aload_n 0, 1)) ∧ (decode cX11_save 144 = .ok (.aload_n 0, 1)) ∧ (decode cX11_save 145 = .ok (.getfield 30, 3)) ∧ (decode cX11_save 148 = .ok (.iload_n 3, 1)) ∧ (decode cX11_save 149 = .ok (.iaload, 1)) ∧ (decode cX11_save 150 = .ok (.invokevirtual 185, 3)) ∧ (decode cX11_save 153 = .ok (.iinc 3 1, 3)) ∧ (decode cX11_save 156 = .ok (.goto (-83), 3)) ∧ (decode cX11_save 159 = .ok (.aload_n 0, 1)) ∧ (decode cX11_save 160 = .ok (.aload_n 0, 1)) ∧ (decode cX11_save 161 = .ok (.getfield 43, 3)) ∧ (decode cX11_save 164 = .ok (.invokevirtual 179, 3)) ∧ (decode cX11_save 167 = .ok (.aload_n 0, 1)) ∧ (decode cX11_save 168 = .ok (.aload_n 0, 1)) := by decide +kernel
theorem dX11_save_139 : decode cX11_save 139 = .ok (.iaload, 1) := dq_X11_save_139.1
theorem dX11_save_140 : decode cX11_save 140 = .ok (.invokevirtual 185, 3) := dq_X11_save_139.2.1
theorem dX11_save_143 : decode cX11_save 143 = .ok (.aload_n 0, 1) := dq_X11_save_139.2.2.1
theorem dX11_save_144 : decode cX11_save 144 = .ok (.aload_n 0, 1) := dq_X11_save_139.2.2.2.1
theorem dX11_save_145 : decode cX11_save 145 = .ok (.getfield 30, 3) := dq_X11_save_139.2.2.2.2.1
theorem dX11_save_148 : decode cX11_save 148 = .ok (.iload_n 3, 1) := dq_X11_save_139.2.2.2.2.2.1
theorem dX11_save_149 : decode cX11_save 149 = .ok (.iaload, 1) := dq_X11_save_139.2.2.2.2.2.2.1
theorem dX11_save_150 : decode cX11_save 150 = .ok (.invokevirtual 185, 3) := dq_X11_save_139.2.2.2.2.2.2.2.1
theorem dX11_save_153 : decode cX11_save 153 = .ok (.iinc 3 1, 3) := dq_X11_save_139.2.2.2.2.2.2.2.2.1
theorem dX11_save_156 : decode cX11_save 156 = .ok (.goto (-83), 3) := dq_X11_save_139.2.2.2.2.2.2.2.2.2.1
theorem dX11_save_159 : decode cX11_save 159 = .ok (.aload_n 0, 1) := dq_X11_save_139.2.2.2.2.2.2.2.2.2.2.1
theorem dX11_save_160 : decode cX11_save 160 = .ok (.aload_n 0, 1) := dq_X11_save_139.2.2.2.2.2.2.2.2.2.2.2.1
theorem dX11_save_161 : decode cX11_save 161 = .ok (.getfield 43, 3) := dq_X11_save_139.2.2.2.2.2.2.2.2.2.2.2.2.1
theorem dX11_save_164 : decode cX11_save 164 = .ok (.invokevirtual 179, 3) := dq_X11_save_139.2.2.2.2.2.2.2.2.2.2.2.2.2.1
theorem dX11_save_167 : decode cX11_save 167 = .ok (.aload_n 0, 1) := dq_X11_save_139.2.2.2.2.2.2.2.2.2.2.2.2.2.2.1
theorem dX11_save_168 : decode cX11_save 168 = .ok (.aload_n 0, 1) := dq_X11_save_139.2.2.2.2.2.2.2.2.2.2.2.2.2.2.2
theorem dq_X11_save_169 : (decode cX11_save 169 = .ok (.getfield 172, 3)) ∧ (decode cX11_save 172 = .ok (.invokevirtual 179, 3)) ∧ (decode cX11_save 175 = .ok (.iconst 0, 1)) ∧ (decode cX11_save 176 = .ok (.istore_n 3, 1)) ∧ (decode cX11_save 177 = .ok (.iload_n 3, 1)) ∧ (decode cX11_save 178 = .ok (.sipush 128, 3)) ∧ (decode cX11_save 181 = .ok (.if_icmp .ge 31, 3)) ∧ (decode cX11_save 184 = .ok (.aload_n 0, 1)) ∧ (decode cX11_save 185 = .ok (.iload_n 3, 1)) ∧ (decode cX11_save 186 = .ok (.aload_n 0, 1)) ∧ (decode cX11_save 187 = .ok (.getfield 43, 3)) ∧ (decode cX11_save 190 = .ok (.if_icmp .ge 12, 3)) ∧ (decode cX11_save 193 = .ok (.aload_n 0, 1)) ∧ (decode cX11_save 194 = .ok (.getfield 40, 3)) ∧ (decode cX11_save 197 = .ok (.iload_n 3, 1)) ∧ (decode cX11_save 198 = .ok (.iaload, 1)) := by decide +kernel
theorem dX11_save_169 : decode cX11_save 169 = .ok (.getfield 172, 3) := dq_X11_save_169.1
theorem dX11_save_172 : decode cX11_save 172 = .ok (.invokevirtual 179, 3) := dq_X11_save_169.2.1
theorem dX11_save_175 : decode cX11_save 175 = .ok (.iconst 0, 1) := dq_X11_save_169.2.2.1
theorem dX11_save_176 : decode cX11_save 176 = .ok (.istore_n 3, 1) := dq_X11_save_169.2.2.2.1
theorem dX11_save_177 : decode cX11_save 177 = .ok (.iload_n 3, 1) := dq_X11_save_169.2.2.2.2.1
theorem dX11_save_178 : decode cX11_save 178 = .ok (.sipush 128, 3) := dq_X11_save_169.2.2.2.2.2.1
theorem dX11_save_181 : decode cX11_save 181 = .ok (.if_icmp .ge 31, 3) := dq_X11_save_169.2.2.2.2.2.2.1
theorem dX11_save_184 : decode cX11_save 184 = .ok (.aload_n 0, 1) := dq_X11_save_169.2.2.2.2.2.2.2.1
theorem dX11_save_185 : decode cX11_save 185 = .ok (.iload_n 3, 1) := dq_X11_save_169.2.2.2.2.2.2.2.2.1
theorem dX11_save_186 : decode cX11_save 186 = .ok (.aload_n 0, 1) := dq_X11_save_169.2.2.2.2.2.2.2.2.2.1
theorem dX11_save_187 : decode cX11_save 187 = .ok (.getfield 43, 3) := dq_X11_save_169.2.2.2.2.2.2.2.2.2.2.1
theorem dX11_save_190 : decode cX11_save 190 = .ok (.if_icmp .ge 12, 3) := dq_X11_save_169.2.2.2.2.2.2.2.2.2.2.2.1
theorem dX11_save_193 : decode cX11_save 193 = .ok (.aload_n 0, 1) := dq_X11_save_169.2.2.2.2.2.2.2.2.2.2.2.2.1
theorem dX11_save_194 : decode cX11_save 194 = .ok (.getfield 40, 3) := dq_X11_save_169.2.2.2.2.2.2.2.2.2.2.2.2.2.1
theorem dX11_save_197 : decode cX11_save 197 = .ok (.iload_n 3, 1) := dq_X11_save_169.2.2.2.2.2.2.2.2.2.2.2.2.2.2.1
theorem dX11_save_198 : decode cX11_save 198 = .ok (.iaload, 1) := dq_X11_save_169.2.2.2.2.2.2.2.2.2.2.2.2.2.2.2
theorem dq_X11_save_199 : (decode cX11_save 199 = .ok (.goto 4, 3)) ∧ (decode cX11_save 202 = .ok (.iconst 0, 1)) ∧ (decode cX11_save 203 = .ok (.invokevirtual 179, 3)) ∧ (decode cX11_save 206 = .ok (.iinc 3 1, 3)) ∧ (decode cX11_save 209 = .ok (.goto (-32), 3)) ∧ (decode cX11_save 212 = .ok (.iconst 0, 1)) ∧ (decode cX11_save 213 = .ok (.istore_n 3, 1)) ∧ (decode cX11_save 214 = .ok (.iload_n 3, 1)) ∧ (decode cX11_save 215 = .ok (.iconst 4, 1)) ∧ (decode cX11_save 216 = .ok (.if_icmp .ge 18, 3)) ∧ (decode cX11_save 219 = .ok (.aload_n 0, 1)) ∧ (decode cX11_save 220 = .ok (.getstatic 162, 3)) ∧ (decode cX11_save 223 = .ok (.iload_n 3, 1)) ∧ (decode cX11_save 224 = .ok (.iaload, 1)) ∧ (decode cX11_save 225 = .ok (.invokevirtual 179, 3)) ∧ (decode cX11_save 228 = .ok (.iinc 3 1, 3)) := by decide +kernel
theorem dX11_save_199 : decode cX11_save 199 = .ok (.goto 4, 3) := dq_X11_save_199.1
theorem dX11_save_202 : decode cX11_save 202 = .ok (.iconst 0, 1) := dq_X11_save_199.2.1
theorem dX11_save_203 : decode cX11_save 203 = .ok (.invokevirtual 179, 3) := dq_X11_save_199.2.2.1
theorem dX11_save_206 : decode cX11_save 206 = .ok (.iinc 3 1, 3) := dq_X11_save_199.2.2.2.1
theorem dX11_save_209 : decode cX11_save 209 = .ok (.goto (-32), 3) := dq_X11_save_199.2.2.2.2.1
theorem dX11_save_212 : decode cX11_save 212 = .ok (.iconst 0, 1) := dq_X11_save_199.2.2.2.2.2.1
theorem dX11_save_213 : decode cX11_save 213 = .ok (.istore_n 3, 1) := dq_X11_save_199.2.2.2.2.2.2.1
theorem dX11_save_214 : decode cX11_save 214 = .ok (.iload_n 3, 1) := dq_X11_save_199.2.2.2.2.2.2.2.1
theorem dX11_save_215 : decode cX11_save 215 = .ok (.iconst 4, 1) := dq_X11_save_199.2.2.2.2.2.2.2.2.1
theorem dX11_save_216 : decode cX11_save 216 = .ok (.if_icmp .ge 18, 3) := dq_X11_save_199.2.2.2.2.2.2.2.2.2.1
theorem dX11_save_219 : decode cX11_save 219 = .ok (.aload_n 0, 1) := dq_X11_save_199.2.2.2.2.2.2.2.2.2.2.1
theorem dX11_save_220 : decode cX11_save 220 = .ok (.getstatic 162, 3) := dq_X11_save_199.2.2.2.2.2.2.2.2.2.2.2.1
theorem dX11_save_223 : decode cX11_save 223 = .ok (.iload_n 3, 1) := dq_X11_save_199.2.2.2.2.2.2.2.2.2.2.2.2.1
theorem dX11_save_224 : decode cX11_save 224 = .ok (.iaload, 1) := dq_X11_save_199.2.2.2.2.2.2.2.2.2.2.2.2.2.1
theorem dX11_save_225 : decode cX11_save 225 = .ok (.invokevirtual 179, 3) := dq_X11_save_199.2.2.2.2.2.2.2.2.2.2.2.2.2.2.1
theorem dX11_save_228 : decode cX11_save 228 = .ok (.iinc 3 1, 3) := dq_X11_save_199.2.2.2.2.2.2.2.2.2.2.2.2.2.2.2
theorem dq_X11_save_231 : (decode cX11_save 231 = .ok (.goto (-17), 3)) ∧ (decode cX11_save 234 = .ok (.iconst 0, 1)) ∧ (decode cX11_save 235 = .ok (.istore_n 3, 1)) ∧ (decode cX11_save 236 = .ok (.iload_n 3, 1)) ∧ (decode cX11_save 237 = .ok (.sipush 256, 3)) ∧ (decode cX11_save 240 = .ok (.iload_n 1, 1)) ∧ (decode cX11_save 241 = .ok (.imul, 1)) ∧ (decode cX11_save 242 = .ok (.if_icmp .ge 81, 3)) ∧ (decode cX11_save 245 = .ok (.aload_n 0, 1)) ∧ (decode cX11_save 246 = .ok (.getfield 37, 3)) ∧ (decode cX11_save 249 = .ok (.iload_n 3, 1)) ∧ (decode cX11_save 250 = .ok (.iaload, 1)) ∧ (decode cX11_save 251 = .ok (.istore 4, 2)) ∧ (decode cX11_save 253 = .ok (.iload 4, 2)) ∧ (decode cX11_save 255 = .ok (.bipush 12, 2)) ∧ (decode cX11_save 257 = .ok (.ishr, 1)) := by decide +kernel
theorem dX11_save_231 : decode cX11_save 231 = .ok (.goto (-17), 3) := dq_X11_save_231.1
theorem dX11_save_234 : decode cX11_save 234 = .ok (.iconst 0, 1) := dq_X11_save_231.2.1
theorem dX11_save_235 : decode cX11_save 235 = .ok (.istore_n 3, 1) := dq_X11_save_231.2.2.1
theorem dX11_save_236 : decode cX11_save 236 = .ok (.iload_n 3, 1) := dq_X11_save_231.2.2.2.1
theorem dX11_save_237 : decode cX11_save 237 = .ok (.sipush 256, 3) := dq_X11_save_231.2.2.2.2.1
theorem dX11_save_240 : decode cX11_save 240 = .ok (.iload_n 1, 1) := dq_X11_save_231.2.2.2.2.2.1
theorem dX11_save_241 : decode cX11_save 241 = .ok (.imul, 1) := dq_X11_save_231.2.2.2.2.2.2.1
theorem dX11_save_242 : decode cX11_save 242 = .ok (.if_icmp .ge 81, 3) := dq_X11_save_231.2.2.2.2.2.2.2.1
theorem dX11_save_245 : decode cX11_save 245 = .ok (.aload_n 0, 1) := dq_X11_save_231.2.2.2.2.2.2.2.2.1
theorem dX11_save_246 : decode cX11_save 246 = .ok (.getfield 37, 3) := dq_X11_save_231.2.2.2.2.2.2.2.2.2.1
theorem dX11_save_249 : decode cX11_save 249 = .ok (.iload_n 3, 1) := dq_X11_save_231.2.2.2.2.2.2.2.2.2.2.1
theorem dX11_save_250 : decode cX11_save 250 = .ok (.iaload, 1) := dq_X11_save_231.2.2.2.2.2.2.2.2.2.2.2.1
theorem dX11_save_251 : decode cX11_save 251 = .ok (.istore 4, 2) := dq_X11_save_231.2.2.2.2.2.2.2.2.2.2.2.2.1
theorem dX11_save_253 : decode cX11_save 253 = .ok (.iload 4, 2) := dq_X11_save_231.2.2.2.2.2.2.2.2.2.2.2.2.2.1
theorem dX11_save_255 : decode cX11_save 255 = .ok (.bipush 12, 2) := dq_X11_save_231.2.2.2.2.2.2.2.2.2.2.2.2.2.2.1
theorem dX11_save_257 : decode cX11_save 257 = .ok (.ishr, 1) := dq_X11_save_231.2.2.2.2.2.2.2.2.2.2.2.2.2.2.2
theorem dq_X11_save_258 : (decode cX11_save 258 = .ok (.bipush 31, 2)) ∧ (decode cX11_save 260 = .ok (.iand, 1)) ∧ (decode cX11_save 261 = .ok (.istore 5, 2)) ∧ (decode cX11_save 263 = .ok (.iload 4, 2)) ∧ (decode cX11_save 265 = .ok (.bipush 17, 2)) ∧ (decode cX11_save 267 = .ok (.ishr, 1)) ∧ (decode cX11_save 268 = .ok (.istore 6, 2)) ∧ (decode cX11_save 270 = .ok (.aload_n 0, 1)) ∧ (decode cX11_save 271 = .ok (.iload 5, 2)) ∧ (decode cX11_save 273 = .ok (.bipush 16, 2)) ∧ (decode cX11_save 275 = .ok (.iand, 1)) ∧ (decode cX11_save 276 = .ok (.iload 6, 2)) ∧ (decode cX11_save 278 = .ok (.bipush 8, 2)) ∧ (decode cX11_save 280 = .ok (.ishr, 1)) ∧ (decode cX11_save 281 = .ok (.ior, 1)) ∧ (decode cX11_save 282 = .ok (.invokevirtual 179, 3)) := by decide +kernel
theorem dX11_save_258 : decode cX11_save 258 = .ok (.bipush 31, 2) := dq_X11_save_258.1
theorem dX11_save_260 : decode cX11_save 260 = .ok (.iand, 1) := dq_X11_save_258.2.1
theorem dX11_save_261 : decode cX11_save 261 = .ok (.istore 5, 2) := dq_X11_save_258.2.2.1
theorem dX11_save_263 : decode cX11_save 263 = .ok (.iload 4, 2) := dq_X11_save_258.2.2.2.1
theorem dX11_save_265 : decode cX11_save 265 = .ok (.bipush 17, 2) := dq_X11_save_258.2.2.2.2.1
theorem dX11_save_267 : decode cX11_save 267 = .ok (.ishr, 1) := dq_X11_save_258.2.2.2.2.2.1
theorem dX11_save_268 : decode cX11_save 268 = .ok (.istore 6, 2) := dq_X11_save_258.2.2.2.2.2.2.1
theorem dX11_save_270 : decode cX11_save 270 = .ok (.aload_n 0, 1) := dq_X11_save_258.2.2.2.2.2.2.2.1
theorem dX11_save_271 : decode cX11_save 271 = .ok (.iload 5, 2) := dq_X11_save_258.2.2.2.2.2.2.2.2.1
theorem dX11_save_273 : decode cX11_save 273 = .ok (.bipush 16, 2) := dq_X11_save_258.2.2.2.2.2.2.2.2.2.1
theorem dX11_save_275 : decode cX11_save 275 = .ok (.iand, 1) := dq_X11_save_258.2.2.2.2.2.2.2.2.2.2.1
theorem dX11_save_276 : decode cX11_save 276 = .ok (.iload 6, 2) := dq_X11_save_258.2.2.2.2.2.2.2.2.2.2.2.1
theorem dX11_save_278 : decode cX11_save 278 = .ok (.bipush 8, 2) := dq_X11_save_258.2.2.2.2.2.2.2.2.2.2.2.2.1
theorem dX11_save_280 : decode cX11_save 280 = .ok (.ishr, 1) := dq_X11_save_258.2.2.2.2.2.2.2.2.2.2.2.2.2.1
theorem dX11_save_281 : decode cX11_save 281 = .ok (.ior, 1) := dq_X11_save_258.2.2.2.2.2.2.2.2.2.2.2.2.2.2.1
theorem dX11_save_282 : decode cX11_save 282 = .ok (.invokevirtual 179, 3) := dq_X11_save_258.2.2.2.2.2.2.2.2.2.2.2.2.2.2.2
theorem dq_X11_save_285 : (decode cX11_save 285 = .ok (.aload_n 0, 1)) ∧ (decode cX11_save 286 = .ok (.iload 6, 2)) ∧ (decode cX11_save 288 = .ok (.invokevirtual 179, 3)) ∧ (decode cX11_save 291 = .ok (.aload_n 0, 1)) ∧ (decode cX11_save 292 = .ok (.iload 5, 2)) ∧ (decode cX11_save 294 = .ok (.bipush 15, 2)) ∧ (decode cX11_save 296 = .ok (.iand, 1)) ∧ (decode cX11_save 297 = .ok (.iconst 4, 1)) ∧ (decode cX11_save 298 = .ok (.ishl, 1)) ∧ (decode cX11_save 299 = .ok (.iload 4, 2)) ∧ (decode cX11_save 301 = .ok (.bipush 8, 2)) ∧ (decode cX11_save 303 = .ok (.ishr, 1)) ∧ (decode cX11_save 304 = .ok (.bipush 15, 2)) ∧ (decode cX11_save 306 = .ok (.iand, 1)) ∧ (decode cX11_save 307 = .ok (.ior, 1)) ∧ (decode cX11_save 308 = .ok (.invokevirtual 179, 3)) := by decide +kernel
theorem dX11_save_285 : decode cX11_save 285 = .ok (.aload_n 0, 1) := dq_X11_save_285.1
theorem dX11_save_286 : decode cX11_save 286 = .ok (.iload 6, 2) := dq_X11_save_285.2.1
theorem dX11_save_288 : decode cX11_save 288 = .ok (.invokevirtual 179, 3) := dq_X11_save_285.2.2.1
theorem dX11_save_291 : decode cX11_save 291 = .ok (.aload_n 0, 1) := dq_X11_save_285.2.2.2.1
theorem dX11_save_292 : decode cX11_save 292 = .ok (.iload 5, 2) := dq_X11_save_285.2.2.2.2.1
theorem dX11_save_294 : decode cX11_save 294 = .ok (.bipush 15, 2) := dq_X11_save_285.2.2.2.2.2.1
theorem dX11_save_296 : decode cX11_save 296 = .ok (.iand, 1) := dq_X11_save_285.2.2.2.2.2.2.1
theorem dX11_save_297 : decode cX11_save 297 = .ok (.iconst 4, 1) := dq_X11_save_285.2.2.2.2.2.2.2.1
theorem dX11_save_298 : decode cX11_save 298 = .ok (.ishl, 1) := dq_X11_save_285.2.2.2.2.2.2.2.2.1
theorem dX11_save_299 : decode cX11_save 299 = .ok (.iload 4, 2) := dq_X11_save_285.2.2.2.2.2.2.2.2.2.1
theorem dX11_save_301 : decode cX11_save 301 = .ok (.bipush 8, 2) := dq_X11_save_285.2.2.2.2.2.2.2.2.2.2.1
theorem dX11_save_303 : decode cX11_save 303 = .ok (.ishr, 1) := dq_X11_save_285.2.2.2.2.2.2.2.2.2.2.2.1
theorem dX11_save_304 : decode cX11_save 304 = .ok (.bipush 15, 2) := dq_X11_save_285.2.2.2.2.2.2.2.2.2.2.2.2.1
theorem dX11_save_306 : decode cX11_save 306 = .ok (.iand, 1) := dq_X11_save_285.2.2.2.2.2.2.2.2.2.2.2.2.2.1
theorem dX11_save_307 : decode cX11_save 307 = .ok (.ior, 1) := dq_X11_save_285.2.2.2.2.2.2.2.2.2.2.2.2.2.2.1
theorem dX11_save_308 : decode cX11_save 308 = .ok (.invokevirtual 179, 3) := dq_X11_save_285.2.2.2.2.2.2.2.2.2.2.2.2.2.2.2
theorem dq_X11_save_311 : (decode cX11_save 311 = .ok (.aload_n 0, 1)) ∧ (decode cX11_save 312 = .ok (.iload 4, 2)) ∧ (decode cX11_save 314 = .ok (.invokevirtual 179, 3)) ∧ (decode cX11_save 317 = .ok (.iinc 3 1, 3)) ∧ (decode cX11_save 320 = .ok (.goto (-84), 3)) ∧ (decode cX11_save 323 = .ok (.iconst 1, 1)) ∧ (decode cX11_save 324 = .ok (.istore_n 3, 1)) ∧ (decode cX11_save 325 = .ok (.iload_n 3, 1)) ∧ (decode cX11_save 326 = .ok (.bipush 32, 2)) ∧ (decode cX11_save 328 = .ok (.if_icmp .ge 46, 3)) ∧ (decode cX11_save 331 = .ok (.iconst 0, 1)) ∧ (decode cX11_save 332 = .ok (.istore 4, 2)) ∧ (decode cX11_save 334 = .ok (.iload 4, 2)) ∧ (decode cX11_save 336 = .ok (.aload_n 0, 1)) ∧ (decode cX11_save 337 = .ok (.getfield 17, 3)) ∧ (decode cX11_save 340 = .ok (.iload_n 3, 1)) := by decide +kernel
theorem dX11_save_311 : decode cX11_save 311 = .ok (.aload_n 0, 1) := dq_X11_save_311.1
theorem dX11_save_312 : decode cX11_save 312 = .ok (.iload 4, 2) := dq_X11_save_311.2.1
theorem dX11_save_314 : decode cX11_save 314 = .ok (.invokevirtual 179, 3) := dq_X11_save_311.2.2.1
theorem dX11_save_317 : decode cX11_save 317 = .ok (.iinc 3 1, 3) := dq_X11_save_311.2.2.2.1
theorem dX11_save_320 : decode cX11_save 320 = .ok (.goto (-84), 3) := dq_X11_save_311.2.2.2.2.1
theorem dX11_save_323 : decode cX11_save 323 = .ok (.iconst 1, 1) := dq_X11_save_311.2.2.2.2.2.1
theorem dX11_save_324 : decode cX11_save 324 = .ok (.istore_n 3, 1) := dq_X11_save_311.2.2.2.2.2.2.1
theorem dX11_save_325 : decode cX11_save 325 = .ok (.iload_n 3, 1) := dq_X11_save_311.2.2.2.2.2.2.2.1
theorem dX11_save_326 : decode cX11_save 326 = .ok (.bipush 32, 2) := dq_X11_save_311.2.2.2.2.2.2.2.2.1
theorem dX11_save_328 : decode cX11_save 328 = .ok (.if_icmp .ge 46, 3) := dq_X11_save_311.2.2.2.2.2.2.2.2.2.1
theorem dX11_save_331 : decode cX11_save 331 = .ok (.iconst 0, 1) := dq_X11_save_311.2.2.2.2.2.2.2.2.2.2.1
theorem dX11_save_332 : decode cX11_save 332 = .ok (.istore 4, 2) := dq_X11_save_311.2.2.2.2.2.2.2.2.2.2.2.1
theorem dX11_save_334 : decode cX11_save 334 = .ok (.iload 4, 2) := dq_X11_save_311.2.2.2.2.2.2.2.2.2.2.2.2.1
theorem dX11_save_336 : decode cX11_save 336 = .ok (.aload_n 0, 1) := dq_X11_save_311.2.2.2.2.2.2.2.2.2.2.2.2.2.1
theorem dX11_save_337 : decode cX11_save 337 = .ok (.getfield 17, 3) := dq_X11_save_311.2.2.2.2.2.2.2.2.2.2.2.2.2.2.1
theorem dX11_save_340 : decode cX11_save 340 = .ok (.iload_n 3, 1) := dq_X11_save_311.2.2.2.2.2.2.2.2.2.2.2.2.2.2.2
theorem dq_X11_save_341 : (decode cX11_save 341 = .ok (.iaload, 1)) ∧ (decode cX11_save 342 = .ok (.if_icmp .ge 26, 3)) ∧ (decode cX11_save 345 = .ok (.aload_n 0, 1)) ∧ (decode cX11_save 346 = .ok (.aload_n 0, 1)) ∧ (decode cX11_save 347 = .ok (.getfield 34, 3)) ∧ (decode cX11_save 350 = .ok (.sipush 2000, 3)) ∧ (decode cX11_save 353 = .ok (.iload_n 3, 1)) ∧ (decode cX11_save 354 = .ok (.imul, 1)) ∧ (decode cX11_save 355 = .ok (.iload 4, 2)) ∧ (decode cX11_save 357 = .ok (.iadd, 1)) ∧ (decode cX11_save 358 = .ok (.baload, 1)) ∧ (decode cX11_save 359 = .ok (.invokevirtual 179, 3)) ∧ (decode cX11_save 362 = .ok (.iinc 4 1, 3)) ∧ (decode cX11_save 365 = .ok (.goto (-31), 3)) ∧ (decode cX11_save 368 = .ok (.iinc 3 1, 3)) ∧ (decode cX11_save 371 = .ok (.goto (-46), 3)) := by decide +kernel
theorem dX11_save_341 : decode cX11_save 341 = .ok (.iaload, 1) := dq_X11_save_341.1
theorem dX11_save_342 : decode cX11_save 342 = .ok (.if_icmp .ge 26, 3) := dq_X11_save_341.2.1
theorem dX11_save_345 : decode cX11_save 345 = .ok (.aload_n 0, 1) := dq_X11_save_341.2.2.1
theorem dX11_save_346 : decode cX11_save 346 = .ok (.aload_n 0, 1) := dq_X11_save_341.2.2.2.1
theorem dX11_save_347 : decode cX11_save 347 = .ok (.getfield 34, 3) := dq_X11_save_341.2.2.2.2.1
theorem dX11_save_350 : decode cX11_save 350 = .ok (.sipush 2000, 3) := dq_X11_save_341.2.2.2.2.2.1
theorem dX11_save_353 : decode cX11_save 353 = .ok (.iload_n 3, 1) := dq_X11_save_341.2.2.2.2.2.2.1
theorem dX11_save_354 : decode cX11_save 354 = .ok (.imul, 1) := dq_X11_save_341.2.2.2.2.2.2.2.1
theorem dX11_save_355 : decode cX11_save 355 = .ok (.iload 4, 2) := dq_X11_save_341.2.2.2.2.2.2.2.2.1
theorem dX11_save_357 : decode cX11_save 357 = .ok (.iadd, 1) := dq_X11_save_341.2.2.2.2.2.2.2.2.2.1
theorem dX11_save_358 : decode cX11_save 358 = .ok (.baload, 1) := dq_X11_save_341.2.2.2.2.2.2.2.2.2.2.1
theorem dX11_save_359 : decode cX11_save 359 = .ok (.invokevirtual 179, 3) := dq_X11_save_341.2.2.2.2.2.2.2.2.2.2.2.1
theorem dX11_save_362 : decode cX11_save 362 = .ok (.iinc 4 1, 3) := dq_X11_save_341.2.2.2.2.2.2.2.2.2.2.2.2.1
theorem dX11_save_365 : decode cX11_save 365 = .ok (.goto (-31), 3) := dq_X11_save_341.2.2.2.2.2.2.2.2.2.2.2.2.2.1
theorem dX11_save_368 : decode cX11_save 368 = .ok (.iinc 3 1, 3) := dq_X11_save_341.2.2.2.2.2.2.2.2.2.2.2.2.2.2.1
theorem dX11_save_371 : decode cX11_save 371 = .ok (.goto (-46), 3) := dq_X11_save_341.2.2.2.2.2.2.2.2.2.2.2.2.2.2.2
theorem dq_X11_save_374 : (decode cX11_save 374 = .ok (.aload_n 0, 1)) ∧ (decode cX11_save 375 = .ok (.getfield 138, 3)) ∧ (decode cX11_save 378 = .ok (.ireturn, 1)) := by decide +kernel
theorem dX11_save_374 : decode cX11_save 374 = .ok (.aload_n 0, 1) := dq_X11_save_374.1
theorem dX11_save_375 : decode cX11_save 375 = .ok (.getfield 138, 3) := dq_X11_save_374.2.1
theorem dX11_save_378 : decode cX11_save 378 = .ok (.ireturn, 1) := dq_X11_save_374.2.2
theorem dq_X11_isSample_0 : (decode cX11_isSample 0 = .ok (.iload_n 0, 1)) ∧ (decode cX11_isSample 1 = .ok (.iconst 1, 1)) ∧ (decode cX11_isSample 2 = .ok (.bipush 31, 2)) ∧ (decode cX11_isSample 4 = .ok (.invokestatic 145, 3)) ∧ (decode cX11_isSample 7 = .ok (.ireturn, 1)) := by decide +kernel
theorem dX11_isSample_0 : decode cX11_isSample 0 = .ok (.iload_n 0, 1) := dq_X11_isSample_0.1
theorem dX11_isSample_1 : decode cX11_isSample 1 = .ok (.iconst 1, 1) := dq_X11_isSample_0.2.1
theorem dX11_isSample_2 : decode cX11_isSample 2 = .ok (.bipush 31, 2) := dq_X11_isSample_0.2.2.1
theorem dX11_isSample_4 : decode cX11_isSample 4 = .ok (.invokestatic 145, 3) := dq_X11_isSample_0.2.2.2.1
theorem dX11_isSample_7 : decode cX11_isSample 7 = .ok (.ireturn, 1) := dq_X11_isSample_0.2.2.2.2
theorem dq_X11_sample_0 : (decode cX11_sample 0 = .ok (.iload_n 1, 1)) ∧ (decode cX11_sample 1 = .ok (.invokestatic 188, 3)) ∧ (decode cX11_sample 4 = .ok (.ifCond .eq 42, 3)) ∧ (decode cX11_sample 7 = .ok (.iload_n 2, 1)) ∧ (decode cX11_sample 8 = .ok (.iconst 0, 1)) ∧ (decode cX11_sample 9 = .ok (.sipush 2000, 3)) ∧ (decode cX11_sample 12 = .ok (.invokestatic 145, 3)) ∧ (decode cX11_sample 15 = .ok (.ifCond .eq 31, 3)) ∧ (decode cX11_sample 18 = .ok (.iload_n 2, 1)) ∧ (decode cX11_sample 19 = .ok (.iconst 2, 1)) ∧ (decode cX11_sample 20 = .ok (.irem, 1)) ∧ (decode cX11_sample 21 = .ok (.ifCond .ne 25, 3)) ∧ (decode cX11_sample 24 = .ok (.iload_n 3, 1)) ∧ (decode cX11_sample 25 = .ok (.bipush (-8), 2)) ∧ (decode cX11_sample 27 = .ok (.bipush 7, 2)) ∧ (decode cX11_sample 29 = .ok (.invokestatic 145, 3)) := by decide +kernel
theorem dX11_sample_0 : decode cX11_sample 0 = .ok (.iload_n 1, 1) := dq_X11_sample_0.1
theorem dX11_sample_1 : decode cX11_sample 1 = .ok (.invokestatic 188, 3) := dq_X11_sample_0.2.1
theorem dX11_sample_4 : decode cX11_sample 4 = .ok (.ifCond .eq 42, 3) := dq_X11_sample_0.2.2.1
theorem dX11_sample_7 : decode cX11_sample 7 = .ok (.iload_n 2, 1) := dq_X11_sample_0.2.2.2.1
theorem dX11_sample_8 : decode cX11_sample 8 = .ok (.iconst 0, 1) := dq_X11_sample_0.2.2.2.2.1
theorem dX11_sample_9 : decode cX11_sample 9 = .ok (.sipush 2000, 3) := dq_X11_sample_0.2.2.2.2.2.1
theorem dX11_sample_12 : decode cX11_sample 12 = .ok (.invokestatic 145, 3) := dq_X11_sample_0.2.2.2.2.2.2.1
theorem dX11_sample_15 : decode cX11_sample 15 = .ok (.ifCond .eq 31, 3) := dq_X11_sample_0.2.2.2.2.2.2.2.1
theorem dX11_sample_18 : decode cX11_sample 18 = .ok (.iload_n 2, 1) := dq_X11_sample_0.2.2.2.2.2.2.2.2.1
theorem dX11_sample_19 : decode cX11_sample 19 = .ok (.iconst 2, 1) := dq_X11_sample_0.2.2.2.2.2.2.2.2.2.1
theorem dX11_sample_20 : decode cX11_sample 20 = .ok (.irem, 1) := dq_X11_sample_0.2.2.2.2.2.2.2.2.2.2.1
theorem dX11_sample_21 : decode cX11_sample 21 = .ok (.ifCond .ne 25, 3) := dq_X11_sample_0.2.2.2.2.2.2.2.2.2.2.2.1
theorem dX11_sample_24 : decode cX11_sample 24 = .ok (.iload_n 3, 1) := dq_X11_sample_0.2.2.2.2.2.2.2.2.2.2.2.2.1
theorem dX11_sample_25 : decode cX11_sample 25 = .ok (.bipush (-8), 2) := dq_X11_sample_0.2.2.2.2.2.2.2.2.2.2.2.2.2.1
theorem dX11_sample_27 : decode cX11_sample 27 = .ok (.bipush 7, 2) := dq_X11_sample_0.2.2.2.2.2.2.2.2.2.2.2.2.2.2.1
theorem dX11_sample_29 : decode cX11_sample 29 = .ok (.invokestatic 145, 3) := dq_X11_sample_0.2.2.2.2.2.2.2.2.2.2.2.2.2.2.2
theorem dq_X11_sample_32 : (decode cX11_sample 32 = .ok (.ifCond .eq 14, 3)) ∧ (decode cX11_sample 35 = .ok (.iload 4, 2)) ∧ (decode cX11_sample 37 = .ok (.iconst 0, 1)) ∧ (decode cX11_sample 38 = .ok (.bipush 64, 2)) ∧ (decode cX11_sample 40 = .ok (.invokestatic 145, 3)) ∧ (decode cX11_sample 43 = .ok (.ifCond .ne 5, 3)) ∧ (decode cX11_sample 46 = .ok (.iconst 0, 1)) ∧ (decode cX11_sample 47 = .ok (.ireturn, 1)) ∧ (decode cX11_sample 48 = .ok (.iload_n 2, 1)) ∧ (decode cX11_sample 49 = .ok (.istore 5, 2)) ∧ (decode cX11_sample 51 = .ok (.iconst 1, 1)) ∧ (decode cX11_sample 52 = .ok (.istore 6, 2)) ∧ (decode cX11_sample 54 = .ok (.iload 6, 2)) ∧ (decode cX11_sample 56 = .ok (.bipush 32, 2)) ∧ (decode cX11_sample 58 = .ok (.if_icmp .ge 31, 3)) ∧ (decode cX11_sample 61 = .ok (.iload 5, 2)) := by decide +kernel
theorem dX11_sample_32 : decode cX11_sample 32 = .ok (.ifCond .eq 14, 3) := dq_X11_sample_32.1
theorem dX11_sample_35 : decode cX11_sample 35 = .ok (.iload 4, 2) := dq_X11_sample_32.2.1
theorem dX11_sample_37 : decode cX11_sample 37 = .ok (.iconst 0, 1) := dq_X11_sample_32.2.2.1
theorem dX11_sample_38 : decode cX11_sample 38 = .ok (.bipush 64, 2) := dq_X11_sample_32.2.2.2.1
theorem dX11_sample_40 : decode cX11_sample 40 = .ok (.invokestatic 145, 3) := dq_X11_sample_32.2.2.2.2.1
theorem dX11_sample_43 : decode cX11_sample 43 = .ok (.ifCond .ne 5, 3) := dq_X11_sample_32.2.2.2.2.2.1
theorem dX11_sample_46 : decode cX11_sample 46 = .ok (.iconst 0, 1) := dq_X11_sample_32.2.2.2.2.2.2.1
theorem dX11_sample_47 : decode cX11_sample 47 = .ok (.ireturn, 1) := dq_X11_sample_32.2.2.2.2.2.2.2.1
theorem dX11_sample_48 : decode cX11_sample 48 = .ok (.iload_n 2, 1) := dq_X11_sample_32.2.2.2.2.2.2.2.2.1
theorem dX11_sample_49 : decode cX11_sample 49 = .ok (.istore 5, 2) := dq_X11_sample_32.2.2.2.2.2.2.2.2.2.1
theorem dX11_sample_51 : decode cX11_sample 51 = .ok (.iconst 1, 1) := dq_X11_sample_32.2.2.2.2.2.2.2.2.2.2.1
theorem dX11_sample_52 : decode cX11_sample 52 = .ok (.istore 6, 2) := dq_X11_sample_32.2.2.2.2.2.2.2.2.2.2.2.1
theorem dX11_sample_54 : decode cX11_sample 54 = .ok (.iload 6, 2) := dq_X11_sample_32.2.2.2.2.2.2.2.2.2.2.2.2.1
theorem dX11_sample_56 : decode cX11_sample 56 = .ok (.bipush 32, 2) := dq_X11_sample_32.2.2.2.2.2.2.2.2.2.2.2.2.2.1
theorem dX11_sample_58 : decode cX11_sample 58 = .ok (.if_icmp .ge 31, 3) := dq_X11_sample_32.2.2.2.2.2.2.2.2.2.2.2.2.2.2.1
theorem dX11_sample_61 : decode cX11_sample 61 = .ok (.iload 5, 2) := dq_X11_sample_32.2.2.2.2.2.2.2.2.2.2.2.2.2.2.2
theorem dq_X11_sample_63 : (decode cX11_sample 63 = .ok (.iload 6, 2)) ∧ (decode cX11_sample 65 = .ok (.iload_n 1, 1)) ∧ (decode cX11_sample 66 = .ok (.if_icmp .ne 7, 3)) ∧ (decode cX11_sample 69 = .ok (.iconst 0, 1)) ∧ (decode cX11_sample 70 = .ok (.goto 10, 3)) ∧ (decode cX11_sample 73 = .ok (.aload_n 0, 1)) ∧ (decode cX11_sample 74 = .ok (.getfield 17, 3)) ∧ (decode cX11_sample 77 = .ok (.iload 6, 2)) ∧ (decode cX11_sample 79 = .ok (.iaload, 1)) ∧ (decode cX11_sample 80 = .ok (.iadd, 1)) ∧ (decode cX11_sample 81 = .ok (.istore 5, 2)) ∧ (decode cX11_sample 83 = .ok (.iinc 6 1, 3)) ∧ (decode cX11_sample 86 = .ok (.goto (-32), 3)) ∧ (decode cX11_sample 89 = .ok (.iload 5, 2)) ∧ (decode cX11_sample 91 = .ok (.sipush 4000, 3)) ∧ (decode cX11_sample 94 = .ok (.if_icmp .le 5, 3)) := by decide +kernel
theorem dX11_sample_63 : decode cX11_sample 63 = .ok (.iload 6, 2) := dq_X11_sample_63.1
theorem dX11_sample_65 : decode cX11_sample 65 = .ok (.iload_n 1, 1) := dq_X11_sample_63.2.1
theorem dX11_sample_66 : decode cX11_sample 66 = .ok (.if_icmp .ne 7, 3) := dq_X11_sample_63.2.2.1
theorem dX11_sample_69 : decode cX11_sample 69 = .ok (.iconst 0, 1) := dq_X11_sample_63.2.2.2.1
theorem dX11_sample_70 : decode cX11_sample 70 = .ok (.goto 10, 3) := dq_X11_sample_63.2.2.2.2.1
theorem dX11_sample_73 : decode cX11_sample 73 = .ok (.aload_n 0, 1) := dq_X11_sample_63.2.2.2.2.2.1
theorem dX11_sample_74 : decode cX11_sample 74 = .ok (.getfield 17, 3) := dq_X11_sample_63.2.2.2.2.2.2.1
theorem dX11_sample_77 : decode cX11_sample 77 = .ok (.iload 6, 2) := dq_X11_sample_63.2.2.2.2.2.2.2.1
theorem dX11_sample_79 : decode cX11_sample 79 = .ok (.iaload, 1) := dq_X11_sample_63.2.2.2.2.2.2.2.2.1
