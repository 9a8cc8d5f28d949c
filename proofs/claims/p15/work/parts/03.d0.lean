theorem dq_X0_init_0 : (decode cX0_init 0 = .ok (.aload_n 0, 1)) ∧ (decode cX0_init 1 = .ok (.invokespecial 3, 3)) ∧ (decode cX0_init 4 = .ok (.aload_n 0, 1)) ∧ (decode cX0_init 5 = .ok (.bipush 32, 2)) ∧ (decode cX0_init 7 = .ok (.anewarray 9, 3)) ∧ (decode cX0_init 10 = .ok (.putfield 11, 3)) ∧ (decode cX0_init 13 = .ok (.aload_n 0, 1)) ∧ (decode cX0_init 14 = .ok (.sipush 4000, 3)) ∧ (decode cX0_init 17 = .ok (.newarray .byte, 2)) ∧ (decode cX0_init 19 = .ok (.putfield 17, 3)) ∧ (decode cX0_init 22 = .ok (.iconst 0, 1)) ∧ (decode cX0_init 23 = .ok (.istore_n 1, 1)) ∧ (decode cX0_init 24 = .ok (.iload_n 1, 1)) ∧ (decode cX0_init 25 = .ok (.bipush 31, 2)) ∧ (decode cX0_init 27 = .ok (.if_icmp .gt 22, 3)) ∧ (decode cX0_init 30 = .ok (.aload_n 0, 1)) := by decide +kernel
theorem dX0_init_0 : decode cX0_init 0 = .ok (.aload_n 0, 1) := dq_X0_init_0.1
theorem dX0_init_1 : decode cX0_init 1 = .ok (.invokespecial 3, 3) := dq_X0_init_0.2.1
theorem dX0_init_4 : decode cX0_init 4 = .ok (.aload_n 0, 1) := dq_X0_init_0.2.2.1
theorem dX0_init_5 : decode cX0_init 5 = .ok (.bipush 32, 2) := dq_X0_init_0.2.2.2.1
theorem dX0_init_7 : decode cX0_init 7 = .ok (.anewarray 9, 3) := dq_X0_init_0.2.2.2.2.1
theorem dX0_init_10 : decode cX0_init 10 = .ok (.putfield 11, 3) := dq_X0_init_0.2.2.2.2.2.1
theorem dX0_init_13 : decode cX0_init 13 = .ok (.aload_n 0, 1) := dq_X0_init_0.2.2.2.2.2.2.1
theorem dX0_init_14 : decode cX0_init 14 = .ok (.sipush 4000, 3) := dq_X0_init_0.2.2.2.2.2.2.2.1
theorem dX0_init_17 : decode cX0_init 17 = .ok (.newarray .byte, 2) := dq_X0_init_0.2.2.2.2.2.2.2.2.1
theorem dX0_init_19 : decode cX0_init 19 = .ok (.putfield 17, 3) := dq_X0_init_0.2.2.2.2.2.2.2.2.2.1
theorem dX0_init_22 : decode cX0_init 22 = .ok (.iconst 0, 1) := dq_X0_init_0.2.2.2.2.2.2.2.2.2.2.1
theorem dX0_init_23 : decode cX0_init 23 = .ok (.istore_n 1, 1) := dq_X0_init_0.2.2.2.2.2.2.2.2.2.2.2.1
theorem dX0_init_24 : decode cX0_init 24 = .ok (.iload_n 1, 1) := dq_X0_init_0.2.2.2.2.2.2.2.2.2.2.2.2.1
theorem dX0_init_25 : decode cX0_init 25 = .ok (.bipush 31, 2) := dq_X0_init_0.2.2.2.2.2.2.2.2.2.2.2.2.2.1
theorem dX0_init_27 : decode cX0_init 27 = .ok (.if_icmp .gt 22, 3) := dq_X0_init_0.2.2.2.2.2.2.2.2.2.2.2.2.2.2.1
theorem dX0_init_30 : decode cX0_init 30 = .ok (.aload_n 0, 1) := dq_X0_init_0.2.2.2.2.2.2.2.2.2.2.2.2.2.2.2
theorem dq_X0_init_31 : (decode cX0_init 31 = .ok (.getfield 11, 3)) ∧ (decode cX0_init 34 = .ok (.iload_n 1, 1)) ∧ (decode cX0_init 35 = .ok (.new 9, 3)) ∧ (decode cX0_init 38 = .ok (.dup, 1)) ∧ (decode cX0_init 39 = .ok (.invokespecial 21, 3)) ∧ (decode cX0_init 42 = .ok (.aastore, 1)) ∧ (decode cX0_init 43 = .ok (.iinc 1 1, 3)) ∧ (decode cX0_init 46 = .ok (.goto (-22), 3)) ∧ (decode cX0_init 49 = .ok (.return_, 1)) := by decide +kernel
theorem dX0_init_31 : decode cX0_init 31 = .ok (.getfield 11, 3) := dq_X0_init_31.1
theorem dX0_init_34 : decode cX0_init 34 = .ok (.iload_n 1, 1) := dq_X0_init_31.2.1
theorem dX0_init_35 : decode cX0_init 35 = .ok (.new 9, 3) := dq_X0_init_31.2.2.1
theorem dX0_init_38 : decode cX0_init 38 = .ok (.dup, 1) := dq_X0_init_31.2.2.2.1
theorem dX0_init_39 : decode cX0_init 39 = .ok (.invokespecial 21, 3) := dq_X0_init_31.2.2.2.2.1
theorem dX0_init_42 : decode cX0_init 42 = .ok (.aastore, 1) := dq_X0_init_31.2.2.2.2.2.1
theorem dX0_init_43 : decode cX0_init 43 = .ok (.iinc 1 1, 3) := dq_X0_init_31.2.2.2.2.2.2.1
theorem dX0_init_46 : decode cX0_init 46 = .ok (.goto (-22), 3) := dq_X0_init_31.2.2.2.2.2.2.2.1
theorem dX0_init_49 : decode cX0_init 49 = .ok (.return_, 1) := dq_X0_init_31.2.2.2.2.2.2.2.2
theorem dq_X0_has_0 : (decode cX0_has 0 = .ok (.iload_n 1, 1)) ∧ (decode cX0_has 1 = .ok (.iconst 1, 1)) ∧ (decode cX0_has 2 = .ok (.if_icmp .lt 13, 3)) ∧ (decode cX0_has 5 = .ok (.iload_n 1, 1)) ∧ (decode cX0_has 6 = .ok (.bipush 31, 2)) ∧ (decode cX0_has 8 = .ok (.if_icmp .gt 7, 3)) ∧ (decode cX0_has 11 = .ok (.iconst 1, 1)) ∧ (decode cX0_has 12 = .ok (.goto 4, 3)) ∧ (decode cX0_has 15 = .ok (.iconst 0, 1)) ∧ (decode cX0_has 16 = .ok (.ireturn, 1)) := by decide +kernel
theorem dX0_has_0 : decode cX0_has 0 = .ok (.iload_n 1, 1) := dq_X0_has_0.1
theorem dX0_has_1 : decode cX0_has 1 = .ok (.iconst 1, 1) := dq_X0_has_0.2.1
theorem dX0_has_2 : decode cX0_has 2 = .ok (.if_icmp .lt 13, 3) := dq_X0_has_0.2.2.1
theorem dX0_has_5 : decode cX0_has 5 = .ok (.iload_n 1, 1) := dq_X0_has_0.2.2.2.1
theorem dX0_has_6 : decode cX0_has 6 = .ok (.bipush 31, 2) := dq_X0_has_0.2.2.2.2.1
theorem dX0_has_8 : decode cX0_has 8 = .ok (.if_icmp .gt 7, 3) := dq_X0_has_0.2.2.2.2.2.1
theorem dX0_has_11 : decode cX0_has 11 = .ok (.iconst 1, 1) := dq_X0_has_0.2.2.2.2.2.2.1
theorem dX0_has_12 : decode cX0_has 12 = .ok (.goto 4, 3) := dq_X0_has_0.2.2.2.2.2.2.2.1
theorem dX0_has_15 : decode cX0_has 15 = .ok (.iconst 0, 1) := dq_X0_has_0.2.2.2.2.2.2.2.2.1
theorem dX0_has_16 : decode cX0_has 16 = .ok (.ireturn, 1) := dq_X0_has_0.2.2.2.2.2.2.2.2.2
theorem dq_X0_get_0 : (decode cX0_get 0 = .ok (.aload_n 0, 1)) ∧ (decode cX0_get 1 = .ok (.getfield 11, 3)) ∧ (decode cX0_get 4 = .ok (.aload_n 0, 1)) ∧ (decode cX0_get 5 = .ok (.iload_n 1, 1)) ∧ (decode cX0_get 6 = .ok (.invokevirtual 22, 3)) ∧ (decode cX0_get 9 = .ok (.ifCond .eq 7, 3)) ∧ (decode cX0_get 12 = .ok (.iload_n 1, 1)) ∧ (decode cX0_get 13 = .ok (.goto 4, 3)) ∧ (decode cX0_get 16 = .ok (.iconst 0, 1)) ∧ (decode cX0_get 17 = .ok (.aaload, 1)) ∧ (decode cX0_get 18 = .ok (.areturn, 1)) := by decide +kernel
theorem dX0_get_0 : decode cX0_get 0 = .ok (.aload_n 0, 1) := dq_X0_get_0.1
theorem dX0_get_1 : decode cX0_get 1 = .ok (.getfield 11, 3) := dq_X0_get_0.2.1
theorem dX0_get_4 : decode cX0_get 4 = .ok (.aload_n 0, 1) := dq_X0_get_0.2.2.1
theorem dX0_get_5 : decode cX0_get 5 = .ok (.iload_n 1, 1) := dq_X0_get_0.2.2.2.1
theorem dX0_get_6 : decode cX0_get 6 = .ok (.invokevirtual 22, 3) := dq_X0_get_0.2.2.2.2.1
theorem dX0_get_9 : decode cX0_get 9 = .ok (.ifCond .eq 7, 3) := dq_X0_get_0.2.2.2.2.2.1
theorem dX0_get_12 : decode cX0_get 12 = .ok (.iload_n 1, 1) := dq_X0_get_0.2.2.2.2.2.2.1
theorem dX0_get_13 : decode cX0_get 13 = .ok (.goto 4, 3) := dq_X0_get_0.2.2.2.2.2.2.2.1
theorem dX0_get_16 : decode cX0_get 16 = .ok (.iconst 0, 1) := dq_X0_get_0.2.2.2.2.2.2.2.2.1
theorem dX0_get_17 : decode cX0_get 17 = .ok (.aaload, 1) := dq_X0_get_0.2.2.2.2.2.2.2.2.2.1
theorem dX0_get_18 : decode cX0_get 18 = .ok (.areturn, 1) := dq_X0_get_0.2.2.2.2.2.2.2.2.2.2
theorem dq_X0_lengthFits_0 : (decode cX0_lengthFits 0 = .ok (.iload_n 0, 1)) ∧ (decode cX0_lengthFits 1 = .ok (.ifCond .lt 29, 3)) ∧ (decode cX0_lengthFits 4 = .ok (.iload_n 0, 1)) ∧ (decode cX0_lengthFits 5 = .ok (.sipush 2000, 3)) ∧ (decode cX0_lengthFits 8 = .ok (.if_icmp .gt 22, 3)) ∧ (decode cX0_lengthFits 11 = .ok (.iload_n 0, 1)) ∧ (decode cX0_lengthFits 12 = .ok (.iconst 2, 1)) ∧ (decode cX0_lengthFits 13 = .ok (.irem, 1)) ∧ (decode cX0_lengthFits 14 = .ok (.ifCond .ne 16, 3)) ∧ (decode cX0_lengthFits 17 = .ok (.iload_n 1, 1)) ∧ (decode cX0_lengthFits 18 = .ok (.iload_n 0, 1)) ∧ (decode cX0_lengthFits 19 = .ok (.iadd, 1)) ∧ (decode cX0_lengthFits 20 = .ok (.sipush 4000, 3)) ∧ (decode cX0_lengthFits 23 = .ok (.if_icmp .gt 7, 3)) ∧ (decode cX0_lengthFits 26 = .ok (.iconst 1, 1)) ∧ (decode cX0_lengthFits 27 = .ok (.goto 4, 3)) := by decide +kernel
theorem dX0_lengthFits_0 : decode cX0_lengthFits 0 = .ok (.iload_n 0, 1) := dq_X0_lengthFits_0.1
theorem dX0_lengthFits_1 : decode cX0_lengthFits 1 = .ok (.ifCond .lt 29, 3) := dq_X0_lengthFits_0.2.1
theorem dX0_lengthFits_4 : decode cX0_lengthFits 4 = .ok (.iload_n 0, 1) := dq_X0_lengthFits_0.2.2.1
theorem dX0_lengthFits_5 : decode cX0_lengthFits 5 = .ok (.sipush 2000, 3) := dq_X0_lengthFits_0.2.2.2.1
theorem dX0_lengthFits_8 : decode cX0_lengthFits 8 = .ok (.if_icmp .gt 22, 3) := dq_X0_lengthFits_0.2.2.2.2.1
theorem dX0_lengthFits_11 : decode cX0_lengthFits 11 = .ok (.iload_n 0, 1) := dq_X0_lengthFits_0.2.2.2.2.2.1
theorem dX0_lengthFits_12 : decode cX0_lengthFits 12 = .ok (.iconst 2, 1) := dq_X0_lengthFits_0.2.2.2.2.2.2.1
theorem dX0_lengthFits_13 : decode cX0_lengthFits 13 = .ok (.irem, 1) := dq_X0_lengthFits_0.2.2.2.2.2.2.2.1
theorem dX0_lengthFits_14 : decode cX0_lengthFits 14 = .ok (.ifCond .ne 16, 3) := dq_X0_lengthFits_0.2.2.2.2.2.2.2.2.1
theorem dX0_lengthFits_17 : decode cX0_lengthFits 17 = .ok (.iload_n 1, 1) := dq_X0_lengthFits_0.2.2.2.2.2.2.2.2.2.1
theorem dX0_lengthFits_18 : decode cX0_lengthFits 18 = .ok (.iload_n 0, 1) := dq_X0_lengthFits_0.2.2.2.2.2.2.2.2.2.2.1
theorem dX0_lengthFits_19 : decode cX0_lengthFits 19 = .ok (.iadd, 1) := dq_X0_lengthFits_0.2.2.2.2.2.2.2.2.2.2.2.1
theorem dX0_lengthFits_20 : decode cX0_lengthFits 20 = .ok (.sipush 4000, 3) := dq_X0_lengthFits_0.2.2.2.2.2.2.2.2.2.2.2.2.1
theorem dX0_lengthFits_23 : decode cX0_lengthFits 23 = .ok (.if_icmp .gt 7, 3) := dq_X0_lengthFits_0.2.2.2.2.2.2.2.2.2.2.2.2.2.1
theorem dX0_lengthFits_26 : decode cX0_lengthFits 26 = .ok (.iconst 1, 1) := dq_X0_lengthFits_0.2.2.2.2.2.2.2.2.2.2.2.2.2.2.1
theorem dX0_lengthFits_27 : decode cX0_lengthFits 27 = .ok (.goto 4, 3) := dq_X0_lengthFits_0.2.2.2.2.2.2.2.2.2.2.2.2.2.2.2
theorem dq_X0_lengthFits_30 : (decode cX0_lengthFits 30 = .ok (.iconst 0, 1)) ∧ (decode cX0_lengthFits 31 = .ok (.ireturn, 1)) := by decide +kernel
theorem dX0_lengthFits_30 : decode cX0_lengthFits 30 = .ok (.iconst 0, 1) := dq_X0_lengthFits_30.1
theorem dX0_lengthFits_31 : decode cX0_lengthFits 31 = .ok (.ireturn, 1) := dq_X0_lengthFits_30.2
theorem dq_X0_canResize_0 : (decode cX0_canResize 0 = .ok (.iload_n 2, 1)) ∧ (decode cX0_canResize 1 = .ok (.aload_n 0, 1)) ∧ (decode cX0_canResize 2 = .ok (.getfield 26, 3)) ∧ (decode cX0_canResize 5 = .ok (.aload_n 0, 1)) ∧ (decode cX0_canResize 6 = .ok (.iload_n 1, 1)) ∧ (decode cX0_canResize 7 = .ok (.invokevirtual 30, 3)) ∧ (decode cX0_canResize 10 = .ok (.getfield 34, 3)) ∧ (decode cX0_canResize 13 = .ok (.isub, 1)) ∧ (decode cX0_canResize 14 = .ok (.invokestatic 37, 3)) ∧ (decode cX0_canResize 17 = .ok (.ireturn, 1)) := by decide +kernel
theorem dX0_canResize_0 : decode cX0_canResize 0 = .ok (.iload_n 2, 1) := dq_X0_canResize_0.1
theorem dX0_canResize_1 : decode cX0_canResize 1 = .ok (.aload_n 0, 1) := dq_X0_canResize_0.2.1
theorem dX0_canResize_2 : decode cX0_canResize 2 = .ok (.getfield 26, 3) := dq_X0_canResize_0.2.2.1
theorem dX0_canResize_5 : decode cX0_canResize 5 = .ok (.aload_n 0, 1) := dq_X0_canResize_0.2.2.2.1
theorem dX0_canResize_6 : decode cX0_canResize 6 = .ok (.iload_n 1, 1) := dq_X0_canResize_0.2.2.2.2.1
theorem dX0_canResize_7 : decode cX0_canResize 7 = .ok (.invokevirtual 30, 3) := dq_X0_canResize_0.2.2.2.2.2.1
theorem dX0_canResize_10 : decode cX0_canResize 10 = .ok (.getfield 34, 3) := dq_X0_canResize_0.2.2.2.2.2.2.1
theorem dX0_canResize_13 : decode cX0_canResize 13 = .ok (.isub, 1) := dq_X0_canResize_0.2.2.2.2.2.2.2.1
theorem dX0_canResize_14 : decode cX0_canResize 14 = .ok (.invokestatic 37, 3) := dq_X0_canResize_0.2.2.2.2.2.2.2.2.1
theorem dX0_canResize_17 : decode cX0_canResize 17 = .ok (.ireturn, 1) := dq_X0_canResize_0.2.2.2.2.2.2.2.2.2
theorem dq_X0_clear_0 : (decode cX0_clear 0 = .ok (.iconst 0, 1)) ∧ (decode cX0_clear 1 = .ok (.istore_n 1, 1)) ∧ (decode cX0_clear 2 = .ok (.iload_n 1, 1)) ∧ (decode cX0_clear 3 = .ok (.bipush 31, 2)) ∧ (decode cX0_clear 5 = .ok (.if_icmp .gt 29, 3)) ∧ (decode cX0_clear 8 = .ok (.aload_n 0, 1)) ∧ (decode cX0_clear 9 = .ok (.getfield 11, 3)) ∧ (decode cX0_clear 12 = .ok (.iload_n 1, 1)) ∧ (decode cX0_clear 13 = .ok (.aaload, 1)) ∧ (decode cX0_clear 14 = .ok (.iconst 0, 1)) ∧ (decode cX0_clear 15 = .ok (.putfield 34, 3)) ∧ (decode cX0_clear 18 = .ok (.aload_n 0, 1)) ∧ (decode cX0_clear 19 = .ok (.getfield 11, 3)) ∧ (decode cX0_clear 22 = .ok (.iload_n 1, 1)) ∧ (decode cX0_clear 23 = .ok (.aaload, 1)) ∧ (decode cX0_clear 24 = .ok (.iconst 0, 1)) := by decide +kernel
theorem dX0_clear_0 : decode cX0_clear 0 = .ok (.iconst 0, 1) := dq_X0_clear_0.1
theorem dX0_clear_1 : decode cX0_clear 1 = .ok (.istore_n 1, 1) := dq_X0_clear_0.2.1
theorem dX0_clear_2 : decode cX0_clear 2 = .ok (.iload_n 1, 1) := dq_X0_clear_0.2.2.1
theorem dX0_clear_3 : decode cX0_clear 3 = .ok (.bipush 31, 2) := dq_X0_clear_0.2.2.2.1
theorem dX0_clear_5 : decode cX0_clear 5 = .ok (.if_icmp .gt 29, 3) := dq_X0_clear_0.2.2.2.2.1
theorem dX0_clear_8 : decode cX0_clear 8 = .ok (.aload_n 0, 1) := dq_X0_clear_0.2.2.2.2.2.1
theorem dX0_clear_9 : decode cX0_clear 9 = .ok (.getfield 11, 3) := dq_X0_clear_0.2.2.2.2.2.2.1
theorem dX0_clear_12 : decode cX0_clear 12 = .ok (.iload_n 1, 1) := dq_X0_clear_0.2.2.2.2.2.2.2.1
theorem dX0_clear_13 : decode cX0_clear 13 = .ok (.aaload, 1) := dq_X0_clear_0.2.2.2.2.2.2.2.2.1
theorem dX0_clear_14 : decode cX0_clear 14 = .ok (.iconst 0, 1) := dq_X0_clear_0.2.2.2.2.2.2.2.2.2.1
theorem dX0_clear_15 : decode cX0_clear 15 = .ok (.putfield 34, 3) := dq_X0_clear_0.2.2.2.2.2.2.2.2.2.2.1
theorem dX0_clear_18 : decode cX0_clear 18 = .ok (.aload_n 0, 1) := dq_X0_clear_0.2.2.2.2.2.2.2.2.2.2.2.1
theorem dX0_clear_19 : decode cX0_clear 19 = .ok (.getfield 11, 3) := dq_X0_clear_0.2.2.2.2.2.2.2.2.2.2.2.2.1
theorem dX0_clear_22 : decode cX0_clear 22 = .ok (.iload_n 1, 1) := dq_X0_clear_0.2.2.2.2.2.2.2.2.2.2.2.2.2.1
theorem dX0_clear_23 : decode cX0_clear 23 = .ok (.aaload, 1) := dq_X0_clear_0.2.2.2.2.2.2.2.2.2.2.2.2.2.2.1
theorem dX0_clear_24 : decode cX0_clear 24 = .ok (.iconst 0, 1) := dq_X0_clear_0.2.2.2.2.2.2.2.2.2.2.2.2.2.2.2
theorem dq_X0_clear_25 : (decode cX0_clear 25 = .ok (.putfield 41, 3)) ∧ (decode cX0_clear 28 = .ok (.iinc 1 1, 3)) ∧ (decode cX0_clear 31 = .ok (.goto (-29), 3)) ∧ (decode cX0_clear 34 = .ok (.aload_n 0, 1)) ∧ (decode cX0_clear 35 = .ok (.iconst 0, 1)) ∧ (decode cX0_clear 36 = .ok (.putfield 26, 3)) ∧ (decode cX0_clear 39 = .ok (.return_, 1)) := by decide +kernel
theorem dX0_clear_25 : decode cX0_clear 25 = .ok (.putfield 41, 3) := dq_X0_clear_25.1
theorem dX0_clear_28 : decode cX0_clear 28 = .ok (.iinc 1 1, 3) := dq_X0_clear_25.2.1
theorem dX0_clear_31 : decode cX0_clear 31 = .ok (.goto (-29), 3) := dq_X0_clear_25.2.2.1
theorem dX0_clear_34 : decode cX0_clear 34 = .ok (.aload_n 0, 1) := dq_X0_clear_25.2.2.2.1
theorem dX0_clear_35 : decode cX0_clear 35 = .ok (.iconst 0, 1) := dq_X0_clear_25.2.2.2.2.1
theorem dX0_clear_36 : decode cX0_clear 36 = .ok (.putfield 26, 3) := dq_X0_clear_25.2.2.2.2.2.1
theorem dX0_clear_39 : decode cX0_clear 39 = .ok (.return_, 1) := dq_X0_clear_25.2.2.2.2.2.2
theorem dq_X0_reshape_0 : (decode cX0_reshape 0 = .ok (.aload_n 0, 1)) ∧ (decode cX0_reshape 1 = .ok (.iload_n 1, 1)) ∧ (decode cX0_reshape 2 = .ok (.invokevirtual 22, 3)) ∧ (decode cX0_reshape 5 = .ok (.ifCond .eq 12, 3)) ∧ (decode cX0_reshape 8 = .ok (.aload_n 0, 1)) ∧ (decode cX0_reshape 9 = .ok (.iload_n 1, 1)) ∧ (decode cX0_reshape 10 = .ok (.iload_n 2, 1)) ∧ (decode cX0_reshape 11 = .ok (.invokevirtual 44, 3)) ∧ (decode cX0_reshape 14 = .ok (.ifCond .ne 4, 3)) ∧ (decode cX0_reshape 17 = .ok (.return_, 1)) ∧ (decode cX0_reshape 18 = .ok (.aload_n 0, 1)) ∧ (decode cX0_reshape 19 = .ok (.getfield 11, 3)) ∧ (decode cX0_reshape 22 = .ok (.iload_n 1, 1)) ∧ (decode cX0_reshape 23 = .ok (.aaload, 1)) ∧ (decode cX0_reshape 24 = .ok (.astore 5, 2)) ∧ (decode cX0_reshape 26 = .ok (.iload_n 2, 1)) := by decide +kernel
theorem dX0_reshape_0 : decode cX0_reshape 0 = .ok (.aload_n 0, 1) := dq_X0_reshape_0.1
theorem dX0_reshape_1 : decode cX0_reshape 1 = .ok (.iload_n 1, 1) := dq_X0_reshape_0.2.1
theorem dX0_reshape_2 : decode cX0_reshape 2 = .ok (.invokevirtual 22, 3) := dq_X0_reshape_0.2.2.1
theorem dX0_reshape_5 : decode cX0_reshape 5 = .ok (.ifCond .eq 12, 3) := dq_X0_reshape_0.2.2.2.1
theorem dX0_reshape_8 : decode cX0_reshape 8 = .ok (.aload_n 0, 1) := dq_X0_reshape_0.2.2.2.2.1
theorem dX0_reshape_9 : decode cX0_reshape 9 = .ok (.iload_n 1, 1) := dq_X0_reshape_0.2.2.2.2.2.1
theorem dX0_reshape_10 : decode cX0_reshape 10 = .ok (.iload_n 2, 1) := dq_X0_reshape_0.2.2.2.2.2.2.1
theorem dX0_reshape_11 : decode cX0_reshape 11 = .ok (.invokevirtual 44, 3) := dq_X0_reshape_0.2.2.2.2.2.2.2.1
theorem dX0_reshape_14 : decode cX0_reshape 14 = .ok (.ifCond .ne 4, 3) := dq_X0_reshape_0.2.2.2.2.2.2.2.2.1
theorem dX0_reshape_17 : decode cX0_reshape 17 = .ok (.return_, 1) := dq_X0_reshape_0.2.2.2.2.2.2.2.2.2.1
theorem dX0_reshape_18 : decode cX0_reshape 18 = .ok (.aload_n 0, 1) := dq_X0_reshape_0.2.2.2.2.2.2.2.2.2.2.1
theorem dX0_reshape_19 : decode cX0_reshape 19 = .ok (.getfield 11, 3) := dq_X0_reshape_0.2.2.2.2.2.2.2.2.2.2.2.1
theorem dX0_reshape_22 : decode cX0_reshape 22 = .ok (.iload_n 1, 1) := dq_X0_reshape_0.2.2.2.2.2.2.2.2.2.2.2.2.1
theorem dX0_reshape_23 : decode cX0_reshape 23 = .ok (.aaload, 1) := dq_X0_reshape_0.2.2.2.2.2.2.2.2.2.2.2.2.2.1
theorem dX0_reshape_24 : decode cX0_reshape 24 = .ok (.astore 5, 2) := dq_X0_reshape_0.2.2.2.2.2.2.2.2.2.2.2.2.2.2.1
theorem dX0_reshape_26 : decode cX0_reshape 26 = .ok (.iload_n 2, 1) := dq_X0_reshape_0.2.2.2.2.2.2.2.2.2.2.2.2.2.2.2
theorem dq_X0_reshape_27 : (decode cX0_reshape 27 = .ok (.aload 5, 2)) ∧ (decode cX0_reshape 29 = .ok (.getfield 34, 3)) ∧ (decode cX0_reshape 32 = .ok (.isub, 1)) ∧ (decode cX0_reshape 33 = .ok (.istore 6, 2)) ∧ (decode cX0_reshape 35 = .ok (.aload 5, 2)) ∧ (decode cX0_reshape 37 = .ok (.getfield 41, 3)) ∧ (decode cX0_reshape 40 = .ok (.aload 5, 2)) ∧ (decode cX0_reshape 42 = .ok (.getfield 34, 3)) ∧ (decode cX0_reshape 45 = .ok (.iadd, 1)) ∧ (decode cX0_reshape 46 = .ok (.istore 7, 2)) ∧ (decode cX0_reshape 48 = .ok (.aload 5, 2)) ∧ (decode cX0_reshape 50 = .ok (.getfield 41, 3)) ∧ (decode cX0_reshape 53 = .ok (.iload_n 2, 1)) ∧ (decode cX0_reshape 54 = .ok (.iadd, 1)) ∧ (decode cX0_reshape 55 = .ok (.istore 8, 2)) ∧ (decode cX0_reshape 57 = .ok (.aload_n 0, 1)) := by decide +kernel
theorem dX0_reshape_27 : decode cX0_reshape 27 = .ok (.aload 5, 2) := dq_X0_reshape_27.1
theorem dX0_reshape_29 : decode cX0_reshape 29 = .ok (.getfield 34, 3) := dq_X0_reshape_27.2.1
theorem dX0_reshape_32 : decode cX0_reshape 32 = .ok (.isub, 1) := dq_X0_reshape_27.2.2.1
theorem dX0_reshape_33 : decode cX0_reshape 33 = .ok (.istore 6, 2) := dq_X0_reshape_27.2.2.2.1
theorem dX0_reshape_35 : decode cX0_reshape 35 = .ok (.aload 5, 2) := dq_X0_reshape_27.2.2.2.2.1
theorem dX0_reshape_37 : decode cX0_reshape 37 = .ok (.getfield 41, 3) := dq_X0_reshape_27.2.2.2.2.2.1
theorem dX0_reshape_40 : decode cX0_reshape 40 = .ok (.aload 5, 2) := dq_X0_reshape_27.2.2.2.2.2.2.1
theorem dX0_reshape_42 : decode cX0_reshape 42 = .ok (.getfield 34, 3) := dq_X0_reshape_27.2.2.2.2.2.2.2.1
theorem dX0_reshape_45 : decode cX0_reshape 45 = .ok (.iadd, 1) := dq_X0_reshape_27.2.2.2.2.2.2.2.2.1
theorem dX0_reshape_46 : decode cX0_reshape 46 = .ok (.istore 7, 2) := dq_X0_reshape_27.2.2.2.2.2.2.2.2.2.1
theorem dX0_reshape_48 : decode cX0_reshape 48 = .ok (.aload 5, 2) := dq_X0_reshape_27.2.2.2.2.2.2.2.2.2.2.1
theorem dX0_reshape_50 : decode cX0_reshape 50 = .ok (.getfield 41, 3) := dq_X0_reshape_27.2.2.2.2.2.2.2.2.2.2.2.1
theorem dX0_reshape_53 : decode cX0_reshape 53 = .ok (.iload_n 2, 1) := dq_X0_reshape_27.2.2.2.2.2.2.2.2.2.2.2.2.1
theorem dX0_reshape_54 : decode cX0_reshape 54 = .ok (.iadd, 1) := dq_X0_reshape_27.2.2.2.2.2.2.2.2.2.2.2.2.2.1
theorem dX0_reshape_55 : decode cX0_reshape 55 = .ok (.istore 8, 2) := dq_X0_reshape_27.2.2.2.2.2.2.2.2.2.2.2.2.2.2.1
theorem dX0_reshape_57 : decode cX0_reshape 57 = .ok (.aload_n 0, 1) := dq_X0_reshape_27.2.2.2.2.2.2.2.2.2.2.2.2.2.2.2
theorem dq_X0_reshape_58 : (decode cX0_reshape 58 = .ok (.getfield 17, 3)) ∧ (decode cX0_reshape 61 = .ok (.iload 7, 2)) ∧ (decode cX0_reshape 63 = .ok (.aload_n 0, 1)) ∧ (decode cX0_reshape 64 = .ok (.getfield 17, 3)) ∧ (decode cX0_reshape 67 = .ok (.iload 8, 2)) ∧ (decode cX0_reshape 69 = .ok (.aload_n 0, 1)) ∧ (decode cX0_reshape 70 = .ok (.getfield 26, 3)) ∧ (decode cX0_reshape 73 = .ok (.iload 7, 2)) ∧ (decode cX0_reshape 75 = .ok (.isub, 1)) ∧ (decode cX0_reshape 76 = .ok (.invokestatic 47, 3)) ∧ (decode cX0_reshape 79 = .ok (.aload_n 0, 1)) ∧ (decode cX0_reshape 80 = .ok (.getfield 17, 3)) ∧ (decode cX0_reshape 83 = .ok (.aload 5, 2)) ∧ (decode cX0_reshape 85 = .ok (.getfield 41, 3)) ∧ (decode cX0_reshape 88 = .ok (.iload 8, 2)) ∧ (decode cX0_reshape 90 = .ok (.iconst 0, 1)) := by decide +kernel
theorem dX0_reshape_58 : decode cX0_reshape 58 = .ok (.getfield 17, 3) := dq_X0_reshape_58.1
theorem dX0_reshape_61 : decode cX0_reshape 61 = .ok (.iload 7, 2) := dq_X0_reshape_58.2.1
theorem dX0_reshape_63 : decode cX0_reshape 63 = .ok (.aload_n 0, 1) := dq_X0_reshape_58.2.2.1
theorem dX0_reshape_64 : decode cX0_reshape 64 = .ok (.getfield 17, 3) := dq_X0_reshape_58.2.2.2.1
theorem dX0_reshape_67 : decode cX0_reshape 67 = .ok (.iload 8, 2) := dq_X0_reshape_58.2.2.2.2.1
theorem dX0_reshape_69 : decode cX0_reshape 69 = .ok (.aload_n 0, 1) := dq_X0_reshape_58.2.2.2.2.2.1
theorem dX0_reshape_70 : decode cX0_reshape 70 = .ok (.getfield 26, 3) := dq_X0_reshape_58.2.2.2.2.2.2.1
theorem dX0_reshape_73 : decode cX0_reshape 73 = .ok (.iload 7, 2) := dq_X0_reshape_58.2.2.2.2.2.2.2.1
theorem dX0_reshape_75 : decode cX0_reshape 75 = .ok (.isub, 1) := dq_X0_reshape_58.2.2.2.2.2.2.2.2.1
theorem dX0_reshape_76 : decode cX0_reshape 76 = .ok (.invokestatic 47, 3) := dq_X0_reshape_58.2.2.2.2.2.2.2.2.2.1
theorem dX0_reshape_79 : decode cX0_reshape 79 = .ok (.aload_n 0, 1) := dq_X0_reshape_58.2.2.2.2.2.2.2.2.2.2.1
theorem dX0_reshape_80 : decode cX0_reshape 80 = .ok (.getfield 17, 3) := dq_X0_reshape_58.2.2.2.2.2.2.2.2.2.2.2.1
theorem dX0_reshape_83 : decode cX0_reshape 83 = .ok (.aload 5, 2) := dq_X0_reshape_58.2.2.2.2.2.2.2.2.2.2.2.2.1
theorem dX0_reshape_85 : decode cX0_reshape 85 = .ok (.getfield 41, 3) := dq_X0_reshape_58.2.2.2.2.2.2.2.2.2.2.2.2.2.1
theorem dX0_reshape_88 : decode cX0_reshape 88 = .ok (.iload 8, 2) := dq_X0_reshape_58.2.2.2.2.2.2.2.2.2.2.2.2.2.2.1
theorem dX0_reshape_90 : decode cX0_reshape 90 = .ok (.iconst 0, 1) := dq_X0_reshape_58.2.2.2.2.2.2.2.2.2.2.2.2.2.2.2
theorem dq_X0_reshape_91 : (decode cX0_reshape 91 = .ok (.invokestatic 53, 3)) ∧ (decode cX0_reshape 94 = .ok (.iload_n 1, 1)) ∧ (decode cX0_reshape 95 = .ok (.iconst 1, 1)) ∧ (decode cX0_reshape 96 = .ok (.iadd, 1)) ∧ (decode cX0_reshape 97 = .ok (.istore 9, 2)) ∧ (decode cX0_reshape 99 = .ok (.iload 9, 2)) ∧ (decode cX0_reshape 101 = .ok (.bipush 31, 2)) ∧ (decode cX0_reshape 103 = .ok (.if_icmp .gt 26, 3)) ∧ (decode cX0_reshape 106 = .ok (.aload_n 0, 1)) ∧ (decode cX0_reshape 107 = .ok (.getfield 11, 3)) ∧ (decode cX0_reshape 110 = .ok (.iload 9, 2)) ∧ (decode cX0_reshape 112 = .ok (.aaload, 1)) ∧ (decode cX0_reshape 113 = .ok (.dup, 1)) ∧ (decode cX0_reshape 114 = .ok (.getfield 41, 3)) ∧ (decode cX0_reshape 117 = .ok (.iload 6, 2)) ∧ (decode cX0_reshape 119 = .ok (.iadd, 1)) := by decide +kernel
theorem dX0_reshape_91 : decode cX0_reshape 91 = .ok (.invokestatic 53, 3) := dq_X0_reshape_91.1
theorem dX0_reshape_94 : decode cX0_reshape 94 = .ok (.iload_n 1, 1) := dq_X0_reshape_91.2.1
theorem dX0_reshape_95 : decode cX0_reshape 95 = .ok (.iconst 1, 1) := dq_X0_reshape_91.2.2.1
theorem dX0_reshape_96 : decode cX0_reshape 96 = .ok (.iadd, 1) := dq_X0_reshape_91.2.2.2.1
theorem dX0_reshape_97 : decode cX0_reshape 97 = .ok (.istore 9, 2) := dq_X0_reshape_91.2.2.2.2.1
theorem dX0_reshape_99 : decode cX0_reshape 99 = .ok (.iload 9, 2) := dq_X0_reshape_91.2.2.2.2.2.1
theorem dX0_reshape_101 : decode cX0_reshape 101 = .ok (.bipush 31, 2) := dq_X0_reshape_91.2.2.2.2.2.2.1
theorem dX0_reshape_103 : decode cX0_reshape 103 = .ok (.if_icmp .gt 26, 3) := dq_X0_reshape_91.2.2.2.2.2.2.2.1
theorem dX0_reshape_106 : decode cX0_reshape 106 = .ok (.aload_n 0, 1) := dq_X0_reshape_91.2.2.2.2.2.2.2.2.1
theorem dX0_reshape_107 : decode cX0_reshape 107 = .ok (.getfield 11, 3) := dq_X0_reshape_91.2.2.2.2.2.2.2.2.2.1
theorem dX0_reshape_110 : decode cX0_reshape 110 = .ok (.iload 9, 2) := dq_X0_reshape_91.2.2.2.2.2.2.2.2.2.2.1
theorem dX0_reshape_112 : decode cX0_reshape 112 = .ok (.aaload, 1) := dq_X0_reshape_91.2.2.2.2.2.2.2.2.2.2.2.1
theorem dX0_reshape_113 : decode cX0_reshape 113 = .ok (.dup, 1) := dq_X0_reshape_91.2.2.2.2.2.2.2.2.2.2.2.2.1
theorem dX0_reshape_114 : decode cX0_reshape 114 = .ok (.getfield 41, 3) := dq_X0_reshape_91.2.2.2.2.2.2.2.2.2.2.2.2.2.1
theorem dX0_reshape_117 : decode cX0_reshape 117 = .ok (.iload 6, 2) := dq_X0_reshape_91.2.2.2.2.2.2.2.2.2.2.2.2.2.2.1
theorem dX0_reshape_119 : decode cX0_reshape 119 = .ok (.iadd, 1) := dq_X0_reshape_91.2.2.2.2.2.2.2.2.2.2.2.2.2.2.2
theorem dq_X0_reshape_120 : (decode cX0_reshape 120 = .ok (.putfield 41, 3)) ∧ (decode cX0_reshape 123 = .ok (.iinc 9 1, 3)) ∧ (decode cX0_reshape 126 = .ok (.goto (-27), 3)) ∧ (decode cX0_reshape 129 = .ok (.aload_n 0, 1)) ∧ (decode cX0_reshape 130 = .ok (.dup, 1)) ∧ (decode cX0_reshape 131 = .ok (.getfield 26, 3)) ∧ (decode cX0_reshape 134 = .ok (.iload 6, 2)) ∧ (decode cX0_reshape 136 = .ok (.iadd, 1)) ∧ (decode cX0_reshape 137 = .ok (.putfield 26, 3)) ∧ (decode cX0_reshape 140 = .ok (.aload 5, 2)) ∧ (decode cX0_reshape 142 = .ok (.iload_n 2, 1)) ∧ (decode cX0_reshape 143 = .ok (.putfield 34, 3)) ∧ (decode cX0_reshape 146 = .ok (.aload 5, 2)) ∧ (decode cX0_reshape 148 = .ok (.iload_n 3, 1)) ∧ (decode cX0_reshape 149 = .ok (.putfield 59, 3)) ∧ (decode cX0_reshape 152 = .ok (.aload 5, 2)) := by decide +kernel
theorem dX0_reshape_120 : decode cX0_reshape 120 = .ok (.putfield 41, 3) := dq_X0_reshape_120.1
theorem dX0_reshape_123 : decode cX0_reshape 123 = .ok (.iinc 9 1, 3) := dq_X0_reshape_120.2.1
theorem dX0_reshape_126 : decode cX0_reshape 126 = .ok (.goto (-27), 3) := dq_X0_reshape_120.2.2.1
theorem dX0_reshape_129 : decode cX0_reshape 129 = .ok (.aload_n 0, 1) := dq_X0_reshape_120.2.2.2.1
theorem dX0_reshape_130 : decode cX0_reshape 130 = .ok (.dup, 1) := dq_X0_reshape_120.2.2.2.2.1
theorem dX0_reshape_131 : decode cX0_reshape 131 = .ok (.getfield 26, 3) := dq_X0_reshape_120.2.2.2.2.2.1
theorem dX0_reshape_134 : decode cX0_reshape 134 = .ok (.iload 6, 2) := dq_X0_reshape_120.2.2.2.2.2.2.1
theorem dX0_reshape_136 : decode cX0_reshape 136 = .ok (.iadd, 1) := dq_X0_reshape_120.2.2.2.2.2.2.2.1
theorem dX0_reshape_137 : decode cX0_reshape 137 = .ok (.putfield 26, 3) := dq_X0_reshape_120.2.2.2.2.2.2.2.2.1
theorem dX0_reshape_140 : decode cX0_reshape 140 = .ok (.aload 5, 2) := dq_X0_reshape_120.2.2.2.2.2.2.2.2.2.1
theorem dX0_reshape_142 : decode cX0_reshape 142 = .ok (.iload_n 2, 1) := dq_X0_reshape_120.2.2.2.2.2.2.2.2.2.2.1
theorem dX0_reshape_143 : decode cX0_reshape 143 = .ok (.putfield 34, 3) := dq_X0_reshape_120.2.2.2.2.2.2.2.2.2.2.2.1
theorem dX0_reshape_146 : decode cX0_reshape 146 = .ok (.aload 5, 2) := dq_X0_reshape_120.2.2.2.2.2.2.2.2.2.2.2.2.1
theorem dX0_reshape_148 : decode cX0_reshape 148 = .ok (.iload_n 3, 1) := dq_X0_reshape_120.2.2.2.2.2.2.2.2.2.2.2.2.2.1
theorem dX0_reshape_149 : decode cX0_reshape 149 = .ok (.putfield 59, 3) := dq_X0_reshape_120.2.2.2.2.2.2.2.2.2.2.2.2.2.2.1
theorem dX0_reshape_152 : decode cX0_reshape 152 = .ok (.aload 5, 2) := dq_X0_reshape_120.2.2.2.2.2.2.2.2.2.2.2.2.2.2.2
theorem dq_X0_reshape_154 : (decode cX0_reshape 154 = .ok (.iload 4, 2)) ∧ (decode cX0_reshape 156 = .ok (.putfield 62, 3)) ∧ (decode cX0_reshape 159 = .ok (.aload 5, 2)) ∧ (decode cX0_reshape 161 = .ok (.iconst 0, 1)) ∧ (decode cX0_reshape 162 = .ok (.putfield 65, 3)) ∧ (decode cX0_reshape 165 = .ok (.aload 5, 2)) ∧ (decode cX0_reshape 167 = .ok (.iconst 0, 1)) ∧ (decode cX0_reshape 168 = .ok (.putfield 68, 3)) ∧ (decode cX0_reshape 171 = .ok (.return_, 1)) := by decide +kernel
theorem dX0_reshape_154 : decode cX0_reshape 154 = .ok (.iload 4, 2) := dq_X0_reshape_154.1
theorem dX0_reshape_156 : decode cX0_reshape 156 = .ok (.putfield 62, 3) := dq_X0_reshape_154.2.1
theorem dX0_reshape_159 : decode cX0_reshape 159 = .ok (.aload 5, 2) := dq_X0_reshape_154.2.2.1
theorem dX0_reshape_161 : decode cX0_reshape 161 = .ok (.iconst 0, 1) := dq_X0_reshape_154.2.2.2.1
theorem dX0_reshape_162 : decode cX0_reshape 162 = .ok (.putfield 65, 3) := dq_X0_reshape_154.2.2.2.2.1
theorem dX0_reshape_165 : decode cX0_reshape 165 = .ok (.aload 5, 2) := dq_X0_reshape_154.2.2.2.2.2.1
theorem dX0_reshape_167 : decode cX0_reshape 167 = .ok (.iconst 0, 1) := dq_X0_reshape_154.2.2.2.2.2.2.1
theorem dX0_reshape_168 : decode cX0_reshape 168 = .ok (.putfield 68, 3) := dq_X0_reshape_154.2.2.2.2.2.2.2.1
theorem dX0_reshape_171 : decode cX0_reshape 171 = .ok (.return_, 1) := dq_X0_reshape_154.2.2.2.2.2.2.2.2
theorem dq_X0_getByte_0 : (decode cX0_getByte 0 = .ok (.aload_n 1, 1)) ∧ (decode cX0_getByte 1 = .ok (.getfield 41, 3)) ∧ (decode cX0_getByte 4 = .ok (.iload_n 2, 1)) ∧ (decode cX0_getByte 5 = .ok (.iadd, 1)) ∧ (decode cX0_getByte 6 = .ok (.istore_n 3, 1)) ∧ (decode cX0_getByte 7 = .ok (.iload_n 3, 1)) ∧ (decode cX0_getByte 8 = .ok (.sipush 4000, 3)) ∧ (decode cX0_getByte 11 = .ok (.invokestatic 71, 3)) ∧ (decode cX0_getByte 14 = .ok (.ifCond .eq 12, 3)) ∧ (decode cX0_getByte 17 = .ok (.aload_n 0, 1)) ∧ (decode cX0_getByte 18 = .ok (.getfield 17, 3)) ∧ (decode cX0_getByte 21 = .ok (.iload_n 3, 1)) ∧ (decode cX0_getByte 22 = .ok (.baload, 1)) ∧ (decode cX0_getByte 23 = .ok (.goto 4, 3)) ∧ (decode cX0_getByte 26 = .ok (.iconst 0, 1)) ∧ (decode cX0_getByte 27 = .ok (.ireturn, 1)) := by decide +kernel
theorem dX0_getByte_0 : decode cX0_getByte 0 = .ok (.aload_n 1, 1) := dq_X0_getByte_0.1
theorem dX0_getByte_1 : decode cX0_getByte 1 = .ok (.getfield 41, 3) := dq_X0_getByte_0.2.1
theorem dX0_getByte_4 : decode cX0_getByte 4 = .ok (.iload_n 2, 1) := dq_X0_getByte_0.2.2.1
theorem dX0_getByte_5 : decode cX0_getByte 5 = .ok (.iadd, 1) := dq_X0_getByte_0.2.2.2.1
theorem dX0_getByte_6 : decode cX0_getByte 6 = .ok (.istore_n 3, 1) := dq_X0_getByte_0.2.2.2.2.1
theorem dX0_getByte_7 : decode cX0_getByte 7 = .ok (.iload_n 3, 1) := dq_X0_getByte_0.2.2.2.2.2.1
theorem dX0_getByte_8 : decode cX0_getByte 8 = .ok (.sipush 4000, 3) := dq_X0_getByte_0.2.2.2.2.2.2.1
theorem dX0_getByte_11 : decode cX0_getByte 11 = .ok (.invokestatic 71, 3) := dq_X0_getByte_0.2.2.2.2.2.2.2.1
theorem dX0_getByte_14 : decode cX0_getByte 14 = .ok (.ifCond .eq 12, 3) := dq_X0_getByte_0.2.2.2.2.2.2.2.2.1
theorem dX0_getByte_17 : decode cX0_getByte 17 = .ok (.aload_n 0, 1) := dq_X0_getByte_0.2.2.2.2.2.2.2.2.2.1
theorem dX0_getByte_18 : decode cX0_getByte 18 = .ok (.getfield 17, 3) := dq_X0_getByte_0.2.2.2.2.2.2.2.2.2.2.1
theorem dX0_getByte_21 : decode cX0_getByte 21 = .ok (.iload_n 3, 1) := dq_X0_getByte_0.2.2.2.2.2.2.2.2.2.2.2.1
theorem dX0_getByte_22 : decode cX0_getByte 22 = .ok (.baload, 1) := dq_X0_getByte_0.2.2.2.2.2.2.2.2.2.2.2.2.1
theorem dX0_getByte_23 : decode cX0_getByte 23 = .ok (.goto 4, 3) := dq_X0_getByte_0.2.2.2.2.2.2.2.2.2.2.2.2.2.1
theorem dX0_getByte_26 : decode cX0_getByte 26 = .ok (.iconst 0, 1) := dq_X0_getByte_0.2.2.2.2.2.2.2.2.2.2.2.2.2.2.1
theorem dX0_getByte_27 : decode cX0_getByte 27 = .ok (.ireturn, 1) := dq_X0_getByte_0.2.2.2.2.2.2.2.2.2.2.2.2.2.2.2
theorem dq_X0_putByte_0 : (decode cX0_putByte 0 = .ok (.aload_n 1, 1)) ∧ (decode cX0_putByte 1 = .ok (.getfield 41, 3)) ∧ (decode cX0_putByte 4 = .ok (.iload_n 2, 1)) ∧ (decode cX0_putByte 5 = .ok (.iadd, 1)) ∧ (decode cX0_putByte 6 = .ok (.istore 4, 2)) ∧ (decode cX0_putByte 8 = .ok (.iload 4, 2)) ∧ (decode cX0_putByte 10 = .ok (.sipush 4000, 3)) ∧ (decode cX0_putByte 13 = .ok (.invokestatic 71, 3)) ∧ (decode cX0_putByte 16 = .ok (.ifCond .eq 12, 3)) ∧ (decode cX0_putByte 19 = .ok (.aload_n 0, 1)) ∧ (decode cX0_putByte 20 = .ok (.getfield 17, 3)) ∧ (decode cX0_putByte 23 = .ok (.iload 4, 2)) ∧ (decode cX0_putByte 25 = .ok (.iload_n 3, 1)) ∧ (decode cX0_putByte 26 = .ok (.i2b, 1)) ∧ (decode cX0_putByte 27 = .ok (.bastore, 1)) ∧ (decode cX0_putByte 28 = .ok (.return_, 1)) := by decide +kernel
theorem dX0_putByte_0 : decode cX0_putByte 0 = .ok (.aload_n 1, 1) := dq_X0_putByte_0.1
theorem dX0_putByte_1 : decode cX0_putByte 1 = .ok (.getfield 41, 3) := dq_X0_putByte_0.2.1
theorem dX0_putByte_4 : decode cX0_putByte 4 = .ok (.iload_n 2, 1) := dq_X0_putByte_0.2.2.1
theorem dX0_putByte_5 : decode cX0_putByte 5 = .ok (.iadd, 1) := dq_X0_putByte_0.2.2.2.1
theorem dX0_putByte_6 : decode cX0_putByte 6 = .ok (.istore 4, 2) := dq_X0_putByte_0.2.2.2.2.1
theorem dX0_putByte_8 : decode cX0_putByte 8 = .ok (.iload 4, 2) := dq_X0_putByte_0.2.2.2.2.2.1
theorem dX0_putByte_10 : decode cX0_putByte 10 = .ok (.sipush 4000, 3) := dq_X0_putByte_0.2.2.2.2.2.2.1
theorem dX0_putByte_13 : decode cX0_putByte 13 = .ok (.invokestatic 71, 3) := dq_X0_putByte_0.2.2.2.2.2.2.2.1
theorem dX0_putByte_16 : decode cX0_putByte 16 = .ok (.ifCond .eq 12, 3) := dq_X0_putByte_0.2.2.2.2.2.2.2.2.1
theorem dX0_putByte_19 : decode cX0_putByte 19 = .ok (.aload_n 0, 1) := dq_X0_putByte_0.2.2.2.2.2.2.2.2.2.1
theorem dX0_putByte_20 : decode cX0_putByte 20 = .ok (.getfield 17, 3) := dq_X0_putByte_0.2.2.2.2.2.2.2.2.2.2.1
theorem dX0_putByte_23 : decode cX0_putByte 23 = .ok (.iload 4, 2) := dq_X0_putByte_0.2.2.2.2.2.2.2.2.2.2.2.1
theorem dX0_putByte_25 : decode cX0_putByte 25 = .ok (.iload_n 3, 1) := dq_X0_putByte_0.2.2.2.2.2.2.2.2.2.2.2.2.1
theorem dX0_putByte_26 : decode cX0_putByte 26 = .ok (.i2b, 1) := dq_X0_putByte_0.2.2.2.2.2.2.2.2.2.2.2.2.2.1
theorem dX0_putByte_27 : decode cX0_putByte 27 = .ok (.bastore, 1) := dq_X0_putByte_0.2.2.2.2.2.2.2.2.2.2.2.2.2.2.1
theorem dX0_putByte_28 : decode cX0_putByte 28 = .ok (.return_, 1) := dq_X0_putByte_0.2.2.2.2.2.2.2.2.2.2.2.2.2.2.2
theorem dq_X1_init_0 : (decode cX1_init 0 = .ok (.aload_n 0, 1)) ∧ (decode cX1_init 1 = .ok (.invokespecial 3, 3)) ∧ (decode cX1_init 4 = .ok (.aload_n 0, 1)) ∧ (decode cX1_init 5 = .ok (.new 9, 3)) ∧ (decode cX1_init 8 = .ok (.dup, 1)) ∧ (decode cX1_init 9 = .ok (.invokespecial 11, 3)) ∧ (decode cX1_init 12 = .ok (.putfield 12, 3)) ∧ (decode cX1_init 15 = .ok (.aload_n 0, 1)) ∧ (decode cX1_init 16 = .ok (.new 9, 3)) ∧ (decode cX1_init 19 = .ok (.dup, 1)) ∧ (decode cX1_init 20 = .ok (.invokespecial 11, 3)) ∧ (decode cX1_init 23 = .ok (.putfield 18, 3)) ∧ (decode cX1_init 26 = .ok (.aload_n 0, 1)) ∧ (decode cX1_init 27 = .ok (.aload_n 1, 1)) ∧ (decode cX1_init 28 = .ok (.putfield 21, 3)) ∧ (decode cX1_init 31 = .ok (.return_, 1)) := by decide +kernel
theorem dX1_init_0 : decode cX1_init 0 = .ok (.aload_n 0, 1) := dq_X1_init_0.1
theorem dX1_init_1 : decode cX1_init 1 = .ok (.invokespecial 3, 3) := dq_X1_init_0.2.1
theorem dX1_init_4 : decode cX1_init 4 = .ok (.aload_n 0, 1) := dq_X1_init_0.2.2.1
theorem dX1_init_5 : decode cX1_init 5 = .ok (.new 9, 3) := dq_X1_init_0.2.2.2.1
theorem dX1_init_8 : decode cX1_init 8 = .ok (.dup, 1) := dq_X1_init_0.2.2.2.2.1
theorem dX1_init_9 : decode cX1_init 9 = .ok (.invokespecial 11, 3) := dq_X1_init_0.2.2.2.2.2.1
theorem dX1_init_12 : decode cX1_init 12 = .ok (.putfield 12, 3) := dq_X1_init_0.2.2.2.2.2.2.1
theorem dX1_init_15 : decode cX1_init 15 = .ok (.aload_n 0, 1) := dq_X1_init_0.2.2.2.2.2.2.2.1
theorem dX1_init_16 : decode cX1_init 16 = .ok (.new 9, 3) := dq_X1_init_0.2.2.2.2.2.2.2.2.1
theorem dX1_init_19 : decode cX1_init 19 = .ok (.dup, 1) := dq_X1_init_0.2.2.2.2.2.2.2.2.2.1
theorem dX1_init_20 : decode cX1_init 20 = .ok (.invokespecial 11, 3) := dq_X1_init_0.2.2.2.2.2.2.2.2.2.2.1
theorem dX1_init_23 : decode cX1_init 23 = .ok (.putfield 18, 3) := dq_X1_init_0.2.2.2.2.2.2.2.2.2.2.2.1
theorem dX1_init_26 : decode cX1_init 26 = .ok (.aload_n 0, 1) := dq_X1_init_0.2.2.2.2.2.2.2.2.2.2.2.2.1
theorem dX1_init_27 : decode cX1_init 27 = .ok (.aload_n 1, 1) := dq_X1_init_0.2.2.2.2.2.2.2.2.2.2.2.2.2.1
theorem dX1_init_28 : decode cX1_init 28 = .ok (.putfield 21, 3) := dq_X1_init_0.2.2.2.2.2.2.2.2.2.2.2.2.2.2.1
theorem dX1_init_31 : decode cX1_init 31 = .ok (.return_, 1) := dq_X1_init_0.2.2.2.2.2.2.2.2.2.2.2.2.2.2.2
theorem dq_X1_rewind_0 : (decode cX1_rewind 0 = .ok (.aload_n 0, 1)) ∧ (decode cX1_rewind 1 = .ok (.getfield 12, 3)) ∧ (decode cX1_rewind 4 = .ok (.invokevirtual 25, 3)) ∧ (decode cX1_rewind 7 = .ok (.aload_n 0, 1)) ∧ (decode cX1_rewind 8 = .ok (.getfield 18, 3)) ∧ (decode cX1_rewind 11 = .ok (.invokevirtual 25, 3)) ∧ (decode cX1_rewind 14 = .ok (.aload_n 0, 1)) ∧ (decode cX1_rewind 15 = .ok (.iconst 0, 1)) ∧ (decode cX1_rewind 16 = .ok (.putfield 28, 3)) ∧ (decode cX1_rewind 19 = .ok (.aload_n 0, 1)) ∧ (decode cX1_rewind 20 = .ok (.iconst 0, 1)) ∧ (decode cX1_rewind 21 = .ok (.putfield 32, 3)) ∧ (decode cX1_rewind 24 = .ok (.aload_n 0, 1)) ∧ (decode cX1_rewind 25 = .ok (.iconst 0, 1)) ∧ (decode cX1_rewind 26 = .ok (.putfield 35, 3)) ∧ (decode cX1_rewind 29 = .ok (.aload_n 0, 1)) := by decide +kernel
theorem dX1_rewind_0 : decode cX1_rewind 0 = .ok (.aload_n 0, 1) := dq_X1_rewind_0.1
theorem dX1_rewind_1 : decode cX1_rewind 1 = .ok (.getfield 12, 3) := dq_X1_rewind_0.2.1
theorem dX1_rewind_4 : decode cX1_rewind 4 = .ok (.invokevirtual 25, 3) := dq_X1_rewind_0.2.2.1
theorem dX1_rewind_7 : decode cX1_rewind 7 = .ok (.aload_n 0, 1) := dq_X1_rewind_0.2.2.2.1
theorem dX1_rewind_8 : decode cX1_rewind 8 = .ok (.getfield 18, 3) := dq_X1_rewind_0.2.2.2.2.1
theorem dX1_rewind_11 : decode cX1_rewind 11 = .ok (.invokevirtual 25, 3) := dq_X1_rewind_0.2.2.2.2.2.1
theorem dX1_rewind_14 : decode cX1_rewind 14 = .ok (.aload_n 0, 1) := dq_X1_rewind_0.2.2.2.2.2.2.1
theorem dX1_rewind_15 : decode cX1_rewind 15 = .ok (.iconst 0, 1) := dq_X1_rewind_0.2.2.2.2.2.2.2.1
theorem dX1_rewind_16 : decode cX1_rewind 16 = .ok (.putfield 28, 3) := dq_X1_rewind_0.2.2.2.2.2.2.2.2.1
theorem dX1_rewind_19 : decode cX1_rewind 19 = .ok (.aload_n 0, 1) := dq_X1_rewind_0.2.2.2.2.2.2.2.2.2.1
theorem dX1_rewind_20 : decode cX1_rewind 20 = .ok (.iconst 0, 1) := dq_X1_rewind_0.2.2.2.2.2.2.2.2.2.2.1
theorem dX1_rewind_21 : decode cX1_rewind 21 = .ok (.putfield 32, 3) := dq_X1_rewind_0.2.2.2.2.2.2.2.2.2.2.2.1
theorem dX1_rewind_24 : decode cX1_rewind 24 = .ok (.aload_n 0, 1) := dq_X1_rewind_0.2.2.2.2.2.2.2.2.2.2.2.2.1
theorem dX1_rewind_25 : decode cX1_rewind 25 = .ok (.iconst 0, 1) := dq_X1_rewind_0.2.2.2.2.2.2.2.2.2.2.2.2.2.1
theorem dX1_rewind_26 : decode cX1_rewind 26 = .ok (.putfield 35, 3) := dq_X1_rewind_0.2.2.2.2.2.2.2.2.2.2.2.2.2.2.1
theorem dX1_rewind_29 : decode cX1_rewind 29 = .ok (.aload_n 0, 1) := dq_X1_rewind_0.2.2.2.2.2.2.2.2.2.2.2.2.2.2.2
theorem dq_X1_rewind_30 : (decode cX1_rewind 30 = .ok (.iconst 0, 1)) ∧ (decode cX1_rewind 31 = .ok (.putfield 38, 3)) ∧ (decode cX1_rewind 34 = .ok (.aload_n 0, 1)) ∧ (decode cX1_rewind 35 = .ok (.iconst 0, 1)) ∧ (decode cX1_rewind 36 = .ok (.putfield 41, 3)) ∧ (decode cX1_rewind 39 = .ok (.aload_n 0, 1)) ∧ (decode cX1_rewind 40 = .ok (.iconst 0, 1)) ∧ (decode cX1_rewind 41 = .ok (.putfield 44, 3)) ∧ (decode cX1_rewind 44 = .ok (.aload_n 0, 1)) ∧ (decode cX1_rewind 45 = .ok (.iconst 0, 1)) ∧ (decode cX1_rewind 46 = .ok (.putfield 47, 3)) ∧ (decode cX1_rewind 49 = .ok (.aload_n 0, 1)) ∧ (decode cX1_rewind 50 = .ok (.iconst 0, 1)) ∧ (decode cX1_rewind 51 = .ok (.putfield 50, 3)) ∧ (decode cX1_rewind 54 = .ok (.aload_n 0, 1)) ∧ (decode cX1_rewind 55 = .ok (.iconst 0, 1)) := by decide +kernel
theorem dX1_rewind_30 : decode cX1_rewind 30 = .ok (.iconst 0, 1) := dq_X1_rewind_30.1
theorem dX1_rewind_31 : decode cX1_rewind 31 = .ok (.putfield 38, 3) := dq_X1_rewind_30.2.1
theorem dX1_rewind_34 : decode cX1_rewind 34 = .ok (.aload_n 0, 1) := dq_X1_rewind_30.2.2.1
theorem dX1_rewind_35 : decode cX1_rewind 35 = .ok (.iconst 0, 1) := dq_X1_rewind_30.2.2.2.1
theorem dX1_rewind_36 : decode cX1_rewind 36 = .ok (.putfield 41, 3) := dq_X1_rewind_30.2.2.2.2.1
theorem dX1_rewind_39 : decode cX1_rewind 39 = .ok (.aload_n 0, 1) := dq_X1_rewind_30.2.2.2.2.2.1
theorem dX1_rewind_40 : decode cX1_rewind 40 = .ok (.iconst 0, 1) := dq_X1_rewind_30.2.2.2.2.2.2.1
theorem dX1_rewind_41 : decode cX1_rewind 41 = .ok (.putfield 44, 3) := dq_X1_rewind_30.2.2.2.2.2.2.2.1
theorem dX1_rewind_44 : decode cX1_rewind 44 = .ok (.aload_n 0, 1) := dq_X1_rewind_30.2.2.2.2.2.2.2.2.1
theorem dX1_rewind_45 : decode cX1_rewind 45 = .ok (.iconst 0, 1) := dq_X1_rewind_30.2.2.2.2.2.2.2.2.2.1
theorem dX1_rewind_46 : decode cX1_rewind 46 = .ok (.putfield 47, 3) := dq_X1_rewind_30.2.2.2.2.2.2.2.2.2.2.1
theorem dX1_rewind_49 : decode cX1_rewind 49 = .ok (.aload_n 0, 1) := dq_X1_rewind_30.2.2.2.2.2.2.2.2.2.2.2.1
theorem dX1_rewind_50 : decode cX1_rewind 50 = .ok (.iconst 0, 1) := dq_X1_rewind_30.2.2.2.2.2.2.2.2.2.2.2.2.1
theorem dX1_rewind_51 : decode cX1_rewind 51 = .ok (.putfield 50, 3) := dq_X1_rewind_30.2.2.2.2.2.2.2.2.2.2.2.2.2.1
theorem dX1_rewind_54 : decode cX1_rewind 54 = .ok (.aload_n 0, 1) := dq_X1_rewind_30.2.2.2.2.2.2.2.2.2.2.2.2.2.2.1
theorem dX1_rewind_55 : decode cX1_rewind 55 = .ok (.iconst 0, 1) := dq_X1_rewind_30.2.2.2.2.2.2.2.2.2.2.2.2.2.2.2
theorem dq_X1_rewind_56 : (decode cX1_rewind 56 = .ok (.putfield 53, 3)) ∧ (decode cX1_rewind 59 = .ok (.aload_n 0, 1)) ∧ (decode cX1_rewind 60 = .ok (.iconst 0, 1)) ∧ (decode cX1_rewind 61 = .ok (.putfield 56, 3)) ∧ (decode cX1_rewind 64 = .ok (.aload_n 0, 1)) ∧ (decode cX1_rewind 65 = .ok (.iconst 0, 1)) ∧ (decode cX1_rewind 66 = .ok (.putfield 59, 3)) ∧ (decode cX1_rewind 69 = .ok (.aload_n 0, 1)) ∧ (decode cX1_rewind 70 = .ok (.iconst 0, 1)) ∧ (decode cX1_rewind 71 = .ok (.putfield 62, 3)) ∧ (decode cX1_rewind 74 = .ok (.aload_n 0, 1)) ∧ (decode cX1_rewind 75 = .ok (.iconst 0, 1)) ∧ (decode cX1_rewind 76 = .ok (.putfield 65, 3)) ∧ (decode cX1_rewind 79 = .ok (.aload_n 0, 1)) ∧ (decode cX1_rewind 80 = .ok (.lconst 0, 1)) ∧ (decode cX1_rewind 81 = .ok (.putfield 68, 3)) := by decide +kernel
theorem dX1_rewind_56 : decode cX1_rewind 56 = .ok (.putfield 53, 3) := dq_X1_rewind_56.1
theorem dX1_rewind_59 : decode cX1_rewind 59 = .ok (.aload_n 0, 1) := dq_X1_rewind_56.2.1
theorem dX1_rewind_60 : decode cX1_rewind 60 = .ok (.iconst 0, 1) := dq_X1_rewind_56.2.2.1
theorem dX1_rewind_61 : decode cX1_rewind 61 = .ok (.putfield 56, 3) := dq_X1_rewind_56.2.2.2.1
theorem dX1_rewind_64 : decode cX1_rewind 64 = .ok (.aload_n 0, 1) := dq_X1_rewind_56.2.2.2.2.1
theorem dX1_rewind_65 : decode cX1_rewind 65 = .ok (.iconst 0, 1) := dq_X1_rewind_56.2.2.2.2.2.1
theorem dX1_rewind_66 : decode cX1_rewind 66 = .ok (.putfield 59, 3) := dq_X1_rewind_56.2.2.2.2.2.2.1
theorem dX1_rewind_69 : decode cX1_rewind 69 = .ok (.aload_n 0, 1) := dq_X1_rewind_56.2.2.2.2.2.2.2.1
theorem dX1_rewind_70 : decode cX1_rewind 70 = .ok (.iconst 0, 1) := dq_X1_rewind_56.2.2.2.2.2.2.2.2.1
theorem dX1_rewind_71 : decode cX1_rewind 71 = .ok (.putfield 62, 3) := dq_X1_rewind_56.2.2.2.2.2.2.2.2.2.1
theorem dX1_rewind_74 : decode cX1_rewind 74 = .ok (.aload_n 0, 1) := dq_X1_rewind_56.2.2.2.2.2.2.2.2.2.2.1
theorem dX1_rewind_75 : decode cX1_rewind 75 = .ok (.iconst 0, 1) := dq_X1_rewind_56.2.2.2.2.2.2.2.2.2.2.2.1
theorem dX1_rewind_76 : decode cX1_rewind 76 = .ok (.putfield 65, 3) := dq_X1_rewind_56.2.2.2.2.2.2.2.2.2.2.2.2.1
theorem dX1_rewind_79 : decode cX1_rewind 79 = .ok (.aload_n 0, 1) := dq_X1_rewind_56.2.2.2.2.2.2.2.2.2.2.2.2.2.1
theorem dX1_rewind_80 : decode cX1_rewind 80 = .ok (.lconst 0, 1) := dq_X1_rewind_56.2.2.2.2.2.2.2.2.2.2.2.2.2.2.1
theorem dX1_rewind_81 : decode cX1_rewind 81 = .ok (.putfield 68, 3) := dq_X1_rewind_56.2.2.2.2.2.2.2.2.2.2.2.2.2.2.2
theorem dq_X1_rewind_84 : (decode cX1_rewind 84 = .ok (.aload_n 0, 1)) ∧ (decode cX1_rewind 85 = .ok (.iconst 0, 1)) ∧ (decode cX1_rewind 86 = .ok (.putfield 72, 3)) ∧ (decode cX1_rewind 89 = .ok (.return_, 1)) := by decide +kernel
theorem dX1_rewind_84 : decode cX1_rewind 84 = .ok (.aload_n 0, 1) := dq_X1_rewind_84.1
theorem dX1_rewind_85 : decode cX1_rewind 85 = .ok (.iconst 0, 1) := dq_X1_rewind_84.2.1
theorem dX1_rewind_86 : decode cX1_rewind 86 = .ok (.putfield 72, 3) := dq_X1_rewind_84.2.2.1
theorem dX1_rewind_89 : decode cX1_rewind 89 = .ok (.return_, 1) := dq_X1_rewind_84.2.2.2
theorem dq_X1_cellPeriod_0 : (decode cX1_cellPeriod 0 = .ok (.aload_n 0, 1)) ∧ (decode cX1_cellPeriod 1 = .ok (.getfield 28, 3)) ∧ (decode cX1_cellPeriod 4 = .ok (.bipush 17, 2)) ∧ (decode cX1_cellPeriod 6 = .ok (.ishr, 1)) ∧ (decode cX1_cellPeriod 7 = .ok (.ireturn, 1)) := by decide +kernel
theorem dX1_cellPeriod_0 : decode cX1_cellPeriod 0 = .ok (.aload_n 0, 1) := dq_X1_cellPeriod_0.1
theorem dX1_cellPeriod_1 : decode cX1_cellPeriod 1 = .ok (.getfield 28, 3) := dq_X1_cellPeriod_0.2.1
theorem dX1_cellPeriod_4 : decode cX1_cellPeriod 4 = .ok (.bipush 17, 2) := dq_X1_cellPeriod_0.2.2.1
theorem dX1_cellPeriod_6 : decode cX1_cellPeriod 6 = .ok (.ishr, 1) := dq_X1_cellPeriod_0.2.2.2.1
theorem dX1_cellPeriod_7 : decode cX1_cellPeriod 7 = .ok (.ireturn, 1) := dq_X1_cellPeriod_0.2.2.2.2
theorem dq_X1_effect_0 : (decode cX1_effect 0 = .ok (.aload_n 0, 1)) ∧ (decode cX1_effect 1 = .ok (.getfield 28, 3)) ∧ (decode cX1_effect 4 = .ok (.bipush 8, 2)) ∧ (decode cX1_effect 6 = .ok (.ishr, 1)) ∧ (decode cX1_effect 7 = .ok (.bipush 15, 2)) ∧ (decode cX1_effect 9 = .ok (.iand, 1)) ∧ (decode cX1_effect 10 = .ok (.ireturn, 1)) := by decide +kernel
theorem dX1_effect_0 : decode cX1_effect 0 = .ok (.aload_n 0, 1) := dq_X1_effect_0.1
theorem dX1_effect_1 : decode cX1_effect 1 = .ok (.getfield 28, 3) := dq_X1_effect_0.2.1
theorem dX1_effect_4 : decode cX1_effect 4 = .ok (.bipush 8, 2) := dq_X1_effect_0.2.2.1
theorem dX1_effect_6 : decode cX1_effect 6 = .ok (.ishr, 1) := dq_X1_effect_0.2.2.2.1
theorem dX1_effect_7 : decode cX1_effect 7 = .ok (.bipush 15, 2) := dq_X1_effect_0.2.2.2.2.1
theorem dX1_effect_9 : decode cX1_effect 9 = .ok (.iand, 1) := dq_X1_effect_0.2.2.2.2.2.1
theorem dX1_effect_10 : decode cX1_effect 10 = .ok (.ireturn, 1) := dq_X1_effect_0.2.2.2.2.2.2
theorem dq_X1_number_0 : (decode cX1_number 0 = .ok (.aload_n 0, 1)) ∧ (decode cX1_number 1 = .ok (.getfield 28, 3)) ∧ (decode cX1_number 4 = .ok (.sipush 255, 3)) ∧ (decode cX1_number 7 = .ok (.iand, 1)) ∧ (decode cX1_number 8 = .ok (.ireturn, 1)) := by decide +kernel
theorem dX1_number_0 : decode cX1_number 0 = .ok (.aload_n 0, 1) := dq_X1_number_0.1
theorem dX1_number_1 : decode cX1_number 1 = .ok (.getfield 28, 3) := dq_X1_number_0.2.1
theorem dX1_number_4 : decode cX1_number 4 = .ok (.sipush 255, 3) := dq_X1_number_0.2.2.1
theorem dX1_number_7 : decode cX1_number 7 = .ok (.iand, 1) := dq_X1_number_0.2.2.2.1
theorem dX1_number_8 : decode cX1_number 8 = .ok (.ireturn, 1) := dq_X1_number_0.2.2.2.2
theorem dq_X1_x_0 : (decode cX1_x 0 = .ok (.aload_n 0, 1)) ∧ (decode cX1_x 1 = .ok (.getfield 28, 3)) ∧ (decode cX1_x 4 = .ok (.iconst 4, 1)) ∧ (decode cX1_x 5 = .ok (.ishr, 1)) ∧ (decode cX1_x 6 = .ok (.bipush 15, 2)) ∧ (decode cX1_x 8 = .ok (.iand, 1)) ∧ (decode cX1_x 9 = .ok (.ireturn, 1)) := by decide +kernel
theorem dX1_x_0 : decode cX1_x 0 = .ok (.aload_n 0, 1) := dq_X1_x_0.1
theorem dX1_x_1 : decode cX1_x 1 = .ok (.getfield 28, 3) := dq_X1_x_0.2.1
theorem dX1_x_4 : decode cX1_x 4 = .ok (.iconst 4, 1) := dq_X1_x_0.2.2.1
theorem dX1_x_5 : decode cX1_x 5 = .ok (.ishr, 1) := dq_X1_x_0.2.2.2.1
theorem dX1_x_6 : decode cX1_x 6 = .ok (.bipush 15, 2) := dq_X1_x_0.2.2.2.2.1
theorem dX1_x_8 : decode cX1_x 8 = .ok (.iand, 1) := dq_X1_x_0.2.2.2.2.2.1
theorem dX1_x_9 : decode cX1_x 9 = .ok (.ireturn, 1) := dq_X1_x_0.2.2.2.2.2.2
theorem dq_X1_y_0 : (decode cX1_y 0 = .ok (.aload_n 0, 1)) ∧ (decode cX1_y 1 = .ok (.getfield 28, 3)) ∧ (decode cX1_y 4 = .ok (.bipush 15, 2)) ∧ (decode cX1_y 6 = .ok (.iand, 1)) ∧ (decode cX1_y 7 = .ok (.ireturn, 1)) := by decide +kernel
theorem dX1_y_0 : decode cX1_y 0 = .ok (.aload_n 0, 1) := dq_X1_y_0.1
theorem dX1_y_1 : decode cX1_y 1 = .ok (.getfield 28, 3) := dq_X1_y_0.2.1
theorem dX1_y_4 : decode cX1_y 4 = .ok (.bipush 15, 2) := dq_X1_y_0.2.2.1
theorem dX1_y_6 : decode cX1_y 6 = .ok (.iand, 1) := dq_X1_y_0.2.2.2.1
theorem dX1_y_7 : decode cX1_y 7 = .ok (.ireturn, 1) := dq_X1_y_0.2.2.2.2
theorem dq_X1_act_0 : (decode cX1_act 0 = .ok (.aload_n 1, 1)) ∧ (decode cX1_act 1 = .ok (.getfield 76, 3)) ∧ (decode cX1_act 4 = .ok (.istore_n 2, 1)) ∧ (decode cX1_act 5 = .ok (.iload_n 2, 1)) ∧ (decode cX1_act 6 = .ok (.aload_n 0, 1)) ∧ (decode cX1_act 7 = .ok (.invokevirtual 81, 3)) ∧ (decode cX1_act 10 = .ok (.if_icmp .ne 7, 3)) ∧ (decode cX1_act 13 = .ok (.aload_n 0, 1)) ∧ (decode cX1_act 14 = .ok (.invokevirtual 85, 3)) ∧ (decode cX1_act 17 = .ok (.iload_n 2, 1)) ∧ (decode cX1_act 18 = .ok (.ifCond .ne 11, 3)) ∧ (decode cX1_act 21 = .ok (.aload_n 0, 1)) ∧ (decode cX1_act 22 = .ok (.aload_n 1, 1)) ∧ (decode cX1_act 23 = .ok (.invokevirtual 88, 3)) ∧ (decode cX1_act 26 = .ok (.goto 7, 3)) ∧ (decode cX1_act 29 = .ok (.aload_n 0, 1)) := by decide +kernel
theorem dX1_act_0 : decode cX1_act 0 = .ok (.aload_n 1, 1) := dq_X1_act_0.1
theorem dX1_act_1 : decode cX1_act 1 = .ok (.getfield 76, 3) := dq_X1_act_0.2.1
theorem dX1_act_4 : decode cX1_act 4 = .ok (.istore_n 2, 1) := dq_X1_act_0.2.2.1
theorem dX1_act_5 : decode cX1_act 5 = .ok (.iload_n 2, 1) := dq_X1_act_0.2.2.2.1
theorem dX1_act_6 : decode cX1_act 6 = .ok (.aload_n 0, 1) := dq_X1_act_0.2.2.2.2.1
theorem dX1_act_7 : decode cX1_act 7 = .ok (.invokevirtual 81, 3) := dq_X1_act_0.2.2.2.2.2.1
theorem dX1_act_10 : decode cX1_act 10 = .ok (.if_icmp .ne 7, 3) := dq_X1_act_0.2.2.2.2.2.2.1
theorem dX1_act_13 : decode cX1_act 13 = .ok (.aload_n 0, 1) := dq_X1_act_0.2.2.2.2.2.2.2.1
theorem dX1_act_14 : decode cX1_act 14 = .ok (.invokevirtual 85, 3) := dq_X1_act_0.2.2.2.2.2.2.2.2.1
theorem dX1_act_17 : decode cX1_act 17 = .ok (.iload_n 2, 1) := dq_X1_act_0.2.2.2.2.2.2.2.2.2.1
theorem dX1_act_18 : decode cX1_act 18 = .ok (.ifCond .ne 11, 3) := dq_X1_act_0.2.2.2.2.2.2.2.2.2.2.1
theorem dX1_act_21 : decode cX1_act 21 = .ok (.aload_n 0, 1) := dq_X1_act_0.2.2.2.2.2.2.2.2.2.2.2.1
theorem dX1_act_22 : decode cX1_act 22 = .ok (.aload_n 1, 1) := dq_X1_act_0.2.2.2.2.2.2.2.2.2.2.2.2.1
theorem dX1_act_23 : decode cX1_act 23 = .ok (.invokevirtual 88, 3) := dq_X1_act_0.2.2.2.2.2.2.2.2.2.2.2.2.2.1
theorem dX1_act_26 : decode cX1_act 26 = .ok (.goto 7, 3) := dq_X1_act_0.2.2.2.2.2.2.2.2.2.2.2.2.2.2.1
theorem dX1_act_29 : decode cX1_act 29 = .ok (.aload_n 0, 1) := dq_X1_act_0.2.2.2.2.2.2.2.2.2.2.2.2.2.2.2
theorem dq_X1_act_30 : (decode cX1_act 30 = .ok (.invokevirtual 92, 3)) ∧ (decode cX1_act 33 = .ok (.aload_n 0, 1)) ∧ (decode cX1_act 34 = .ok (.invokevirtual 95, 3)) ∧ (decode cX1_act 37 = .ok (.bipush 14, 2)) ∧ (decode cX1_act 39 = .ok (.if_icmp .ne 8, 3)) ∧ (decode cX1_act 42 = .ok (.aload_n 0, 1)) ∧ (decode cX1_act 43 = .ok (.iload_n 2, 1)) ∧ (decode cX1_act 44 = .ok (.invokevirtual 98, 3)) ∧ (decode cX1_act 47 = .ok (.aload_n 0, 1)) ∧ (decode cX1_act 48 = .ok (.aload_n 0, 1)) ∧ (decode cX1_act 49 = .ok (.getfield 41, 3)) ∧ (decode cX1_act 52 = .ok (.putfield 62, 3)) ∧ (decode cX1_act 55 = .ok (.aload_n 0, 1)) ∧ (decode cX1_act 56 = .ok (.aload_n 0, 1)) ∧ (decode cX1_act 57 = .ok (.getfield 35, 3)) ∧ (decode cX1_act 60 = .ok (.putfield 65, 3)) := by decide +kernel
theorem dX1_act_30 : decode cX1_act 30 = .ok (.invokevirtual 92, 3) := dq_X1_act_30.1
theorem dX1_act_33 : decode cX1_act 33 = .ok (.aload_n 0, 1) := dq_X1_act_30.2.1
theorem dX1_act_34 : decode cX1_act 34 = .ok (.invokevirtual 95, 3) := dq_X1_act_30.2.2.1
theorem dX1_act_37 : decode cX1_act 37 = .ok (.bipush 14, 2) := dq_X1_act_30.2.2.2.1
theorem dX1_act_39 : decode cX1_act 39 = .ok (.if_icmp .ne 8, 3) := dq_X1_act_30.2.2.2.2.1
theorem dX1_act_42 : decode cX1_act 42 = .ok (.aload_n 0, 1) := dq_X1_act_30.2.2.2.2.2.1
theorem dX1_act_43 : decode cX1_act 43 = .ok (.iload_n 2, 1) := dq_X1_act_30.2.2.2.2.2.2.1
theorem dX1_act_44 : decode cX1_act 44 = .ok (.invokevirtual 98, 3) := dq_X1_act_30.2.2.2.2.2.2.2.1
theorem dX1_act_47 : decode cX1_act 47 = .ok (.aload_n 0, 1) := dq_X1_act_30.2.2.2.2.2.2.2.2.1
theorem dX1_act_48 : decode cX1_act 48 = .ok (.aload_n 0, 1) := dq_X1_act_30.2.2.2.2.2.2.2.2.2.1
theorem dX1_act_49 : decode cX1_act 49 = .ok (.getfield 41, 3) := dq_X1_act_30.2.2.2.2.2.2.2.2.2.2.1
theorem dX1_act_52 : decode cX1_act 52 = .ok (.putfield 62, 3) := dq_X1_act_30.2.2.2.2.2.2.2.2.2.2.2.1
theorem dX1_act_55 : decode cX1_act 55 = .ok (.aload_n 0, 1) := dq_X1_act_30.2.2.2.2.2.2.2.2.2.2.2.2.1
theorem dX1_act_56 : decode cX1_act 56 = .ok (.aload_n 0, 1) := dq_X1_act_30.2.2.2.2.2.2.2.2.2.2.2.2.2.1
theorem dX1_act_57 : decode cX1_act 57 = .ok (.getfield 35, 3) := dq_X1_act_30.2.2.2.2.2.2.2.2.2.2.2.2.2.2.1
theorem dX1_act_60 : decode cX1_act 60 = .ok (.putfield 65, 3) := dq_X1_act_30.2.2.2.2.2.2.2.2.2.2.2.2.2.2.2
theorem dq_X1_act_63 : (decode cX1_act 63 = .ok (.iload_n 2, 1)) ∧ (decode cX1_act 64 = .ok (.ifCond .eq 15, 3)) ∧ (decode cX1_act 67 = .ok (.aload_n 0, 1)) ∧ (decode cX1_act 68 = .ok (.getfield 41, 3)) ∧ (decode cX1_act 71 = .ok (.ifCond .eq 8, 3)) ∧ (decode cX1_act 74 = .ok (.aload_n 0, 1)) ∧ (decode cX1_act 75 = .ok (.iload_n 2, 1)) ∧ (decode cX1_act 76 = .ok (.invokevirtual 102, 3)) ∧ (decode cX1_act 79 = .ok (.return_, 1)) := by decide +kernel
theorem dX1_act_63 : decode cX1_act 63 = .ok (.iload_n 2, 1) := dq_X1_act_63.1
theorem dX1_act_64 : decode cX1_act 64 = .ok (.ifCond .eq 15, 3) := dq_X1_act_63.2.1
theorem dX1_act_67 : decode cX1_act 67 = .ok (.aload_n 0, 1) := dq_X1_act_63.2.2.1
theorem dX1_act_68 : decode cX1_act 68 = .ok (.getfield 41, 3) := dq_X1_act_63.2.2.2.1
theorem dX1_act_71 : decode cX1_act 71 = .ok (.ifCond .eq 8, 3) := dq_X1_act_63.2.2.2.2.1
theorem dX1_act_74 : decode cX1_act 74 = .ok (.aload_n 0, 1) := dq_X1_act_63.2.2.2.2.2.1
theorem dX1_act_75 : decode cX1_act 75 = .ok (.iload_n 2, 1) := dq_X1_act_63.2.2.2.2.2.2.1
theorem dX1_act_76 : decode cX1_act 76 = .ok (.invokevirtual 102, 3) := dq_X1_act_63.2.2.2.2.2.2.2.1
theorem dX1_act_79 : decode cX1_act 79 = .ok (.return_, 1) := dq_X1_act_63.2.2.2.2.2.2.2.2
theorem dq_X1_noteTick_0 : (decode cX1_noteTick 0 = .ok (.aload_n 0, 1)) ∧ (decode cX1_noteTick 1 = .ok (.invokevirtual 95, 3)) ∧ (decode cX1_noteTick 4 = .ok (.bipush 14, 2)) ∧ (decode cX1_noteTick 6 = .ok (.if_icmp .ne 19, 3)) ∧ (decode cX1_noteTick 9 = .ok (.aload_n 0, 1)) ∧ (decode cX1_noteTick 10 = .ok (.invokevirtual 105, 3)) ∧ (decode cX1_noteTick 13 = .ok (.bipush 13, 2)) ∧ (decode cX1_noteTick 15 = .ok (.if_icmp .ne 10, 3)) ∧ (decode cX1_noteTick 18 = .ok (.aload_n 0, 1)) ∧ (decode cX1_noteTick 19 = .ok (.invokevirtual 108, 3)) ∧ (decode cX1_noteTick 22 = .ok (.goto 4, 3)) ∧ (decode cX1_noteTick 25 = .ok (.iconst 0, 1)) ∧ (decode cX1_noteTick 26 = .ok (.ireturn, 1)) := by decide +kernel
theorem dX1_noteTick_0 : decode cX1_noteTick 0 = .ok (.aload_n 0, 1) := dq_X1_noteTick_0.1
theorem dX1_noteTick_1 : decode cX1_noteTick 1 = .ok (.invokevirtual 95, 3) := dq_X1_noteTick_0.2.1
theorem dX1_noteTick_4 : decode cX1_noteTick 4 = .ok (.bipush 14, 2) := dq_X1_noteTick_0.2.2.1
theorem dX1_noteTick_6 : decode cX1_noteTick 6 = .ok (.if_icmp .ne 19, 3) := dq_X1_noteTick_0.2.2.2.1
theorem dX1_noteTick_9 : decode cX1_noteTick 9 = .ok (.aload_n 0, 1) := dq_X1_noteTick_0.2.2.2.2.1
theorem dX1_noteTick_10 : decode cX1_noteTick 10 = .ok (.invokevirtual 105, 3) := dq_X1_noteTick_0.2.2.2.2.2.1
theorem dX1_noteTick_13 : decode cX1_noteTick 13 = .ok (.bipush 13, 2) := dq_X1_noteTick_0.2.2.2.2.2.2.1
theorem dX1_noteTick_15 : decode cX1_noteTick 15 = .ok (.if_icmp .ne 10, 3) := dq_X1_noteTick_0.2.2.2.2.2.2.2.1
theorem dX1_noteTick_18 : decode cX1_noteTick 18 = .ok (.aload_n 0, 1) := dq_X1_noteTick_0.2.2.2.2.2.2.2.2.1
theorem dX1_noteTick_19 : decode cX1_noteTick 19 = .ok (.invokevirtual 108, 3) := dq_X1_noteTick_0.2.2.2.2.2.2.2.2.2.1
theorem dX1_noteTick_22 : decode cX1_noteTick 22 = .ok (.goto 4, 3) := dq_X1_noteTick_0.2.2.2.2.2.2.2.2.2.2.1
theorem dX1_noteTick_25 : decode cX1_noteTick 25 = .ok (.iconst 0, 1) := dq_X1_noteTick_0.2.2.2.2.2.2.2.2.2.2.2.1
theorem dX1_noteTick_26 : decode cX1_noteTick 26 = .ok (.ireturn, 1) := dq_X1_noteTick_0.2.2.2.2.2.2.2.2.2.2.2.2
theorem dq_X1_takeNote_0 : (decode cX1_takeNote 0 = .ok (.aload_n 0, 1)) ∧ (decode cX1_takeNote 1 = .ok (.getfield 28, 3)) ∧ (decode cX1_takeNote 4 = .ok (.bipush 12, 2)) ∧ (decode cX1_takeNote 6 = .ok (.ishr, 1)) ∧ (decode cX1_takeNote 7 = .ok (.bipush 31, 2)) ∧ (decode cX1_takeNote 9 = .ok (.iand, 1)) ∧ (decode cX1_takeNote 10 = .ok (.istore_n 1, 1)) ∧ (decode cX1_takeNote 11 = .ok (.iload_n 1, 1)) ∧ (decode cX1_takeNote 12 = .ok (.ifCond .le 38, 3)) ∧ (decode cX1_takeNote 15 = .ok (.aload_n 0, 1)) ∧ (decode cX1_takeNote 16 = .ok (.iload_n 1, 1)) ∧ (decode cX1_takeNote 17 = .ok (.putfield 32, 3)) ∧ (decode cX1_takeNote 20 = .ok (.aload_n 0, 1)) ∧ (decode cX1_takeNote 21 = .ok (.aload_n 0, 1)) ∧ (decode cX1_takeNote 22 = .ok (.getfield 21, 3)) ∧ (decode cX1_takeNote 25 = .ok (.iload_n 1, 1)) := by decide +kernel
theorem dX1_takeNote_0 : decode cX1_takeNote 0 = .ok (.aload_n 0, 1) := dq_X1_takeNote_0.1
theorem dX1_takeNote_1 : decode cX1_takeNote 1 = .ok (.getfield 28, 3) := dq_X1_takeNote_0.2.1
theorem dX1_takeNote_4 : decode cX1_takeNote 4 = .ok (.bipush 12, 2) := dq_X1_takeNote_0.2.2.1
theorem dX1_takeNote_6 : decode cX1_takeNote 6 = .ok (.ishr, 1) := dq_X1_takeNote_0.2.2.2.1
theorem dX1_takeNote_7 : decode cX1_takeNote 7 = .ok (.bipush 31, 2) := dq_X1_takeNote_0.2.2.2.2.1
theorem dX1_takeNote_9 : decode cX1_takeNote 9 = .ok (.iand, 1) := dq_X1_takeNote_0.2.2.2.2.2.1
theorem dX1_takeNote_10 : decode cX1_takeNote 10 = .ok (.istore_n 1, 1) := dq_X1_takeNote_0.2.2.2.2.2.2.1
theorem dX1_takeNote_11 : decode cX1_takeNote 11 = .ok (.iload_n 1, 1) := dq_X1_takeNote_0.2.2.2.2.2.2.2.1
theorem dX1_takeNote_12 : decode cX1_takeNote 12 = .ok (.ifCond .le 38, 3) := dq_X1_takeNote_0.2.2.2.2.2.2.2.2.1
theorem dX1_takeNote_15 : decode cX1_takeNote 15 = .ok (.aload_n 0, 1) := dq_X1_takeNote_0.2.2.2.2.2.2.2.2.2.1
theorem dX1_takeNote_16 : decode cX1_takeNote 16 = .ok (.iload_n 1, 1) := dq_X1_takeNote_0.2.2.2.2.2.2.2.2.2.2.1
theorem dX1_takeNote_17 : decode cX1_takeNote 17 = .ok (.putfield 32, 3) := dq_X1_takeNote_0.2.2.2.2.2.2.2.2.2.2.2.1
theorem dX1_takeNote_20 : decode cX1_takeNote 20 = .ok (.aload_n 0, 1) := dq_X1_takeNote_0.2.2.2.2.2.2.2.2.2.2.2.2.1
theorem dX1_takeNote_21 : decode cX1_takeNote 21 = .ok (.aload_n 0, 1) := dq_X1_takeNote_0.2.2.2.2.2.2.2.2.2.2.2.2.2.1
theorem dX1_takeNote_22 : decode cX1_takeNote 22 = .ok (.getfield 21, 3) := dq_X1_takeNote_0.2.2.2.2.2.2.2.2.2.2.2.2.2.2.1
theorem dX1_takeNote_25 : decode cX1_takeNote 25 = .ok (.iload_n 1, 1) := dq_X1_takeNote_0.2.2.2.2.2.2.2.2.2.2.2.2.2.2.2
theorem dq_X1_takeNote_26 : (decode cX1_takeNote 26 = .ok (.invokevirtual 111, 3)) ∧ (decode cX1_takeNote 29 = .ok (.getfield 117, 3)) ∧ (decode cX1_takeNote 32 = .ok (.putfield 35, 3)) ∧ (decode cX1_takeNote 35 = .ok (.aload_n 0, 1)) ∧ (decode cX1_takeNote 36 = .ok (.aload_n 0, 1)) ∧ (decode cX1_takeNote 37 = .ok (.getfield 21, 3)) ∧ (decode cX1_takeNote 40 = .ok (.iload_n 1, 1)) ∧ (decode cX1_takeNote 41 = .ok (.invokevirtual 111, 3)) ∧ (decode cX1_takeNote 44 = .ok (.getfield 120, 3)) ∧ (decode cX1_takeNote 47 = .ok (.putfield 38, 3)) ∧ (decode cX1_takeNote 50 = .ok (.aload_n 0, 1)) ∧ (decode cX1_takeNote 51 = .ok (.invokevirtual 121, 3)) ∧ (decode cX1_takeNote 54 = .ok (.ifCond .ne 4, 3)) ∧ (decode cX1_takeNote 57 = .ok (.return_, 1)) ∧ (decode cX1_takeNote 58 = .ok (.aload_n 0, 1)) ∧ (decode cX1_takeNote 59 = .ok (.invokevirtual 95, 3)) := by decide +kernel
theorem dX1_takeNote_26 : decode cX1_takeNote 26 = .ok (.invokevirtual 111, 3) := dq_X1_takeNote_26.1
theorem dX1_takeNote_29 : decode cX1_takeNote 29 = .ok (.getfield 117, 3) := dq_X1_takeNote_26.2.1
theorem dX1_takeNote_32 : decode cX1_takeNote 32 = .ok (.putfield 35, 3) := dq_X1_takeNote_26.2.2.1
theorem dX1_takeNote_35 : decode cX1_takeNote 35 = .ok (.aload_n 0, 1) := dq_X1_takeNote_26.2.2.2.1
theorem dX1_takeNote_36 : decode cX1_takeNote 36 = .ok (.aload_n 0, 1) := dq_X1_takeNote_26.2.2.2.2.1
theorem dX1_takeNote_37 : decode cX1_takeNote 37 = .ok (.getfield 21, 3) := dq_X1_takeNote_26.2.2.2.2.2.1
theorem dX1_takeNote_40 : decode cX1_takeNote 40 = .ok (.iload_n 1, 1) := dq_X1_takeNote_26.2.2.2.2.2.2.1
theorem dX1_takeNote_41 : decode cX1_takeNote 41 = .ok (.invokevirtual 111, 3) := dq_X1_takeNote_26.2.2.2.2.2.2.2.1
theorem dX1_takeNote_44 : decode cX1_takeNote 44 = .ok (.getfield 120, 3) := dq_X1_takeNote_26.2.2.2.2.2.2.2.2.1
theorem dX1_takeNote_47 : decode cX1_takeNote 47 = .ok (.putfield 38, 3) := dq_X1_takeNote_26.2.2.2.2.2.2.2.2.2.1
theorem dX1_takeNote_50 : decode cX1_takeNote 50 = .ok (.aload_n 0, 1) := dq_X1_takeNote_26.2.2.2.2.2.2.2.2.2.2.1
theorem dX1_takeNote_51 : decode cX1_takeNote 51 = .ok (.invokevirtual 121, 3) := dq_X1_takeNote_26.2.2.2.2.2.2.2.2.2.2.2.1
theorem dX1_takeNote_54 : decode cX1_takeNote 54 = .ok (.ifCond .ne 4, 3) := dq_X1_takeNote_26.2.2.2.2.2.2.2.2.2.2.2.2.1
theorem dX1_takeNote_57 : decode cX1_takeNote 57 = .ok (.return_, 1) := dq_X1_takeNote_26.2.2.2.2.2.2.2.2.2.2.2.2.2.1
theorem dX1_takeNote_58 : decode cX1_takeNote 58 = .ok (.aload_n 0, 1) := dq_X1_takeNote_26.2.2.2.2.2.2.2.2.2.2.2.2.2.2.1
theorem dX1_takeNote_59 : decode cX1_takeNote 59 = .ok (.invokevirtual 95, 3) := dq_X1_takeNote_26.2.2.2.2.2.2.2.2.2.2.2.2.2.2.2
theorem dq_X1_takeNote_62 : (decode cX1_takeNote 62 = .ok (.iconst 3, 1)) ∧ (decode cX1_takeNote 63 = .ok (.if_icmp .eq 11, 3)) ∧ (decode cX1_takeNote 66 = .ok (.aload_n 0, 1)) ∧ (decode cX1_takeNote 67 = .ok (.invokevirtual 95, 3)) ∧ (decode cX1_takeNote 70 = .ok (.iconst 5, 1)) ∧ (decode cX1_takeNote 71 = .ok (.if_icmp .ne 16, 3)) ∧ (decode cX1_takeNote 74 = .ok (.aload_n 0, 1)) ∧ (decode cX1_takeNote 75 = .ok (.aload_n 0, 1)) ∧ (decode cX1_takeNote 76 = .ok (.aload_n 0, 1)) ∧ (decode cX1_takeNote 77 = .ok (.invokevirtual 121, 3)) ∧ (decode cX1_takeNote 80 = .ok (.invokevirtual 124, 3)) ∧ (decode cX1_takeNote 83 = .ok (.putfield 47, 3)) ∧ (decode cX1_takeNote 86 = .ok (.return_, 1)) ∧ (decode cX1_takeNote 87 = .ok (.aload_n 0, 1)) ∧ (decode cX1_takeNote 88 = .ok (.aload_n 0, 1)) ∧ (decode cX1_takeNote 89 = .ok (.aload_n 0, 1)) := by decide +kernel
theorem dX1_takeNote_62 : decode cX1_takeNote 62 = .ok (.iconst 3, 1) := dq_X1_takeNote_62.1
theorem dX1_takeNote_63 : decode cX1_takeNote 63 = .ok (.if_icmp .eq 11, 3) := dq_X1_takeNote_62.2.1
theorem dX1_takeNote_66 : decode cX1_takeNote 66 = .ok (.aload_n 0, 1) := dq_X1_takeNote_62.2.2.1
theorem dX1_takeNote_67 : decode cX1_takeNote 67 = .ok (.invokevirtual 95, 3) := dq_X1_takeNote_62.2.2.2.1
theorem dX1_takeNote_70 : decode cX1_takeNote 70 = .ok (.iconst 5, 1) := dq_X1_takeNote_62.2.2.2.2.1
theorem dX1_takeNote_71 : decode cX1_takeNote 71 = .ok (.if_icmp .ne 16, 3) := dq_X1_takeNote_62.2.2.2.2.2.1
theorem dX1_takeNote_74 : decode cX1_takeNote 74 = .ok (.aload_n 0, 1) := dq_X1_takeNote_62.2.2.2.2.2.2.1
theorem dX1_takeNote_75 : decode cX1_takeNote 75 = .ok (.aload_n 0, 1) := dq_X1_takeNote_62.2.2.2.2.2.2.2.1
theorem dX1_takeNote_76 : decode cX1_takeNote 76 = .ok (.aload_n 0, 1) := dq_X1_takeNote_62.2.2.2.2.2.2.2.2.1
theorem dX1_takeNote_77 : decode cX1_takeNote 77 = .ok (.invokevirtual 121, 3) := dq_X1_takeNote_62.2.2.2.2.2.2.2.2.2.1
theorem dX1_takeNote_80 : decode cX1_takeNote 80 = .ok (.invokevirtual 124, 3) := dq_X1_takeNote_62.2.2.2.2.2.2.2.2.2.2.1
theorem dX1_takeNote_83 : decode cX1_takeNote 83 = .ok (.putfield 47, 3) := dq_X1_takeNote_62.2.2.2.2.2.2.2.2.2.2.2.1
theorem dX1_takeNote_86 : decode cX1_takeNote 86 = .ok (.return_, 1) := dq_X1_takeNote_62.2.2.2.2.2.2.2.2.2.2.2.2.1
theorem dX1_takeNote_87 : decode cX1_takeNote 87 = .ok (.aload_n 0, 1) := dq_X1_takeNote_62.2.2.2.2.2.2.2.2.2.2.2.2.2.1
theorem dX1_takeNote_88 : decode cX1_takeNote 88 = .ok (.aload_n 0, 1) := dq_X1_takeNote_62.2.2.2.2.2.2.2.2.2.2.2.2.2.2.1
theorem dX1_takeNote_89 : decode cX1_takeNote 89 = .ok (.aload_n 0, 1) := dq_X1_takeNote_62.2.2.2.2.2.2.2.2.2.2.2.2.2.2.2
theorem dq_X1_takeNote_90 : (decode cX1_takeNote 90 = .ok (.invokevirtual 121, 3)) ∧ (decode cX1_takeNote 93 = .ok (.invokevirtual 124, 3)) ∧ (decode cX1_takeNote 96 = .ok (.putfield 41, 3)) ∧ (decode cX1_takeNote 99 = .ok (.aload_n 0, 1)) ∧ (decode cX1_takeNote 100 = .ok (.aload_n 0, 1)) ∧ (decode cX1_takeNote 101 = .ok (.getfield 41, 3)) ∧ (decode cX1_takeNote 104 = .ok (.putfield 44, 3)) ∧ (decode cX1_takeNote 107 = .ok (.aload_n 0, 1)) ∧ (decode cX1_takeNote 108 = .ok (.invokevirtual 128, 3)) ∧ (decode cX1_takeNote 111 = .ok (.aload_n 0, 1)) ∧ (decode cX1_takeNote 112 = .ok (.getfield 12, 3)) ∧ (decode cX1_takeNote 115 = .ok (.iconst 0, 1)) ∧ (decode cX1_takeNote 116 = .ok (.putfield 131, 3)) ∧ (decode cX1_takeNote 119 = .ok (.aload_n 0, 1)) ∧ (decode cX1_takeNote 120 = .ok (.getfield 18, 3)) ∧ (decode cX1_takeNote 123 = .ok (.iconst 0, 1)) := by decide +kernel
theorem dX1_takeNote_90 : decode cX1_takeNote 90 = .ok (.invokevirtual 121, 3) := dq_X1_takeNote_90.1
theorem dX1_takeNote_93 : decode cX1_takeNote 93 = .ok (.invokevirtual 124, 3) := dq_X1_takeNote_90.2.1
theorem dX1_takeNote_96 : decode cX1_takeNote 96 = .ok (.putfield 41, 3) := dq_X1_takeNote_90.2.2.1
theorem dX1_takeNote_99 : decode cX1_takeNote 99 = .ok (.aload_n 0, 1) := dq_X1_takeNote_90.2.2.2.1
theorem dX1_takeNote_100 : decode cX1_takeNote 100 = .ok (.aload_n 0, 1) := dq_X1_takeNote_90.2.2.2.2.1
theorem dX1_takeNote_101 : decode cX1_takeNote 101 = .ok (.getfield 41, 3) := dq_X1_takeNote_90.2.2.2.2.2.1
theorem dX1_takeNote_104 : decode cX1_takeNote 104 = .ok (.putfield 44, 3) := dq_X1_takeNote_90.2.2.2.2.2.2.1
theorem dX1_takeNote_107 : decode cX1_takeNote 107 = .ok (.aload_n 0, 1) := dq_X1_takeNote_90.2.2.2.2.2.2.2.1
theorem dX1_takeNote_108 : decode cX1_takeNote 108 = .ok (.invokevirtual 128, 3) := dq_X1_takeNote_90.2.2.2.2.2.2.2.2.1
theorem dX1_takeNote_111 : decode cX1_takeNote 111 = .ok (.aload_n 0, 1) := dq_X1_takeNote_90.2.2.2.2.2.2.2.2.2.1
theorem dX1_takeNote_112 : decode cX1_takeNote 112 = .ok (.getfield 12, 3) := dq_X1_takeNote_90.2.2.2.2.2.2.2.2.2.2.1
theorem dX1_takeNote_115 : decode cX1_takeNote 115 = .ok (.iconst 0, 1) := dq_X1_takeNote_90.2.2.2.2.2.2.2.2.2.2.2.1
theorem dX1_takeNote_116 : decode cX1_takeNote 116 = .ok (.putfield 131, 3) := dq_X1_takeNote_90.2.2.2.2.2.2.2.2.2.2.2.2.1
theorem dX1_takeNote_119 : decode cX1_takeNote 119 = .ok (.aload_n 0, 1) := dq_X1_takeNote_90.2.2.2.2.2.2.2.2.2.2.2.2.2.1
theorem dX1_takeNote_120 : decode cX1_takeNote 120 = .ok (.getfield 18, 3) := dq_X1_takeNote_90.2.2.2.2.2.2.2.2.2.2.2.2.2.2.1
theorem dX1_takeNote_123 : decode cX1_takeNote 123 = .ok (.iconst 0, 1) := dq_X1_takeNote_90.2.2.2.2.2.2.2.2.2.2.2.2.2.2.2
theorem dq_X1_takeNote_124 : (decode cX1_takeNote 124 = .ok (.putfield 131, 3)) ∧ (decode cX1_takeNote 127 = .ok (.return_, 1)) := by decide +kernel
theorem dX1_takeNote_124 : decode cX1_takeNote 124 = .ok (.putfield 131, 3) := dq_X1_takeNote_124.1
theorem dX1_takeNote_127 : decode cX1_takeNote 127 = .ok (.return_, 1) := dq_X1_takeNote_124.2
theorem dq_X1_tuned_0 : (decode cX1_tuned 0 = .ok (.iload_n 1, 1)) ∧ (decode cX1_tuned 1 = .ok (.iload_n 1, 1)) ∧ (decode cX1_tuned 2 = .ok (.aload_n 0, 1)) ∧ (decode cX1_tuned 3 = .ok (.getfield 38, 3)) ∧ (decode cX1_tuned 6 = .ok (.imul, 1)) ∧ (decode cX1_tuned 7 = .ok (.sipush 138, 3)) ∧ (decode cX1_tuned 10 = .ok (.idiv, 1)) ∧ (decode cX1_tuned 11 = .ok (.isub, 1)) ∧ (decode cX1_tuned 12 = .ok (.bipush 113, 2)) ∧ (decode cX1_tuned 14 = .ok (.sipush 856, 3)) ∧ (decode cX1_tuned 17 = .ok (.invokestatic 133, 3)) ∧ (decode cX1_tuned 20 = .ok (.ireturn, 1)) := by decide +kernel
theorem dX1_tuned_0 : decode cX1_tuned 0 = .ok (.iload_n 1, 1) := dq_X1_tuned_0.1
theorem dX1_tuned_1 : decode cX1_tuned 1 = .ok (.iload_n 1, 1) := dq_X1_tuned_0.2.1
theorem dX1_tuned_2 : decode cX1_tuned 2 = .ok (.aload_n 0, 1) := dq_X1_tuned_0.2.2.1
theorem dX1_tuned_3 : decode cX1_tuned 3 = .ok (.getfield 38, 3) := dq_X1_tuned_0.2.2.2.1
theorem dX1_tuned_6 : decode cX1_tuned 6 = .ok (.imul, 1) := dq_X1_tuned_0.2.2.2.2.1
theorem dX1_tuned_7 : decode cX1_tuned 7 = .ok (.sipush 138, 3) := dq_X1_tuned_0.2.2.2.2.2.1
theorem dX1_tuned_10 : decode cX1_tuned 10 = .ok (.idiv, 1) := dq_X1_tuned_0.2.2.2.2.2.2.1
theorem dX1_tuned_11 : decode cX1_tuned 11 = .ok (.isub, 1) := dq_X1_tuned_0.2.2.2.2.2.2.2.1
theorem dX1_tuned_12 : decode cX1_tuned 12 = .ok (.bipush 113, 2) := dq_X1_tuned_0.2.2.2.2.2.2.2.2.1
theorem dX1_tuned_14 : decode cX1_tuned 14 = .ok (.sipush 856, 3) := dq_X1_tuned_0.2.2.2.2.2.2.2.2.2.1
theorem dX1_tuned_17 : decode cX1_tuned 17 = .ok (.invokestatic 133, 3) := dq_X1_tuned_0.2.2.2.2.2.2.2.2.2.2.1
theorem dX1_tuned_20 : decode cX1_tuned 20 = .ok (.ireturn, 1) := dq_X1_tuned_0.2.2.2.2.2.2.2.2.2.2.2
theorem dq_X1_strike_0 : (decode cX1_strike 0 = .ok (.aload_n 0, 1)) ∧ (decode cX1_strike 1 = .ok (.lconst 0, 1)) ∧ (decode cX1_strike 2 = .ok (.putfield 68, 3)) ∧ (decode cX1_strike 5 = .ok (.aload_n 0, 1)) ∧ (decode cX1_strike 6 = .ok (.aload_n 0, 1)) ∧ (decode cX1_strike 7 = .ok (.getfield 21, 3)) ∧ (decode cX1_strike 10 = .ok (.aload_n 0, 1)) ∧ (decode cX1_strike 11 = .ok (.getfield 32, 3)) ∧ (decode cX1_strike 14 = .ok (.invokevirtual 111, 3)) ∧ (decode cX1_strike 17 = .ok (.getfield 137, 3)) ∧ (decode cX1_strike 20 = .ok (.ifCond .le 7, 3)) ∧ (decode cX1_strike 23 = .ok (.iconst 1, 1)) ∧ (decode cX1_strike 24 = .ok (.goto 4, 3)) ∧ (decode cX1_strike 27 = .ok (.iconst 0, 1)) ∧ (decode cX1_strike 28 = .ok (.putfield 72, 3)) ∧ (decode cX1_strike 31 = .ok (.return_, 1)) := by decide +kernel
theorem dX1_strike_0 : decode cX1_strike 0 = .ok (.aload_n 0, 1) := dq_X1_strike_0.1
theorem dX1_strike_1 : decode cX1_strike 1 = .ok (.lconst 0, 1) := dq_X1_strike_0.2.1
theorem dX1_strike_2 : decode cX1_strike 2 = .ok (.putfield 68, 3) := dq_X1_strike_0.2.2.1
theorem dX1_strike_5 : decode cX1_strike 5 = .ok (.aload_n 0, 1) := dq_X1_strike_0.2.2.2.1
theorem dX1_strike_6 : decode cX1_strike 6 = .ok (.aload_n 0, 1) := dq_X1_strike_0.2.2.2.2.1
theorem dX1_strike_7 : decode cX1_strike 7 = .ok (.getfield 21, 3) := dq_X1_strike_0.2.2.2.2.2.1
theorem dX1_strike_10 : decode cX1_strike 10 = .ok (.aload_n 0, 1) := dq_X1_strike_0.2.2.2.2.2.2.1
theorem dX1_strike_11 : decode cX1_strike 11 = .ok (.getfield 32, 3) := dq_X1_strike_0.2.2.2.2.2.2.2.1
theorem dX1_strike_14 : decode cX1_strike 14 = .ok (.invokevirtual 111, 3) := dq_X1_strike_0.2.2.2.2.2.2.2.2.1
theorem dX1_strike_17 : decode cX1_strike 17 = .ok (.getfield 137, 3) := dq_X1_strike_0.2.2.2.2.2.2.2.2.2.1
theorem dX1_strike_20 : decode cX1_strike 20 = .ok (.ifCond .le 7, 3) := dq_X1_strike_0.2.2.2.2.2.2.2.2.2.2.1
theorem dX1_strike_23 : decode cX1_strike 23 = .ok (.iconst 1, 1) := dq_X1_strike_0.2.2.2.2.2.2.2.2.2.2.2.1
theorem dX1_strike_24 : decode cX1_strike 24 = .ok (.goto 4, 3) := dq_X1_strike_0.2.2.2.2.2.2.2.2.2.2.2.2.1
theorem dX1_strike_27 : decode cX1_strike 27 = .ok (.iconst 0, 1) := dq_X1_strike_0.2.2.2.2.2.2.2.2.2.2.2.2.2.1
theorem dX1_strike_28 : decode cX1_strike 28 = .ok (.putfield 72, 3) := dq_X1_strike_0.2.2.2.2.2.2.2.2.2.2.2.2.2.2.1
theorem dX1_strike_31 : decode cX1_strike 31 = .ok (.return_, 1) := dq_X1_strike_0.2.2.2.2.2.2.2.2.2.2.2.2.2.2.2
theorem dq_X1_actFirst_0 : (decode cX1_actFirst 0 = .ok (.aload_n 0, 1)) ∧ (decode cX1_actFirst 1 = .ok (.invokevirtual 95, 3)) ∧ (decode cX1_actFirst 4 = .ok (.tableswitch 190 3 15 #[68, 93, 190, 190, 111, 190, 129, 190, 136, 147, 163, 174, 182], 68)) ∧ (decode cX1_actFirst 72 = .ok (.aload_n 0, 1)) ∧ (decode cX1_actFirst 73 = .ok (.aload_n 0, 1)) ∧ (decode cX1_actFirst 74 = .ok (.invokevirtual 140, 3)) ∧ (decode cX1_actFirst 77 = .ok (.ifCond .ne 10, 3)) ∧ (decode cX1_actFirst 80 = .ok (.aload_n 0, 1)) ∧ (decode cX1_actFirst 81 = .ok (.getfield 50, 3)) ∧ (decode cX1_actFirst 84 = .ok (.goto 7, 3)) ∧ (decode cX1_actFirst 87 = .ok (.aload_n 0, 1)) ∧ (decode cX1_actFirst 88 = .ok (.invokevirtual 140, 3)) ∧ (decode cX1_actFirst 91 = .ok (.putfield 50, 3)) ∧ (decode cX1_actFirst 94 = .ok (.goto 100, 3)) ∧ (decode cX1_actFirst 97 = .ok (.aload_n 0, 1)) ∧ (decode cX1_actFirst 98 = .ok (.getfield 12, 3)) := by decide +kernel
theorem dX1_actFirst_0 : decode cX1_actFirst 0 = .ok (.aload_n 0, 1) := dq_X1_actFirst_0.1
theorem dX1_actFirst_1 : decode cX1_actFirst 1 = .ok (.invokevirtual 95, 3) := dq_X1_actFirst_0.2.1
theorem dX1_actFirst_4 : decode cX1_actFirst 4 = .ok (.tableswitch 190 3 15 #[68, 93, 190, 190, 111, 190, 129, 190, 136, 147, 163, 174, 182], 68) := dq_X1_actFirst_0.2.2.1
theorem dX1_actFirst_72 : decode cX1_actFirst 72 = .ok (.aload_n 0, 1) := dq_X1_actFirst_0.2.2.2.1
theorem dX1_actFirst_73 : decode cX1_actFirst 73 = .ok (.aload_n 0, 1) := dq_X1_actFirst_0.2.2.2.2.1
theorem dX1_actFirst_74 : decode cX1_actFirst 74 = .ok (.invokevirtual 140, 3) := dq_X1_actFirst_0.2.2.2.2.2.1
theorem dX1_actFirst_77 : decode cX1_actFirst 77 = .ok (.ifCond .ne 10, 3) := dq_X1_actFirst_0.2.2.2.2.2.2.1
theorem dX1_actFirst_80 : decode cX1_actFirst 80 = .ok (.aload_n 0, 1) := dq_X1_actFirst_0.2.2.2.2.2.2.2.1
theorem dX1_actFirst_81 : decode cX1_actFirst 81 = .ok (.getfield 50, 3) := dq_X1_actFirst_0.2.2.2.2.2.2.2.2.1
theorem dX1_actFirst_84 : decode cX1_actFirst 84 = .ok (.goto 7, 3) := dq_X1_actFirst_0.2.2.2.2.2.2.2.2.2.1
theorem dX1_actFirst_87 : decode cX1_actFirst 87 = .ok (.aload_n 0, 1) := dq_X1_actFirst_0.2.2.2.2.2.2.2.2.2.2.1
theorem dX1_actFirst_88 : decode cX1_actFirst 88 = .ok (.invokevirtual 140, 3) := dq_X1_actFirst_0.2.2.2.2.2.2.2.2.2.2.2.1
theorem dX1_actFirst_91 : decode cX1_actFirst 91 = .ok (.putfield 50, 3) := dq_X1_actFirst_0.2.2.2.2.2.2.2.2.2.2.2.2.1
theorem dX1_actFirst_94 : decode cX1_actFirst 94 = .ok (.goto 100, 3) := dq_X1_actFirst_0.2.2.2.2.2.2.2.2.2.2.2.2.2.1
theorem dX1_actFirst_97 : decode cX1_actFirst 97 = .ok (.aload_n 0, 1) := dq_X1_actFirst_0.2.2.2.2.2.2.2.2.2.2.2.2.2.2.1
theorem dX1_actFirst_98 : decode cX1_actFirst 98 = .ok (.getfield 12, 3) := dq_X1_actFirst_0.2.2.2.2.2.2.2.2.2.2.2.2.2.2.2
theorem dq_X1_actFirst_101 : (decode cX1_actFirst 101 = .ok (.aload_n 0, 1)) ∧ (decode cX1_actFirst 102 = .ok (.invokevirtual 105, 3)) ∧ (decode cX1_actFirst 105 = .ok (.aload_n 0, 1)) ∧ (decode cX1_actFirst 106 = .ok (.invokevirtual 108, 3)) ∧ (decode cX1_actFirst 109 = .ok (.invokevirtual 143, 3)) ∧ (decode cX1_actFirst 112 = .ok (.goto 82, 3)) ∧ (decode cX1_actFirst 115 = .ok (.aload_n 0, 1)) ∧ (decode cX1_actFirst 116 = .ok (.getfield 18, 3)) ∧ (decode cX1_actFirst 119 = .ok (.aload_n 0, 1)) ∧ (decode cX1_actFirst 120 = .ok (.invokevirtual 105, 3)) ∧ (decode cX1_actFirst 123 = .ok (.aload_n 0, 1)) ∧ (decode cX1_actFirst 124 = .ok (.invokevirtual 108, 3)) ∧ (decode cX1_actFirst 127 = .ok (.invokevirtual 143, 3)) ∧ (decode cX1_actFirst 130 = .ok (.goto 64, 3)) ∧ (decode cX1_actFirst 133 = .ok (.aload_n 0, 1)) ∧ (decode cX1_actFirst 134 = .ok (.invokevirtual 147, 3)) := by decide +kernel
theorem dX1_actFirst_101 : decode cX1_actFirst 101 = .ok (.aload_n 0, 1) := dq_X1_actFirst_101.1
theorem dX1_actFirst_102 : decode cX1_actFirst 102 = .ok (.invokevirtual 105, 3) := dq_X1_actFirst_101.2.1
theorem dX1_actFirst_105 : decode cX1_actFirst 105 = .ok (.aload_n 0, 1) := dq_X1_actFirst_101.2.2.1
theorem dX1_actFirst_106 : decode cX1_actFirst 106 = .ok (.invokevirtual 108, 3) := dq_X1_actFirst_101.2.2.2.1
theorem dX1_actFirst_109 : decode cX1_actFirst 109 = .ok (.invokevirtual 143, 3) := dq_X1_actFirst_101.2.2.2.2.1
theorem dX1_actFirst_112 : decode cX1_actFirst 112 = .ok (.goto 82, 3) := dq_X1_actFirst_101.2.2.2.2.2.1
theorem dX1_actFirst_115 : decode cX1_actFirst 115 = .ok (.aload_n 0, 1) := dq_X1_actFirst_101.2.2.2.2.2.2.1
theorem dX1_actFirst_116 : decode cX1_actFirst 116 = .ok (.getfield 18, 3) := dq_X1_actFirst_101.2.2.2.2.2.2.2.1
theorem dX1_actFirst_119 : decode cX1_actFirst 119 = .ok (.aload_n 0, 1) := dq_X1_actFirst_101.2.2.2.2.2.2.2.2.1
theorem dX1_actFirst_120 : decode cX1_actFirst 120 = .ok (.invokevirtual 105, 3) := dq_X1_actFirst_101.2.2.2.2.2.2.2.2.2.1
theorem dX1_actFirst_123 : decode cX1_actFirst 123 = .ok (.aload_n 0, 1) := dq_X1_actFirst_101.2.2.2.2.2.2.2.2.2.2.1
theorem dX1_actFirst_124 : decode cX1_actFirst 124 = .ok (.invokevirtual 108, 3) := dq_X1_actFirst_101.2.2.2.2.2.2.2.2.2.2.2.1
theorem dX1_actFirst_127 : decode cX1_actFirst 127 = .ok (.invokevirtual 143, 3) := dq_X1_actFirst_101.2.2.2.2.2.2.2.2.2.2.2.2.1
theorem dX1_actFirst_130 : decode cX1_actFirst 130 = .ok (.goto 64, 3) := dq_X1_actFirst_101.2.2.2.2.2.2.2.2.2.2.2.2.2.1
theorem dX1_actFirst_133 : decode cX1_actFirst 133 = .ok (.aload_n 0, 1) := dq_X1_actFirst_101.2.2.2.2.2.2.2.2.2.2.2.2.2.2.1
theorem dX1_actFirst_134 : decode cX1_actFirst 134 = .ok (.invokevirtual 147, 3) := dq_X1_actFirst_101.2.2.2.2.2.2.2.2.2.2.2.2.2.2.2
theorem dq_X1_actFirst_137 : (decode cX1_actFirst 137 = .ok (.goto 57, 3)) ∧ (decode cX1_actFirst 140 = .ok (.aload_n 1, 1)) ∧ (decode cX1_actFirst 141 = .ok (.aload_n 0, 1)) ∧ (decode cX1_actFirst 142 = .ok (.invokevirtual 140, 3)) ∧ (decode cX1_actFirst 145 = .ok (.putfield 150, 3)) ∧ (decode cX1_actFirst 148 = .ok (.goto 46, 3)) ∧ (decode cX1_actFirst 151 = .ok (.aload_n 0, 1)) ∧ (decode cX1_actFirst 152 = .ok (.aload_n 0, 1)) ∧ (decode cX1_actFirst 153 = .ok (.invokevirtual 140, 3)) ∧ (decode cX1_actFirst 156 = .ok (.bipush 64, 2)) ∧ (decode cX1_actFirst 158 = .ok (.invokestatic 153, 3)) ∧ (decode cX1_actFirst 161 = .ok (.putfield 35, 3)) ∧ (decode cX1_actFirst 164 = .ok (.goto 30, 3)) ∧ (decode cX1_actFirst 167 = .ok (.aload_n 1, 1)) ∧ (decode cX1_actFirst 168 = .ok (.aload_n 0, 1)) ∧ (decode cX1_actFirst 169 = .ok (.invokevirtual 159, 3)) := by decide +kernel
theorem dX1_actFirst_137 : decode cX1_actFirst 137 = .ok (.goto 57, 3) := dq_X1_actFirst_137.1
theorem dX1_actFirst_140 : decode cX1_actFirst 140 = .ok (.aload_n 1, 1) := dq_X1_actFirst_137.2.1
theorem dX1_actFirst_141 : decode cX1_actFirst 141 = .ok (.aload_n 0, 1) := dq_X1_actFirst_137.2.2.1
theorem dX1_actFirst_142 : decode cX1_actFirst 142 = .ok (.invokevirtual 140, 3) := dq_X1_actFirst_137.2.2.2.1
theorem dX1_actFirst_145 : decode cX1_actFirst 145 = .ok (.putfield 150, 3) := dq_X1_actFirst_137.2.2.2.2.1
theorem dX1_actFirst_148 : decode cX1_actFirst 148 = .ok (.goto 46, 3) := dq_X1_actFirst_137.2.2.2.2.2.1
theorem dX1_actFirst_151 : decode cX1_actFirst 151 = .ok (.aload_n 0, 1) := dq_X1_actFirst_137.2.2.2.2.2.2.1
theorem dX1_actFirst_152 : decode cX1_actFirst 152 = .ok (.aload_n 0, 1) := dq_X1_actFirst_137.2.2.2.2.2.2.2.1
theorem dX1_actFirst_153 : decode cX1_actFirst 153 = .ok (.invokevirtual 140, 3) := dq_X1_actFirst_137.2.2.2.2.2.2.2.2.1
theorem dX1_actFirst_156 : decode cX1_actFirst 156 = .ok (.bipush 64, 2) := dq_X1_actFirst_137.2.2.2.2.2.2.2.2.2.1
theorem dX1_actFirst_158 : decode cX1_actFirst 158 = .ok (.invokestatic 153, 3) := dq_X1_actFirst_137.2.2.2.2.2.2.2.2.2.2.1
theorem dX1_actFirst_161 : decode cX1_actFirst 161 = .ok (.putfield 35, 3) := dq_X1_actFirst_137.2.2.2.2.2.2.2.2.2.2.2.1
theorem dX1_actFirst_164 : decode cX1_actFirst 164 = .ok (.goto 30, 3) := dq_X1_actFirst_137.2.2.2.2.2.2.2.2.2.2.2.2.1
theorem dX1_actFirst_167 : decode cX1_actFirst 167 = .ok (.aload_n 1, 1) := dq_X1_actFirst_137.2.2.2.2.2.2.2.2.2.2.2.2.2.1
theorem dX1_actFirst_168 : decode cX1_actFirst 168 = .ok (.aload_n 0, 1) := dq_X1_actFirst_137.2.2.2.2.2.2.2.2.2.2.2.2.2.2.1
theorem dX1_actFirst_169 : decode cX1_actFirst 169 = .ok (.invokevirtual 159, 3) := dq_X1_actFirst_137.2.2.2.2.2.2.2.2.2.2.2.2.2.2.2
theorem dq_X1_actFirst_172 : (decode cX1_actFirst 172 = .ok (.putfield 162, 3)) ∧ (decode cX1_actFirst 175 = .ok (.goto 19, 3)) ∧ (decode cX1_actFirst 178 = .ok (.aload_n 0, 1)) ∧ (decode cX1_actFirst 179 = .ok (.aload_n 1, 1)) ∧ (decode cX1_actFirst 180 = .ok (.invokevirtual 165, 3)) ∧ (decode cX1_actFirst 183 = .ok (.goto 11, 3)) ∧ (decode cX1_actFirst 186 = .ok (.aload_n 0, 1)) ∧ (decode cX1_actFirst 187 = .ok (.aload_n 1, 1)) ∧ (decode cX1_actFirst 188 = .ok (.invokevirtual 168, 3)) ∧ (decode cX1_actFirst 191 = .ok (.goto 3, 3)) ∧ (decode cX1_actFirst 194 = .ok (.return_, 1)) := by decide +kernel
theorem dX1_actFirst_172 : decode cX1_actFirst 172 = .ok (.putfield 162, 3) := dq_X1_actFirst_172.1
theorem dX1_actFirst_175 : decode cX1_actFirst 175 = .ok (.goto 19, 3) := dq_X1_actFirst_172.2.1
theorem dX1_actFirst_178 : decode cX1_actFirst 178 = .ok (.aload_n 0, 1) := dq_X1_actFirst_172.2.2.1
theorem dX1_actFirst_179 : decode cX1_actFirst 179 = .ok (.aload_n 1, 1) := dq_X1_actFirst_172.2.2.2.1
theorem dX1_actFirst_180 : decode cX1_actFirst 180 = .ok (.invokevirtual 165, 3) := dq_X1_actFirst_172.2.2.2.2.1
theorem dX1_actFirst_183 : decode cX1_actFirst 183 = .ok (.goto 11, 3) := dq_X1_actFirst_172.2.2.2.2.2.1
theorem dX1_actFirst_186 : decode cX1_actFirst 186 = .ok (.aload_n 0, 1) := dq_X1_actFirst_172.2.2.2.2.2.2.1
theorem dX1_actFirst_187 : decode cX1_actFirst 187 = .ok (.aload_n 1, 1) := dq_X1_actFirst_172.2.2.2.2.2.2.2.1
theorem dX1_actFirst_188 : decode cX1_actFirst 188 = .ok (.invokevirtual 168, 3) := dq_X1_actFirst_172.2.2.2.2.2.2.2.2.1
theorem dX1_actFirst_191 : decode cX1_actFirst 191 = .ok (.goto 3, 3) := dq_X1_actFirst_172.2.2.2.2.2.2.2.2.2.1
theorem dX1_actFirst_194 : decode cX1_actFirst 194 = .ok (.return_, 1) := dq_X1_actFirst_172.2.2.2.2.2.2.2.2.2.2
theorem dq_X1_takeOffset_0 : (decode cX1_takeOffset 0 = .ok (.aload_n 0, 1)) ∧ (decode cX1_takeOffset 1 = .ok (.invokevirtual 140, 3)) ∧ (decode cX1_takeOffset 4 = .ok (.ifCond .eq 11, 3)) ∧ (decode cX1_takeOffset 7 = .ok (.aload_n 0, 1)) ∧ (decode cX1_takeOffset 8 = .ok (.aload_n 0, 1)) ∧ (decode cX1_takeOffset 9 = .ok (.invokevirtual 140, 3)) ∧ (decode cX1_takeOffset 12 = .ok (.putfield 53, 3)) ∧ (decode cX1_takeOffset 15 = .ok (.aload_n 0, 1)) ∧ (decode cX1_takeOffset 16 = .ok (.invokevirtual 121, 3)) ∧ (decode cX1_takeOffset 19 = .ok (.ifCond .ne 4, 3)) ∧ (decode cX1_takeOffset 22 = .ok (.return_, 1)) ∧ (decode cX1_takeOffset 23 = .ok (.aload_n 0, 1)) ∧ (decode cX1_takeOffset 24 = .ok (.aload_n 0, 1)) ∧ (decode cX1_takeOffset 25 = .ok (.getfield 53, 3)) ∧ (decode cX1_takeOffset 28 = .ok (.i2l, 1)) ∧ (decode cX1_takeOffset 29 = .ok (.ldc2_w 171, 3)) := by decide +kernel
theorem dX1_takeOffset_0 : decode cX1_takeOffset 0 = .ok (.aload_n 0, 1) := dq_X1_takeOffset_0.1
theorem dX1_takeOffset_1 : decode cX1_takeOffset 1 = .ok (.invokevirtual 140, 3) := dq_X1_takeOffset_0.2.1
theorem dX1_takeOffset_4 : decode cX1_takeOffset 4 = .ok (.ifCond .eq 11, 3) := dq_X1_takeOffset_0.2.2.1
theorem dX1_takeOffset_7 : decode cX1_takeOffset 7 = .ok (.aload_n 0, 1) := dq_X1_takeOffset_0.2.2.2.1
theorem dX1_takeOffset_8 : decode cX1_takeOffset 8 = .ok (.aload_n 0, 1) := dq_X1_takeOffset_0.2.2.2.2.1
theorem dX1_takeOffset_9 : decode cX1_takeOffset 9 = .ok (.invokevirtual 140, 3) := dq_X1_takeOffset_0.2.2.2.2.2.1
theorem dX1_takeOffset_12 : decode cX1_takeOffset 12 = .ok (.putfield 53, 3) := dq_X1_takeOffset_0.2.2.2.2.2.2.1
theorem dX1_takeOffset_15 : decode cX1_takeOffset 15 = .ok (.aload_n 0, 1) := dq_X1_takeOffset_0.2.2.2.2.2.2.2.1
theorem dX1_takeOffset_16 : decode cX1_takeOffset 16 = .ok (.invokevirtual 121, 3) := dq_X1_takeOffset_0.2.2.2.2.2.2.2.2.1
theorem dX1_takeOffset_19 : decode cX1_takeOffset 19 = .ok (.ifCond .ne 4, 3) := dq_X1_takeOffset_0.2.2.2.2.2.2.2.2.2.1
theorem dX1_takeOffset_22 : decode cX1_takeOffset 22 = .ok (.return_, 1) := dq_X1_takeOffset_0.2.2.2.2.2.2.2.2.2.2.1
theorem dX1_takeOffset_23 : decode cX1_takeOffset 23 = .ok (.aload_n 0, 1) := dq_X1_takeOffset_0.2.2.2.2.2.2.2.2.2.2.2.1
theorem dX1_takeOffset_24 : decode cX1_takeOffset 24 = .ok (.aload_n 0, 1) := dq_X1_takeOffset_0.2.2.2.2.2.2.2.2.2.2.2.2.1
theorem dX1_takeOffset_25 : decode cX1_takeOffset 25 = .ok (.getfield 53, 3) := dq_X1_takeOffset_0.2.2.2.2.2.2.2.2.2.2.2.2.2.1
theorem dX1_takeOffset_28 : decode cX1_takeOffset 28 = .ok (.i2l, 1) := dq_X1_takeOffset_0.2.2.2.2.2.2.2.2.2.2.2.2.2.2.1
theorem dX1_takeOffset_29 : decode cX1_takeOffset 29 = .ok (.ldc2_w 171, 3) := dq_X1_takeOffset_0.2.2.2.2.2.2.2.2.2.2.2.2.2.2.2
theorem dq_X1_takeOffset_32 : (decode cX1_takeOffset 32 = .ok (.lmul, 1)) ∧ (decode cX1_takeOffset 33 = .ok (.ldc2_w 173, 3)) ∧ (decode cX1_takeOffset 36 = .ok (.lmul, 1)) ∧ (decode cX1_takeOffset 37 = .ok (.putfield 68, 3)) ∧ (decode cX1_takeOffset 40 = .ok (.aload_n 0, 1)) ∧ (decode cX1_takeOffset 41 = .ok (.getfield 53, 3)) ∧ (decode cX1_takeOffset 44 = .ok (.sipush 256, 3)) ∧ (decode cX1_takeOffset 47 = .ok (.imul, 1)) ∧ (decode cX1_takeOffset 48 = .ok (.aload_n 0, 1)) ∧ (decode cX1_takeOffset 49 = .ok (.getfield 21, 3)) ∧ (decode cX1_takeOffset 52 = .ok (.aload_n 0, 1)) ∧ (decode cX1_takeOffset 53 = .ok (.getfield 32, 3)) ∧ (decode cX1_takeOffset 56 = .ok (.invokevirtual 111, 3)) ∧ (decode cX1_takeOffset 59 = .ok (.getfield 137, 3)) ∧ (decode cX1_takeOffset 62 = .ok (.if_icmp .lt 8, 3)) ∧ (decode cX1_takeOffset 65 = .ok (.aload_n 0, 1)) := by decide +kernel
theorem dX1_takeOffset_32 : decode cX1_takeOffset 32 = .ok (.lmul, 1) := dq_X1_takeOffset_32.1
theorem dX1_takeOffset_33 : decode cX1_takeOffset 33 = .ok (.ldc2_w 173, 3) := dq_X1_takeOffset_32.2.1
theorem dX1_takeOffset_36 : decode cX1_takeOffset 36 = .ok (.lmul, 1) := dq_X1_takeOffset_32.2.2.1
theorem dX1_takeOffset_37 : decode cX1_takeOffset 37 = .ok (.putfield 68, 3) := dq_X1_takeOffset_32.2.2.2.1
theorem dX1_takeOffset_40 : decode cX1_takeOffset 40 = .ok (.aload_n 0, 1) := dq_X1_takeOffset_32.2.2.2.2.1
theorem dX1_takeOffset_41 : decode cX1_takeOffset 41 = .ok (.getfield 53, 3) := dq_X1_takeOffset_32.2.2.2.2.2.1
theorem dX1_takeOffset_44 : decode cX1_takeOffset 44 = .ok (.sipush 256, 3) := dq_X1_takeOffset_32.2.2.2.2.2.2.1
theorem dX1_takeOffset_47 : decode cX1_takeOffset 47 = .ok (.imul, 1) := dq_X1_takeOffset_32.2.2.2.2.2.2.2.1
theorem dX1_takeOffset_48 : decode cX1_takeOffset 48 = .ok (.aload_n 0, 1) := dq_X1_takeOffset_32.2.2.2.2.2.2.2.2.1
theorem dX1_takeOffset_49 : decode cX1_takeOffset 49 = .ok (.getfield 21, 3) := dq_X1_takeOffset_32.2.2.2.2.2.2.2.2.2.1
theorem dX1_takeOffset_52 : decode cX1_takeOffset 52 = .ok (.aload_n 0, 1) := dq_X1_takeOffset_32.2.2.2.2.2.2.2.2.2.2.1
theorem dX1_takeOffset_53 : decode cX1_takeOffset 53 = .ok (.getfield 32, 3) := dq_X1_takeOffset_32.2.2.2.2.2.2.2.2.2.2.2.1
theorem dX1_takeOffset_56 : decode cX1_takeOffset 56 = .ok (.invokevirtual 111, 3) := dq_X1_takeOffset_32.2.2.2.2.2.2.2.2.2.2.2.2.1
theorem dX1_takeOffset_59 : decode cX1_takeOffset 59 = .ok (.getfield 137, 3) := dq_X1_takeOffset_32.2.2.2.2.2.2.2.2.2.2.2.2.2.1
theorem dX1_takeOffset_62 : decode cX1_takeOffset 62 = .ok (.if_icmp .lt 8, 3) := dq_X1_takeOffset_32.2.2.2.2.2.2.2.2.2.2.2.2.2.2.1
theorem dX1_takeOffset_65 : decode cX1_takeOffset 65 = .ok (.aload_n 0, 1) := dq_X1_takeOffset_32.2.2.2.2.2.2.2.2.2.2.2.2.2.2.2
theorem dq_X1_takeOffset_66 : (decode cX1_takeOffset 66 = .ok (.iconst 0, 1)) ∧ (decode cX1_takeOffset 67 = .ok (.putfield 72, 3)) ∧ (decode cX1_takeOffset 70 = .ok (.return_, 1)) := by decide +kernel
theorem dX1_takeOffset_66 : decode cX1_takeOffset 66 = .ok (.iconst 0, 1) := dq_X1_takeOffset_66.1
theorem dX1_takeOffset_67 : decode cX1_takeOffset 67 = .ok (.putfield 72, 3) := dq_X1_takeOffset_66.2.1
theorem dX1_takeOffset_70 : decode cX1_takeOffset 70 = .ok (.return_, 1) := dq_X1_takeOffset_66.2.2
theorem dq_X1_rowOfBreak_0 : (decode cX1_rowOfBreak 0 = .ok (.bipush 10, 2)) ∧ (decode cX1_rowOfBreak 2 = .ok (.aload_n 0, 1)) ∧ (decode cX1_rowOfBreak 3 = .ok (.invokevirtual 105, 3)) ∧ (decode cX1_rowOfBreak 6 = .ok (.imul, 1)) ∧ (decode cX1_rowOfBreak 7 = .ok (.aload_n 0, 1)) ∧ (decode cX1_rowOfBreak 8 = .ok (.invokevirtual 108, 3)) ∧ (decode cX1_rowOfBreak 11 = .ok (.iadd, 1)) ∧ (decode cX1_rowOfBreak 12 = .ok (.istore_n 1, 1)) ∧ (decode cX1_rowOfBreak 13 = .ok (.iload_n 1, 1)) ∧ (decode cX1_rowOfBreak 14 = .ok (.bipush 64, 2)) ∧ (decode cX1_rowOfBreak 16 = .ok (.if_icmp .ge 7, 3)) ∧ (decode cX1_rowOfBreak 19 = .ok (.iload_n 1, 1)) ∧ (decode cX1_rowOfBreak 20 = .ok (.goto 4, 3)) ∧ (decode cX1_rowOfBreak 23 = .ok (.iconst 0, 1)) ∧ (decode cX1_rowOfBreak 24 = .ok (.ireturn, 1)) := by decide +kernel
theorem dX1_rowOfBreak_0 : decode cX1_rowOfBreak 0 = .ok (.bipush 10, 2) := dq_X1_rowOfBreak_0.1
theorem dX1_rowOfBreak_2 : decode cX1_rowOfBreak 2 = .ok (.aload_n 0, 1) := dq_X1_rowOfBreak_0.2.1
theorem dX1_rowOfBreak_3 : decode cX1_rowOfBreak 3 = .ok (.invokevirtual 105, 3) := dq_X1_rowOfBreak_0.2.2.1
theorem dX1_rowOfBreak_6 : decode cX1_rowOfBreak 6 = .ok (.imul, 1) := dq_X1_rowOfBreak_0.2.2.2.1
theorem dX1_rowOfBreak_7 : decode cX1_rowOfBreak 7 = .ok (.aload_n 0, 1) := dq_X1_rowOfBreak_0.2.2.2.2.1
theorem dX1_rowOfBreak_8 : decode cX1_rowOfBreak 8 = .ok (.invokevirtual 108, 3) := dq_X1_rowOfBreak_0.2.2.2.2.2.1
theorem dX1_rowOfBreak_11 : decode cX1_rowOfBreak 11 = .ok (.iadd, 1) := dq_X1_rowOfBreak_0.2.2.2.2.2.2.1
theorem dX1_rowOfBreak_12 : decode cX1_rowOfBreak 12 = .ok (.istore_n 1, 1) := dq_X1_rowOfBreak_0.2.2.2.2.2.2.2.1
theorem dX1_rowOfBreak_13 : decode cX1_rowOfBreak 13 = .ok (.iload_n 1, 1) := dq_X1_rowOfBreak_0.2.2.2.2.2.2.2.2.1
theorem dX1_rowOfBreak_14 : decode cX1_rowOfBreak 14 = .ok (.bipush 64, 2) := dq_X1_rowOfBreak_0.2.2.2.2.2.2.2.2.2.1
theorem dX1_rowOfBreak_16 : decode cX1_rowOfBreak 16 = .ok (.if_icmp .ge 7, 3) := dq_X1_rowOfBreak_0.2.2.2.2.2.2.2.2.2.2.1
theorem dX1_rowOfBreak_19 : decode cX1_rowOfBreak 19 = .ok (.iload_n 1, 1) := dq_X1_rowOfBreak_0.2.2.2.2.2.2.2.2.2.2.2.1
theorem dX1_rowOfBreak_20 : decode cX1_rowOfBreak 20 = .ok (.goto 4, 3) := dq_X1_rowOfBreak_0.2.2.2.2.2.2.2.2.2.2.2.2.1
theorem dX1_rowOfBreak_23 : decode cX1_rowOfBreak 23 = .ok (.iconst 0, 1) := dq_X1_rowOfBreak_0.2.2.2.2.2.2.2.2.2.2.2.2.2.1
theorem dX1_rowOfBreak_24 : decode cX1_rowOfBreak 24 = .ok (.ireturn, 1) := dq_X1_rowOfBreak_0.2.2.2.2.2.2.2.2.2.2.2.2.2.2
theorem dq_X1_takePace_0 : (decode cX1_takePace 0 = .ok (.aload_n 0, 1)) ∧ (decode cX1_takePace 1 = .ok (.invokevirtual 140, 3)) ∧ (decode cX1_takePace 4 = .ok (.bipush 32, 2)) ∧ (decode cX1_takePace 6 = .ok (.if_icmp .lt 14, 3)) ∧ (decode cX1_takePace 9 = .ok (.aload_n 1, 1)) ∧ (decode cX1_takePace 10 = .ok (.aload_n 0, 1)) ∧ (decode cX1_takePace 11 = .ok (.invokevirtual 140, 3)) ∧ (decode cX1_takePace 14 = .ok (.putfield 175, 3)) ∧ (decode cX1_takePace 17 = .ok (.goto 18, 3)) ∧ (decode cX1_takePace 20 = .ok (.aload_n 0, 1)) ∧ (decode cX1_takePace 21 = .ok (.invokevirtual 140, 3)) ∧ (decode cX1_takePace 24 = .ok (.ifCond .le 11, 3)) ∧ (decode cX1_takePace 27 = .ok (.aload_n 1, 1)) ∧ (decode cX1_takePace 28 = .ok (.aload_n 0, 1)) ∧ (decode cX1_takePace 29 = .ok (.invokevirtual 140, 3)) ∧ (decode cX1_takePace 32 = .ok (.putfield 178, 3)) := by decide +kernel
theorem dX1_takePace_0 : decode cX1_takePace 0 = .ok (.aload_n 0, 1) := dq_X1_takePace_0.1
theorem dX1_takePace_1 : decode cX1_takePace 1 = .ok (.invokevirtual 140, 3) := dq_X1_takePace_0.2.1
theorem dX1_takePace_4 : decode cX1_takePace 4 = .ok (.bipush 32, 2) := dq_X1_takePace_0.2.2.1
theorem dX1_takePace_6 : decode cX1_takePace 6 = .ok (.if_icmp .lt 14, 3) := dq_X1_takePace_0.2.2.2.1
theorem dX1_takePace_9 : decode cX1_takePace 9 = .ok (.aload_n 1, 1) := dq_X1_takePace_0.2.2.2.2.1
theorem dX1_takePace_10 : decode cX1_takePace 10 = .ok (.aload_n 0, 1) := dq_X1_takePace_0.2.2.2.2.2.1
theorem dX1_takePace_11 : decode cX1_takePace 11 = .ok (.invokevirtual 140, 3) := dq_X1_takePace_0.2.2.2.2.2.2.1
theorem dX1_takePace_14 : decode cX1_takePace 14 = .ok (.putfield 175, 3) := dq_X1_takePace_0.2.2.2.2.2.2.2.1
theorem dX1_takePace_17 : decode cX1_takePace 17 = .ok (.goto 18, 3) := dq_X1_takePace_0.2.2.2.2.2.2.2.2.1
theorem dX1_takePace_20 : decode cX1_takePace 20 = .ok (.aload_n 0, 1) := dq_X1_takePace_0.2.2.2.2.2.2.2.2.2.1
theorem dX1_takePace_21 : decode cX1_takePace 21 = .ok (.invokevirtual 140, 3) := dq_X1_takePace_0.2.2.2.2.2.2.2.2.2.2.1
theorem dX1_takePace_24 : decode cX1_takePace 24 = .ok (.ifCond .le 11, 3) := dq_X1_takePace_0.2.2.2.2.2.2.2.2.2.2.2.1
theorem dX1_takePace_27 : decode cX1_takePace 27 = .ok (.aload_n 1, 1) := dq_X1_takePace_0.2.2.2.2.2.2.2.2.2.2.2.2.1
theorem dX1_takePace_28 : decode cX1_takePace 28 = .ok (.aload_n 0, 1) := dq_X1_takePace_0.2.2.2.2.2.2.2.2.2.2.2.2.2.1
theorem dX1_takePace_29 : decode cX1_takePace 29 = .ok (.invokevirtual 140, 3) := dq_X1_takePace_0.2.2.2.2.2.2.2.2.2.2.2.2.2.2.1
theorem dX1_takePace_32 : decode cX1_takePace 32 = .ok (.putfield 178, 3) := dq_X1_takePace_0.2.2.2.2.2.2.2.2.2.2.2.2.2.2.2
theorem dX1_takePace_35 : decode cX1_takePace 35 = .ok (.return_, 1) := by decide +kernel
theorem dq_X1_actExtended_0 : (decode cX1_actExtended 0 = .ok (.aload_n 0, 1)) ∧ (decode cX1_actExtended 1 = .ok (.invokevirtual 105, 3)) ∧ (decode cX1_actExtended 4 = .ok (.tableswitch 199 1 14 #[72, 84, 199, 95, 111, 141, 149, 199, 199, 165, 176, 199, 199, 188], 72)) ∧ (decode cX1_actExtended 76 = .ok (.aload_n 0, 1)) ∧ (decode cX1_actExtended 77 = .ok (.aload_n 0, 1)) ∧ (decode cX1_actExtended 78 = .ok (.invokevirtual 108, 3)) ∧ (decode cX1_actExtended 81 = .ok (.ineg, 1)) ∧ (decode cX1_actExtended 82 = .ok (.invokevirtual 181, 3)) ∧ (decode cX1_actExtended 85 = .ok (.goto 118, 3)) ∧ (decode cX1_actExtended 88 = .ok (.aload_n 0, 1)) ∧ (decode cX1_actExtended 89 = .ok (.aload_n 0, 1)) ∧ (decode cX1_actExtended 90 = .ok (.invokevirtual 108, 3)) ∧ (decode cX1_actExtended 93 = .ok (.invokevirtual 181, 3)) ∧ (decode cX1_actExtended 96 = .ok (.goto 107, 3)) ∧ (decode cX1_actExtended 99 = .ok (.aload_n 0, 1)) ∧ (decode cX1_actExtended 100 = .ok (.getfield 12, 3)) := by decide +kernel
theorem dX1_actExtended_0 : decode cX1_actExtended 0 = .ok (.aload_n 0, 1) := dq_X1_actExtended_0.1
theorem dX1_actExtended_1 : decode cX1_actExtended 1 = .ok (.invokevirtual 105, 3) := dq_X1_actExtended_0.2.1
theorem dX1_actExtended_4 : decode cX1_actExtended 4 = .ok (.tableswitch 199 1 14 #[72, 84, 199, 95, 111, 141, 149, 199, 199, 165, 176, 199, 199, 188], 72) := dq_X1_actExtended_0.2.2.1
theorem dX1_actExtended_76 : decode cX1_actExtended 76 = .ok (.aload_n 0, 1) := dq_X1_actExtended_0.2.2.2.1
theorem dX1_actExtended_77 : decode cX1_actExtended 77 = .ok (.aload_n 0, 1) := dq_X1_actExtended_0.2.2.2.2.1
theorem dX1_actExtended_78 : decode cX1_actExtended 78 = .ok (.invokevirtual 108, 3) := dq_X1_actExtended_0.2.2.2.2.2.1
theorem dX1_actExtended_81 : decode cX1_actExtended 81 = .ok (.ineg, 1) := dq_X1_actExtended_0.2.2.2.2.2.2.1
theorem dX1_actExtended_82 : decode cX1_actExtended 82 = .ok (.invokevirtual 181, 3) := dq_X1_actExtended_0.2.2.2.2.2.2.2.1
theorem dX1_actExtended_85 : decode cX1_actExtended 85 = .ok (.goto 118, 3) := dq_X1_actExtended_0.2.2.2.2.2.2.2.2.1
theorem dX1_actExtended_88 : decode cX1_actExtended 88 = .ok (.aload_n 0, 1) := dq_X1_actExtended_0.2.2.2.2.2.2.2.2.2.1
theorem dX1_actExtended_89 : decode cX1_actExtended 89 = .ok (.aload_n 0, 1) := dq_X1_actExtended_0.2.2.2.2.2.2.2.2.2.2.1
theorem dX1_actExtended_90 : decode cX1_actExtended 90 = .ok (.invokevirtual 108, 3) := dq_X1_actExtended_0.2.2.2.2.2.2.2.2.2.2.2.1
theorem dX1_actExtended_93 : decode cX1_actExtended 93 = .ok (.invokevirtual 181, 3) := dq_X1_actExtended_0.2.2.2.2.2.2.2.2.2.2.2.2.1
theorem dX1_actExtended_96 : decode cX1_actExtended 96 = .ok (.goto 107, 3) := dq_X1_actExtended_0.2.2.2.2.2.2.2.2.2.2.2.2.2.1
theorem dX1_actExtended_99 : decode cX1_actExtended 99 = .ok (.aload_n 0, 1) := dq_X1_actExtended_0.2.2.2.2.2.2.2.2.2.2.2.2.2.2.1
theorem dX1_actExtended_100 : decode cX1_actExtended 100 = .ok (.getfield 12, 3) := dq_X1_actExtended_0.2.2.2.2.2.2.2.2.2.2.2.2.2.2.2
theorem dq_X1_actExtended_103 : (decode cX1_actExtended 103 = .ok (.aload_n 0, 1)) ∧ (decode cX1_actExtended 104 = .ok (.invokevirtual 108, 3)) ∧ (decode cX1_actExtended 107 = .ok (.iconst 4, 1)) ∧ (decode cX1_actExtended 108 = .ok (.irem, 1)) ∧ (decode cX1_actExtended 109 = .ok (.putfield 184, 3)) ∧ (decode cX1_actExtended 112 = .ok (.goto 91, 3)) ∧ (decode cX1_actExtended 115 = .ok (.aload_n 0, 1)) ∧ (decode cX1_actExtended 116 = .ok (.aload_n 0, 1)) ∧ (decode cX1_actExtended 117 = .ok (.invokevirtual 108, 3)) ∧ (decode cX1_actExtended 120 = .ok (.bipush 7, 2)) ∧ (decode cX1_actExtended 122 = .ok (.if_icmp .le 13, 3)) ∧ (decode cX1_actExtended 125 = .ok (.aload_n 0, 1)) ∧ (decode cX1_actExtended 126 = .ok (.invokevirtual 108, 3)) ∧ (decode cX1_actExtended 129 = .ok (.bipush 16, 2)) ∧ (decode cX1_actExtended 131 = .ok (.isub, 1)) ∧ (decode cX1_actExtended 132 = .ok (.goto 7, 3)) := by decide +kernel
theorem dX1_actExtended_103 : decode cX1_actExtended 103 = .ok (.aload_n 0, 1) := dq_X1_actExtended_103.1
theorem dX1_actExtended_104 : decode cX1_actExtended 104 = .ok (.invokevirtual 108, 3) := dq_X1_actExtended_103.2.1
theorem dX1_actExtended_107 : decode cX1_actExtended 107 = .ok (.iconst 4, 1) := dq_X1_actExtended_103.2.2.1
theorem dX1_actExtended_108 : decode cX1_actExtended 108 = .ok (.irem, 1) := dq_X1_actExtended_103.2.2.2.1
theorem dX1_actExtended_109 : decode cX1_actExtended 109 = .ok (.putfield 184, 3) := dq_X1_actExtended_103.2.2.2.2.1
theorem dX1_actExtended_112 : decode cX1_actExtended 112 = .ok (.goto 91, 3) := dq_X1_actExtended_103.2.2.2.2.2.1
theorem dX1_actExtended_115 : decode cX1_actExtended 115 = .ok (.aload_n 0, 1) := dq_X1_actExtended_103.2.2.2.2.2.2.1
theorem dX1_actExtended_116 : decode cX1_actExtended 116 = .ok (.aload_n 0, 1) := dq_X1_actExtended_103.2.2.2.2.2.2.2.1
theorem dX1_actExtended_117 : decode cX1_actExtended 117 = .ok (.invokevirtual 108, 3) := dq_X1_actExtended_103.2.2.2.2.2.2.2.2.1
theorem dX1_actExtended_120 : decode cX1_actExtended 120 = .ok (.bipush 7, 2) := dq_X1_actExtended_103.2.2.2.2.2.2.2.2.2.1
theorem dX1_actExtended_122 : decode cX1_actExtended 122 = .ok (.if_icmp .le 13, 3) := dq_X1_actExtended_103.2.2.2.2.2.2.2.2.2.2.1
theorem dX1_actExtended_125 : decode cX1_actExtended 125 = .ok (.aload_n 0, 1) := dq_X1_actExtended_103.2.2.2.2.2.2.2.2.2.2.2.1
theorem dX1_actExtended_126 : decode cX1_actExtended 126 = .ok (.invokevirtual 108, 3) := dq_X1_actExtended_103.2.2.2.2.2.2.2.2.2.2.2.2.1
theorem dX1_actExtended_129 : decode cX1_actExtended 129 = .ok (.bipush 16, 2) := dq_X1_actExtended_103.2.2.2.2.2.2.2.2.2.2.2.2.2.1
theorem dX1_actExtended_131 : decode cX1_actExtended 131 = .ok (.isub, 1) := dq_X1_actExtended_103.2.2.2.2.2.2.2.2.2.2.2.2.2.2.1
theorem dX1_actExtended_132 : decode cX1_actExtended 132 = .ok (.goto 7, 3) := dq_X1_actExtended_103.2.2.2.2.2.2.2.2.2.2.2.2.2.2.2
theorem dq_X1_actExtended_135 : (decode cX1_actExtended 135 = .ok (.aload_n 0, 1)) ∧ (decode cX1_actExtended 136 = .ok (.invokevirtual 108, 3)) ∧ (decode cX1_actExtended 139 = .ok (.putfield 38, 3)) ∧ (decode cX1_actExtended 142 = .ok (.goto 61, 3)) ∧ (decode cX1_actExtended 145 = .ok (.aload_n 0, 1)) ∧ (decode cX1_actExtended 146 = .ok (.aload_n 1, 1)) ∧ (decode cX1_actExtended 147 = .ok (.invokevirtual 187, 3)) ∧ (decode cX1_actExtended 150 = .ok (.goto 53, 3)) ∧ (decode cX1_actExtended 153 = .ok (.aload_n 0, 1)) ∧ (decode cX1_actExtended 154 = .ok (.getfield 18, 3)) ∧ (decode cX1_actExtended 157 = .ok (.aload_n 0, 1)) ∧ (decode cX1_actExtended 158 = .ok (.invokevirtual 108, 3)) ∧ (decode cX1_actExtended 161 = .ok (.iconst 4, 1)) ∧ (decode cX1_actExtended 162 = .ok (.irem, 1)) ∧ (decode cX1_actExtended 163 = .ok (.putfield 184, 3)) ∧ (decode cX1_actExtended 166 = .ok (.goto 37, 3)) := by decide +kernel
theorem dX1_actExtended_135 : decode cX1_actExtended 135 = .ok (.aload_n 0, 1) := dq_X1_actExtended_135.1
theorem dX1_actExtended_136 : decode cX1_actExtended 136 = .ok (.invokevirtual 108, 3) := dq_X1_actExtended_135.2.1
theorem dX1_actExtended_139 : decode cX1_actExtended 139 = .ok (.putfield 38, 3) := dq_X1_actExtended_135.2.2.1
theorem dX1_actExtended_142 : decode cX1_actExtended 142 = .ok (.goto 61, 3) := dq_X1_actExtended_135.2.2.2.1
theorem dX1_actExtended_145 : decode cX1_actExtended 145 = .ok (.aload_n 0, 1) := dq_X1_actExtended_135.2.2.2.2.1
theorem dX1_actExtended_146 : decode cX1_actExtended 146 = .ok (.aload_n 1, 1) := dq_X1_actExtended_135.2.2.2.2.2.1
theorem dX1_actExtended_147 : decode cX1_actExtended 147 = .ok (.invokevirtual 187, 3) := dq_X1_actExtended_135.2.2.2.2.2.2.1
theorem dX1_actExtended_150 : decode cX1_actExtended 150 = .ok (.goto 53, 3) := dq_X1_actExtended_135.2.2.2.2.2.2.2.1
theorem dX1_actExtended_153 : decode cX1_actExtended 153 = .ok (.aload_n 0, 1) := dq_X1_actExtended_135.2.2.2.2.2.2.2.2.1
theorem dX1_actExtended_154 : decode cX1_actExtended 154 = .ok (.getfield 18, 3) := dq_X1_actExtended_135.2.2.2.2.2.2.2.2.2.1
theorem dX1_actExtended_157 : decode cX1_actExtended 157 = .ok (.aload_n 0, 1) := dq_X1_actExtended_135.2.2.2.2.2.2.2.2.2.2.1
theorem dX1_actExtended_158 : decode cX1_actExtended 158 = .ok (.invokevirtual 108, 3) := dq_X1_actExtended_135.2.2.2.2.2.2.2.2.2.2.2.1
theorem dX1_actExtended_161 : decode cX1_actExtended 161 = .ok (.iconst 4, 1) := dq_X1_actExtended_135.2.2.2.2.2.2.2.2.2.2.2.2.1
theorem dX1_actExtended_162 : decode cX1_actExtended 162 = .ok (.irem, 1) := dq_X1_actExtended_135.2.2.2.2.2.2.2.2.2.2.2.2.2.1
theorem dX1_actExtended_163 : decode cX1_actExtended 163 = .ok (.putfield 184, 3) := dq_X1_actExtended_135.2.2.2.2.2.2.2.2.2.2.2.2.2.2.1
theorem dX1_actExtended_166 : decode cX1_actExtended 166 = .ok (.goto 37, 3) := dq_X1_actExtended_135.2.2.2.2.2.2.2.2.2.2.2.2.2.2.2
theorem dq_X1_actExtended_169 : (decode cX1_actExtended 169 = .ok (.aload_n 0, 1)) ∧ (decode cX1_actExtended 170 = .ok (.aload_n 0, 1)) ∧ (decode cX1_actExtended 171 = .ok (.invokevirtual 108, 3)) ∧ (decode cX1_actExtended 174 = .ok (.invokevirtual 190, 3)) ∧ (decode cX1_actExtended 177 = .ok (.goto 26, 3)) ∧ (decode cX1_actExtended 180 = .ok (.aload_n 0, 1)) ∧ (decode cX1_actExtended 181 = .ok (.aload_n 0, 1)) ∧ (decode cX1_actExtended 182 = .ok (.invokevirtual 108, 3)) ∧ (decode cX1_actExtended 185 = .ok (.ineg, 1)) ∧ (decode cX1_actExtended 186 = .ok (.invokevirtual 190, 3)) ∧ (decode cX1_actExtended 189 = .ok (.goto 14, 3)) ∧ (decode cX1_actExtended 192 = .ok (.aload_n 1, 1)) ∧ (decode cX1_actExtended 193 = .ok (.aload_n 0, 1)) ∧ (decode cX1_actExtended 194 = .ok (.invokevirtual 108, 3)) ∧ (decode cX1_actExtended 197 = .ok (.putfield 193, 3)) ∧ (decode cX1_actExtended 200 = .ok (.goto 3, 3)) := by decide +kernel
theorem dX1_actExtended_169 : decode cX1_actExtended 169 = .ok (.aload_n 0, 1) := dq_X1_actExtended_169.1
theorem dX1_actExtended_170 : decode cX1_actExtended 170 = .ok (.aload_n 0, 1) := dq_X1_actExtended_169.2.1
theorem dX1_actExtended_171 : decode cX1_actExtended 171 = .ok (.invokevirtual 108, 3) := dq_X1_actExtended_169.2.2.1
theorem dX1_actExtended_174 : decode cX1_actExtended 174 = .ok (.invokevirtual 190, 3) := dq_X1_actExtended_169.2.2.2.1
theorem dX1_actExtended_177 : decode cX1_actExtended 177 = .ok (.goto 26, 3) := dq_X1_actExtended_169.2.2.2.2.1
theorem dX1_actExtended_180 : decode cX1_actExtended 180 = .ok (.aload_n 0, 1) := dq_X1_actExtended_169.2.2.2.2.2.1
theorem dX1_actExtended_181 : decode cX1_actExtended 181 = .ok (.aload_n 0, 1) := dq_X1_actExtended_169.2.2.2.2.2.2.1
theorem dX1_actExtended_182 : decode cX1_actExtended 182 = .ok (.invokevirtual 108, 3) := dq_X1_actExtended_169.2.2.2.2.2.2.2.1
theorem dX1_actExtended_185 : decode cX1_actExtended 185 = .ok (.ineg, 1) := dq_X1_actExtended_169.2.2.2.2.2.2.2.2.1
theorem dX1_actExtended_186 : decode cX1_actExtended 186 = .ok (.invokevirtual 190, 3) := dq_X1_actExtended_169.2.2.2.2.2.2.2.2.2.1
theorem dX1_actExtended_189 : decode cX1_actExtended 189 = .ok (.goto 14, 3) := dq_X1_actExtended_169.2.2.2.2.2.2.2.2.2.2.1
theorem dX1_actExtended_192 : decode cX1_actExtended 192 = .ok (.aload_n 1, 1) := dq_X1_actExtended_169.2.2.2.2.2.2.2.2.2.2.2.1
theorem dX1_actExtended_193 : decode cX1_actExtended 193 = .ok (.aload_n 0, 1) := dq_X1_actExtended_169.2.2.2.2.2.2.2.2.2.2.2.2.1
theorem dX1_actExtended_194 : decode cX1_actExtended 194 = .ok (.invokevirtual 108, 3) := dq_X1_actExtended_169.2.2.2.2.2.2.2.2.2.2.2.2.2.1
theorem dX1_actExtended_197 : decode cX1_actExtended 197 = .ok (.putfield 193, 3) := dq_X1_actExtended_169.2.2.2.2.2.2.2.2.2.2.2.2.2.2.1
theorem dX1_actExtended_200 : decode cX1_actExtended 200 = .ok (.goto 3, 3) := dq_X1_actExtended_169.2.2.2.2.2.2.2.2.2.2.2.2.2.2.2
theorem dX1_actExtended_203 : decode cX1_actExtended 203 = .ok (.return_, 1) := by decide +kernel
theorem dq_X1_repeatRows_0 : (decode cX1_repeatRows 0 = .ok (.aload_n 0, 1)) ∧ (decode cX1_repeatRows 1 = .ok (.invokevirtual 108, 3)) ∧ (decode cX1_repeatRows 4 = .ok (.ifCond .ne 12, 3)) ∧ (decode cX1_repeatRows 7 = .ok (.aload_n 0, 1)) ∧ (decode cX1_repeatRows 8 = .ok (.aload_n 1, 1)) ∧ (decode cX1_repeatRows 9 = .ok (.getfield 196, 3)) ∧ (decode cX1_repeatRows 12 = .ok (.putfield 56, 3)) ∧ (decode cX1_repeatRows 15 = .ok (.return_, 1)) ∧ (decode cX1_repeatRows 16 = .ok (.aload_n 0, 1)) ∧ (decode cX1_repeatRows 17 = .ok (.aload_n 0, 1)) ∧ (decode cX1_repeatRows 18 = .ok (.getfield 59, 3)) ∧ (decode cX1_repeatRows 21 = .ok (.ifCond .ne 10, 3)) ∧ (decode cX1_repeatRows 24 = .ok (.aload_n 0, 1)) ∧ (decode cX1_repeatRows 25 = .ok (.invokevirtual 108, 3)) ∧ (decode cX1_repeatRows 28 = .ok (.goto 9, 3)) ∧ (decode cX1_repeatRows 31 = .ok (.aload_n 0, 1)) := by decide +kernel
theorem dX1_repeatRows_0 : decode cX1_repeatRows 0 = .ok (.aload_n 0, 1) := dq_X1_repeatRows_0.1
theorem dX1_repeatRows_1 : decode cX1_repeatRows 1 = .ok (.invokevirtual 108, 3) := dq_X1_repeatRows_0.2.1
theorem dX1_repeatRows_4 : decode cX1_repeatRows 4 = .ok (.ifCond .ne 12, 3) := dq_X1_repeatRows_0.2.2.1
theorem dX1_repeatRows_7 : decode cX1_repeatRows 7 = .ok (.aload_n 0, 1) := dq_X1_repeatRows_0.2.2.2.1
theorem dX1_repeatRows_8 : decode cX1_repeatRows 8 = .ok (.aload_n 1, 1) := dq_X1_repeatRows_0.2.2.2.2.1
theorem dX1_repeatRows_9 : decode cX1_repeatRows 9 = .ok (.getfield 196, 3) := dq_X1_repeatRows_0.2.2.2.2.2.1
theorem dX1_repeatRows_12 : decode cX1_repeatRows 12 = .ok (.putfield 56, 3) := dq_X1_repeatRows_0.2.2.2.2.2.2.1
theorem dX1_repeatRows_15 : decode cX1_repeatRows 15 = .ok (.return_, 1) := dq_X1_repeatRows_0.2.2.2.2.2.2.2.1
theorem dX1_repeatRows_16 : decode cX1_repeatRows 16 = .ok (.aload_n 0, 1) := dq_X1_repeatRows_0.2.2.2.2.2.2.2.2.1
theorem dX1_repeatRows_17 : decode cX1_repeatRows 17 = .ok (.aload_n 0, 1) := dq_X1_repeatRows_0.2.2.2.2.2.2.2.2.2.1
theorem dX1_repeatRows_18 : decode cX1_repeatRows 18 = .ok (.getfield 59, 3) := dq_X1_repeatRows_0.2.2.2.2.2.2.2.2.2.2.1
theorem dX1_repeatRows_21 : decode cX1_repeatRows 21 = .ok (.ifCond .ne 10, 3) := dq_X1_repeatRows_0.2.2.2.2.2.2.2.2.2.2.2.1
theorem dX1_repeatRows_24 : decode cX1_repeatRows 24 = .ok (.aload_n 0, 1) := dq_X1_repeatRows_0.2.2.2.2.2.2.2.2.2.2.2.2.1
theorem dX1_repeatRows_25 : decode cX1_repeatRows 25 = .ok (.invokevirtual 108, 3) := dq_X1_repeatRows_0.2.2.2.2.2.2.2.2.2.2.2.2.2.1
theorem dX1_repeatRows_28 : decode cX1_repeatRows 28 = .ok (.goto 9, 3) := dq_X1_repeatRows_0.2.2.2.2.2.2.2.2.2.2.2.2.2.2.1
theorem dX1_repeatRows_31 : decode cX1_repeatRows 31 = .ok (.aload_n 0, 1) := dq_X1_repeatRows_0.2.2.2.2.2.2.2.2.2.2.2.2.2.2.2
theorem dq_X1_repeatRows_32 : (decode cX1_repeatRows 32 = .ok (.getfield 59, 3)) ∧ (decode cX1_repeatRows 35 = .ok (.iconst 1, 1)) ∧ (decode cX1_repeatRows 36 = .ok (.isub, 1)) ∧ (decode cX1_repeatRows 37 = .ok (.putfield 59, 3)) ∧ (decode cX1_repeatRows 40 = .ok (.aload_n 0, 1)) ∧ (decode cX1_repeatRows 41 = .ok (.getfield 59, 3)) ∧ (decode cX1_repeatRows 44 = .ok (.ifCond .eq 11, 3)) ∧ (decode cX1_repeatRows 47 = .ok (.aload_n 1, 1)) ∧ (decode cX1_repeatRows 48 = .ok (.aload_n 0, 1)) ∧ (decode cX1_repeatRows 49 = .ok (.getfield 56, 3)) ∧ (decode cX1_repeatRows 52 = .ok (.putfield 199, 3)) ∧ (decode cX1_repeatRows 55 = .ok (.return_, 1)) := by decide +kernel
theorem dX1_repeatRows_32 : decode cX1_repeatRows 32 = .ok (.getfield 59, 3) := dq_X1_repeatRows_32.1
theorem dX1_repeatRows_35 : decode cX1_repeatRows 35 = .ok (.iconst 1, 1) := dq_X1_repeatRows_32.2.1
theorem dX1_repeatRows_36 : decode cX1_repeatRows 36 = .ok (.isub, 1) := dq_X1_repeatRows_32.2.2.1
theorem dX1_repeatRows_37 : decode cX1_repeatRows 37 = .ok (.putfield 59, 3) := dq_X1_repeatRows_32.2.2.2.1
theorem dX1_repeatRows_40 : decode cX1_repeatRows 40 = .ok (.aload_n 0, 1) := dq_X1_repeatRows_32.2.2.2.2.1
theorem dX1_repeatRows_41 : decode cX1_repeatRows 41 = .ok (.getfield 59, 3) := dq_X1_repeatRows_32.2.2.2.2.2.1
theorem dX1_repeatRows_44 : decode cX1_repeatRows 44 = .ok (.ifCond .eq 11, 3) := dq_X1_repeatRows_32.2.2.2.2.2.2.1
theorem dX1_repeatRows_47 : decode cX1_repeatRows 47 = .ok (.aload_n 1, 1) := dq_X1_repeatRows_32.2.2.2.2.2.2.2.1
theorem dX1_repeatRows_48 : decode cX1_repeatRows 48 = .ok (.aload_n 0, 1) := dq_X1_repeatRows_32.2.2.2.2.2.2.2.2.1
theorem dX1_repeatRows_49 : decode cX1_repeatRows 49 = .ok (.getfield 56, 3) := dq_X1_repeatRows_32.2.2.2.2.2.2.2.2.2.1
theorem dX1_repeatRows_52 : decode cX1_repeatRows 52 = .ok (.putfield 199, 3) := dq_X1_repeatRows_32.2.2.2.2.2.2.2.2.2.2.1
theorem dX1_repeatRows_55 : decode cX1_repeatRows 55 = .ok (.return_, 1) := dq_X1_repeatRows_32.2.2.2.2.2.2.2.2.2.2.2
theorem dq_X1_slidePeriod_0 : (decode cX1_slidePeriod 0 = .ok (.aload_n 0, 1)) ∧ (decode cX1_slidePeriod 1 = .ok (.getfield 41, 3)) ∧ (decode cX1_slidePeriod 4 = .ok (.ifCond .eq 21, 3)) ∧ (decode cX1_slidePeriod 7 = .ok (.aload_n 0, 1)) ∧ (decode cX1_slidePeriod 8 = .ok (.aload_n 0, 1)) ∧ (decode cX1_slidePeriod 9 = .ok (.getfield 41, 3)) ∧ (decode cX1_slidePeriod 12 = .ok (.iload_n 1, 1)) ∧ (decode cX1_slidePeriod 13 = .ok (.iadd, 1)) ∧ (decode cX1_slidePeriod 14 = .ok (.bipush 113, 2)) ∧ (decode cX1_slidePeriod 16 = .ok (.sipush 856, 3)) ∧ (decode cX1_slidePeriod 19 = .ok (.invokestatic 133, 3)) ∧ (decode cX1_slidePeriod 22 = .ok (.putfield 41, 3)) ∧ (decode cX1_slidePeriod 25 = .ok (.return_, 1)) := by decide +kernel
theorem dX1_slidePeriod_0 : decode cX1_slidePeriod 0 = .ok (.aload_n 0, 1) := dq_X1_slidePeriod_0.1
theorem dX1_slidePeriod_1 : decode cX1_slidePeriod 1 = .ok (.getfield 41, 3) := dq_X1_slidePeriod_0.2.1
theorem dX1_slidePeriod_4 : decode cX1_slidePeriod 4 = .ok (.ifCond .eq 21, 3) := dq_X1_slidePeriod_0.2.2.1
theorem dX1_slidePeriod_7 : decode cX1_slidePeriod 7 = .ok (.aload_n 0, 1) := dq_X1_slidePeriod_0.2.2.2.1
theorem dX1_slidePeriod_8 : decode cX1_slidePeriod 8 = .ok (.aload_n 0, 1) := dq_X1_slidePeriod_0.2.2.2.2.1
theorem dX1_slidePeriod_9 : decode cX1_slidePeriod 9 = .ok (.getfield 41, 3) := dq_X1_slidePeriod_0.2.2.2.2.2.1
theorem dX1_slidePeriod_12 : decode cX1_slidePeriod 12 = .ok (.iload_n 1, 1) := dq_X1_slidePeriod_0.2.2.2.2.2.2.1
theorem dX1_slidePeriod_13 : decode cX1_slidePeriod 13 = .ok (.iadd, 1) := dq_X1_slidePeriod_0.2.2.2.2.2.2.2.1
theorem dX1_slidePeriod_14 : decode cX1_slidePeriod 14 = .ok (.bipush 113, 2) := dq_X1_slidePeriod_0.2.2.2.2.2.2.2.2.1
theorem dX1_slidePeriod_16 : decode cX1_slidePeriod 16 = .ok (.sipush 856, 3) := dq_X1_slidePeriod_0.2.2.2.2.2.2.2.2.2.1
theorem dX1_slidePeriod_19 : decode cX1_slidePeriod 19 = .ok (.invokestatic 133, 3) := dq_X1_slidePeriod_0.2.2.2.2.2.2.2.2.2.2.1
theorem dX1_slidePeriod_22 : decode cX1_slidePeriod 22 = .ok (.putfield 41, 3) := dq_X1_slidePeriod_0.2.2.2.2.2.2.2.2.2.2.2.1
theorem dX1_slidePeriod_25 : decode cX1_slidePeriod 25 = .ok (.return_, 1) := dq_X1_slidePeriod_0.2.2.2.2.2.2.2.2.2.2.2.2
theorem dq_X1_slideVolume_0 : (decode cX1_slideVolume 0 = .ok (.aload_n 0, 1)) ∧ (decode cX1_slideVolume 1 = .ok (.aload_n 0, 1)) ∧ (decode cX1_slideVolume 2 = .ok (.getfield 35, 3)) ∧ (decode cX1_slideVolume 5 = .ok (.iload_n 1, 1)) ∧ (decode cX1_slideVolume 6 = .ok (.iadd, 1)) ∧ (decode cX1_slideVolume 7 = .ok (.iconst 0, 1)) ∧ (decode cX1_slideVolume 8 = .ok (.bipush 64, 2)) ∧ (decode cX1_slideVolume 10 = .ok (.invokestatic 133, 3)) ∧ (decode cX1_slideVolume 13 = .ok (.putfield 35, 3)) ∧ (decode cX1_slideVolume 16 = .ok (.return_, 1)) := by decide +kernel
theorem dX1_slideVolume_0 : decode cX1_slideVolume 0 = .ok (.aload_n 0, 1) := dq_X1_slideVolume_0.1
theorem dX1_slideVolume_1 : decode cX1_slideVolume 1 = .ok (.aload_n 0, 1) := dq_X1_slideVolume_0.2.1
theorem dX1_slideVolume_2 : decode cX1_slideVolume 2 = .ok (.getfield 35, 3) := dq_X1_slideVolume_0.2.2.1
theorem dX1_slideVolume_5 : decode cX1_slideVolume 5 = .ok (.iload_n 1, 1) := dq_X1_slideVolume_0.2.2.2.1
theorem dX1_slideVolume_6 : decode cX1_slideVolume 6 = .ok (.iadd, 1) := dq_X1_slideVolume_0.2.2.2.2.1
theorem dX1_slideVolume_7 : decode cX1_slideVolume 7 = .ok (.iconst 0, 1) := dq_X1_slideVolume_0.2.2.2.2.2.1
theorem dX1_slideVolume_8 : decode cX1_slideVolume 8 = .ok (.bipush 64, 2) := dq_X1_slideVolume_0.2.2.2.2.2.2.1
theorem dX1_slideVolume_10 : decode cX1_slideVolume 10 = .ok (.invokestatic 133, 3) := dq_X1_slideVolume_0.2.2.2.2.2.2.2.1
theorem dX1_slideVolume_13 : decode cX1_slideVolume 13 = .ok (.putfield 35, 3) := dq_X1_slideVolume_0.2.2.2.2.2.2.2.2.1
theorem dX1_slideVolume_16 : decode cX1_slideVolume 16 = .ok (.return_, 1) := dq_X1_slideVolume_0.2.2.2.2.2.2.2.2.2
theorem dq_X1_actLater_0 : (decode cX1_actLater 0 = .ok (.aload_n 0, 1)) ∧ (decode cX1_actLater 1 = .ok (.invokevirtual 95, 3)) ∧ (decode cX1_actLater 4 = .ok (.tableswitch 111 1 10 #[56, 68, 79, 111, 86, 97, 111, 111, 111, 104], 56)) ∧ (decode cX1_actLater 60 = .ok (.aload_n 0, 1)) ∧ (decode cX1_actLater 61 = .ok (.aload_n 0, 1)) ∧ (decode cX1_actLater 62 = .ok (.invokevirtual 140, 3)) ∧ (decode cX1_actLater 65 = .ok (.ineg, 1)) ∧ (decode cX1_actLater 66 = .ok (.invokevirtual 181, 3)) ∧ (decode cX1_actLater 69 = .ok (.goto 46, 3)) ∧ (decode cX1_actLater 72 = .ok (.aload_n 0, 1)) ∧ (decode cX1_actLater 73 = .ok (.aload_n 0, 1)) ∧ (decode cX1_actLater 74 = .ok (.invokevirtual 140, 3)) ∧ (decode cX1_actLater 77 = .ok (.invokevirtual 181, 3)) ∧ (decode cX1_actLater 80 = .ok (.goto 35, 3)) ∧ (decode cX1_actLater 83 = .ok (.aload_n 0, 1)) ∧ (decode cX1_actLater 84 = .ok (.invokevirtual 200, 3)) := by decide +kernel
theorem dX1_actLater_0 : decode cX1_actLater 0 = .ok (.aload_n 0, 1) := dq_X1_actLater_0.1
theorem dX1_actLater_1 : decode cX1_actLater 1 = .ok (.invokevirtual 95, 3) := dq_X1_actLater_0.2.1
theorem dX1_actLater_4 : decode cX1_actLater 4 = .ok (.tableswitch 111 1 10 #[56, 68, 79, 111, 86, 97, 111, 111, 111, 104], 56) := dq_X1_actLater_0.2.2.1
theorem dX1_actLater_60 : decode cX1_actLater 60 = .ok (.aload_n 0, 1) := dq_X1_actLater_0.2.2.2.1
theorem dX1_actLater_61 : decode cX1_actLater 61 = .ok (.aload_n 0, 1) := dq_X1_actLater_0.2.2.2.2.1
theorem dX1_actLater_62 : decode cX1_actLater 62 = .ok (.invokevirtual 140, 3) := dq_X1_actLater_0.2.2.2.2.2.1
theorem dX1_actLater_65 : decode cX1_actLater 65 = .ok (.ineg, 1) := dq_X1_actLater_0.2.2.2.2.2.2.1
theorem dX1_actLater_66 : decode cX1_actLater 66 = .ok (.invokevirtual 181, 3) := dq_X1_actLater_0.2.2.2.2.2.2.2.1
theorem dX1_actLater_69 : decode cX1_actLater 69 = .ok (.goto 46, 3) := dq_X1_actLater_0.2.2.2.2.2.2.2.2.1
theorem dX1_actLater_72 : decode cX1_actLater 72 = .ok (.aload_n 0, 1) := dq_X1_actLater_0.2.2.2.2.2.2.2.2.2.1
theorem dX1_actLater_73 : decode cX1_actLater 73 = .ok (.aload_n 0, 1) := dq_X1_actLater_0.2.2.2.2.2.2.2.2.2.2.1
theorem dX1_actLater_74 : decode cX1_actLater 74 = .ok (.invokevirtual 140, 3) := dq_X1_actLater_0.2.2.2.2.2.2.2.2.2.2.2.1
theorem dX1_actLater_77 : decode cX1_actLater 77 = .ok (.invokevirtual 181, 3) := dq_X1_actLater_0.2.2.2.2.2.2.2.2.2.2.2.2.1
theorem dX1_actLater_80 : decode cX1_actLater 80 = .ok (.goto 35, 3) := dq_X1_actLater_0.2.2.2.2.2.2.2.2.2.2.2.2.2.1
theorem dX1_actLater_83 : decode cX1_actLater 83 = .ok (.aload_n 0, 1) := dq_X1_actLater_0.2.2.2.2.2.2.2.2.2.2.2.2.2.2.1
theorem dX1_actLater_84 : decode cX1_actLater 84 = .ok (.invokevirtual 200, 3) := dq_X1_actLater_0.2.2.2.2.2.2.2.2.2.2.2.2.2.2.2
theorem dq_X1_actLater_87 : (decode cX1_actLater 87 = .ok (.goto 28, 3)) ∧ (decode cX1_actLater 90 = .ok (.aload_n 0, 1)) ∧ (decode cX1_actLater 91 = .ok (.invokevirtual 200, 3)) ∧ (decode cX1_actLater 94 = .ok (.aload_n 0, 1)) ∧ (decode cX1_actLater 95 = .ok (.invokevirtual 203, 3)) ∧ (decode cX1_actLater 98 = .ok (.goto 17, 3)) ∧ (decode cX1_actLater 101 = .ok (.aload_n 0, 1)) ∧ (decode cX1_actLater 102 = .ok (.invokevirtual 203, 3)) ∧ (decode cX1_actLater 105 = .ok (.goto 10, 3)) ∧ (decode cX1_actLater 108 = .ok (.aload_n 0, 1)) ∧ (decode cX1_actLater 109 = .ok (.invokevirtual 203, 3)) ∧ (decode cX1_actLater 112 = .ok (.goto 3, 3)) ∧ (decode cX1_actLater 115 = .ok (.return_, 1)) := by decide +kernel
theorem dX1_actLater_87 : decode cX1_actLater 87 = .ok (.goto 28, 3) := dq_X1_actLater_87.1
theorem dX1_actLater_90 : decode cX1_actLater 90 = .ok (.aload_n 0, 1) := dq_X1_actLater_87.2.1
theorem dX1_actLater_91 : decode cX1_actLater 91 = .ok (.invokevirtual 200, 3) := dq_X1_actLater_87.2.2.1
theorem dX1_actLater_94 : decode cX1_actLater 94 = .ok (.aload_n 0, 1) := dq_X1_actLater_87.2.2.2.1
theorem dX1_actLater_95 : decode cX1_actLater 95 = .ok (.invokevirtual 203, 3) := dq_X1_actLater_87.2.2.2.2.1
theorem dX1_actLater_98 : decode cX1_actLater 98 = .ok (.goto 17, 3) := dq_X1_actLater_87.2.2.2.2.2.1
theorem dX1_actLater_101 : decode cX1_actLater 101 = .ok (.aload_n 0, 1) := dq_X1_actLater_87.2.2.2.2.2.2.1
theorem dX1_actLater_102 : decode cX1_actLater 102 = .ok (.invokevirtual 203, 3) := dq_X1_actLater_87.2.2.2.2.2.2.2.1
theorem dX1_actLater_105 : decode cX1_actLater 105 = .ok (.goto 10, 3) := dq_X1_actLater_87.2.2.2.2.2.2.2.2.1
theorem dX1_actLater_108 : decode cX1_actLater 108 = .ok (.aload_n 0, 1) := dq_X1_actLater_87.2.2.2.2.2.2.2.2.2.1
theorem dX1_actLater_109 : decode cX1_actLater 109 = .ok (.invokevirtual 203, 3) := dq_X1_actLater_87.2.2.2.2.2.2.2.2.2.2.1
theorem dX1_actLater_112 : decode cX1_actLater 112 = .ok (.goto 3, 3) := dq_X1_actLater_87.2.2.2.2.2.2.2.2.2.2.2.1
theorem dX1_actLater_115 : decode cX1_actLater 115 = .ok (.return_, 1) := dq_X1_actLater_87.2.2.2.2.2.2.2.2.2.2.2.2
theorem dq_X1_goToTarget_0 : (decode cX1_goToTarget 0 = .ok (.aload_n 0, 1)) ∧ (decode cX1_goToTarget 1 = .ok (.getfield 47, 3)) ∧ (decode cX1_goToTarget 4 = .ok (.ifCond .eq 28, 3)) ∧ (decode cX1_goToTarget 7 = .ok (.aload_n 0, 1)) ∧ (decode cX1_goToTarget 8 = .ok (.aload_n 0, 1)) ∧ (decode cX1_goToTarget 9 = .ok (.getfield 47, 3)) ∧ (decode cX1_goToTarget 12 = .ok (.aload_n 0, 1)) ∧ (decode cX1_goToTarget 13 = .ok (.getfield 41, 3)) ∧ (decode cX1_goToTarget 16 = .ok (.isub, 1)) ∧ (decode cX1_goToTarget 17 = .ok (.aload_n 0, 1)) ∧ (decode cX1_goToTarget 18 = .ok (.getfield 50, 3)) ∧ (decode cX1_goToTarget 21 = .ok (.ineg, 1)) ∧ (decode cX1_goToTarget 22 = .ok (.aload_n 0, 1)) ∧ (decode cX1_goToTarget 23 = .ok (.getfield 50, 3)) ∧ (decode cX1_goToTarget 26 = .ok (.invokestatic 133, 3)) ∧ (decode cX1_goToTarget 29 = .ok (.invokevirtual 181, 3)) := by decide +kernel
theorem dX1_goToTarget_0 : decode cX1_goToTarget 0 = .ok (.aload_n 0, 1) := dq_X1_goToTarget_0.1
theorem dX1_goToTarget_1 : decode cX1_goToTarget 1 = .ok (.getfield 47, 3) := dq_X1_goToTarget_0.2.1
theorem dX1_goToTarget_4 : decode cX1_goToTarget 4 = .ok (.ifCond .eq 28, 3) := dq_X1_goToTarget_0.2.2.1
theorem dX1_goToTarget_7 : decode cX1_goToTarget 7 = .ok (.aload_n 0, 1) := dq_X1_goToTarget_0.2.2.2.1
theorem dX1_goToTarget_8 : decode cX1_goToTarget 8 = .ok (.aload_n 0, 1) := dq_X1_goToTarget_0.2.2.2.2.1
theorem dX1_goToTarget_9 : decode cX1_goToTarget 9 = .ok (.getfield 47, 3) := dq_X1_goToTarget_0.2.2.2.2.2.1
theorem dX1_goToTarget_12 : decode cX1_goToTarget 12 = .ok (.aload_n 0, 1) := dq_X1_goToTarget_0.2.2.2.2.2.2.1
theorem dX1_goToTarget_13 : decode cX1_goToTarget 13 = .ok (.getfield 41, 3) := dq_X1_goToTarget_0.2.2.2.2.2.2.2.1
theorem dX1_goToTarget_16 : decode cX1_goToTarget 16 = .ok (.isub, 1) := dq_X1_goToTarget_0.2.2.2.2.2.2.2.2.1
theorem dX1_goToTarget_17 : decode cX1_goToTarget 17 = .ok (.aload_n 0, 1) := dq_X1_goToTarget_0.2.2.2.2.2.2.2.2.2.1
theorem dX1_goToTarget_18 : decode cX1_goToTarget 18 = .ok (.getfield 50, 3) := dq_X1_goToTarget_0.2.2.2.2.2.2.2.2.2.2.1
theorem dX1_goToTarget_21 : decode cX1_goToTarget 21 = .ok (.ineg, 1) := dq_X1_goToTarget_0.2.2.2.2.2.2.2.2.2.2.2.1
theorem dX1_goToTarget_22 : decode cX1_goToTarget 22 = .ok (.aload_n 0, 1) := dq_X1_goToTarget_0.2.2.2.2.2.2.2.2.2.2.2.2.1
theorem dX1_goToTarget_23 : decode cX1_goToTarget 23 = .ok (.getfield 50, 3) := dq_X1_goToTarget_0.2.2.2.2.2.2.2.2.2.2.2.2.2.1
theorem dX1_goToTarget_26 : decode cX1_goToTarget 26 = .ok (.invokestatic 133, 3) := dq_X1_goToTarget_0.2.2.2.2.2.2.2.2.2.2.2.2.2.2.1
theorem dX1_goToTarget_29 : decode cX1_goToTarget 29 = .ok (.invokevirtual 181, 3) := dq_X1_goToTarget_0.2.2.2.2.2.2.2.2.2.2.2.2.2.2.2
theorem dX1_goToTarget_32 : decode cX1_goToTarget 32 = .ok (.return_, 1) := by decide +kernel
theorem dq_X1_slideVolumeByNumber_0 : (decode cX1_slideVolumeByNumber 0 = .ok (.aload_n 0, 1)) ∧ (decode cX1_slideVolumeByNumber 1 = .ok (.aload_n 0, 1)) ∧ (decode cX1_slideVolumeByNumber 2 = .ok (.invokevirtual 105, 3)) ∧ (decode cX1_slideVolumeByNumber 5 = .ok (.ifCond .eq 10, 3)) ∧ (decode cX1_slideVolumeByNumber 8 = .ok (.aload_n 0, 1)) ∧ (decode cX1_slideVolumeByNumber 9 = .ok (.invokevirtual 105, 3)) ∧ (decode cX1_slideVolumeByNumber 12 = .ok (.goto 8, 3)) ∧ (decode cX1_slideVolumeByNumber 15 = .ok (.aload_n 0, 1)) ∧ (decode cX1_slideVolumeByNumber 16 = .ok (.invokevirtual 108, 3)) ∧ (decode cX1_slideVolumeByNumber 19 = .ok (.ineg, 1)) ∧ (decode cX1_slideVolumeByNumber 20 = .ok (.invokevirtual 190, 3)) ∧ (decode cX1_slideVolumeByNumber 23 = .ok (.return_, 1)) := by decide +kernel
theorem dX1_slideVolumeByNumber_0 : decode cX1_slideVolumeByNumber 0 = .ok (.aload_n 0, 1) := dq_X1_slideVolumeByNumber_0.1
theorem dX1_slideVolumeByNumber_1 : decode cX1_slideVolumeByNumber 1 = .ok (.aload_n 0, 1) := dq_X1_slideVolumeByNumber_0.2.1
theorem dX1_slideVolumeByNumber_2 : decode cX1_slideVolumeByNumber 2 = .ok (.invokevirtual 105, 3) := dq_X1_slideVolumeByNumber_0.2.2.1
theorem dX1_slideVolumeByNumber_5 : decode cX1_slideVolumeByNumber 5 = .ok (.ifCond .eq 10, 3) := dq_X1_slideVolumeByNumber_0.2.2.2.1
theorem dX1_slideVolumeByNumber_8 : decode cX1_slideVolumeByNumber 8 = .ok (.aload_n 0, 1) := dq_X1_slideVolumeByNumber_0.2.2.2.2.1
theorem dX1_slideVolumeByNumber_9 : decode cX1_slideVolumeByNumber 9 = .ok (.invokevirtual 105, 3) := dq_X1_slideVolumeByNumber_0.2.2.2.2.2.1
theorem dX1_slideVolumeByNumber_12 : decode cX1_slideVolumeByNumber 12 = .ok (.goto 8, 3) := dq_X1_slideVolumeByNumber_0.2.2.2.2.2.2.1
theorem dX1_slideVolumeByNumber_15 : decode cX1_slideVolumeByNumber 15 = .ok (.aload_n 0, 1) := dq_X1_slideVolumeByNumber_0.2.2.2.2.2.2.2.1
theorem dX1_slideVolumeByNumber_16 : decode cX1_slideVolumeByNumber 16 = .ok (.invokevirtual 108, 3) := dq_X1_slideVolumeByNumber_0.2.2.2.2.2.2.2.2.1
theorem dX1_slideVolumeByNumber_19 : decode cX1_slideVolumeByNumber 19 = .ok (.ineg, 1) := dq_X1_slideVolumeByNumber_0.2.2.2.2.2.2.2.2.2.1
theorem dX1_slideVolumeByNumber_20 : decode cX1_slideVolumeByNumber 20 = .ok (.invokevirtual 190, 3) := dq_X1_slideVolumeByNumber_0.2.2.2.2.2.2.2.2.2.2.1
theorem dX1_slideVolumeByNumber_23 : decode cX1_slideVolumeByNumber 23 = .ok (.return_, 1) := dq_X1_slideVolumeByNumber_0.2.2.2.2.2.2.2.2.2.2.2
theorem dq_X1_actTimed_0 : (decode cX1_actTimed 0 = .ok (.iload_n 1, 1)) ∧ (decode cX1_actTimed 1 = .ok (.ifCond .ne 14, 3)) ∧ (decode cX1_actTimed 4 = .ok (.aload_n 0, 1)) ∧ (decode cX1_actTimed 5 = .ok (.invokevirtual 121, 3)) ∧ (decode cX1_actTimed 8 = .ok (.ifCond .eq 7, 3)) ∧ (decode cX1_actTimed 11 = .ok (.iconst 1, 1)) ∧ (decode cX1_actTimed 12 = .ok (.goto 4, 3)) ∧ (decode cX1_actTimed 15 = .ok (.iconst 0, 1)) ∧ (decode cX1_actTimed 16 = .ok (.istore_n 2, 1)) ∧ (decode cX1_actTimed 17 = .ok (.aload_n 0, 1)) ∧ (decode cX1_actTimed 18 = .ok (.invokevirtual 105, 3)) ∧ (decode cX1_actTimed 21 = .ok (.bipush 9, 2)) ∧ (decode cX1_actTimed 23 = .ok (.if_icmp .ne 27, 3)) ∧ (decode cX1_actTimed 26 = .ok (.aload_n 0, 1)) ∧ (decode cX1_actTimed 27 = .ok (.invokevirtual 108, 3)) ∧ (decode cX1_actTimed 30 = .ok (.ifCond .eq 20, 3)) := by decide +kernel
theorem dX1_actTimed_0 : decode cX1_actTimed 0 = .ok (.iload_n 1, 1) := dq_X1_actTimed_0.1
theorem dX1_actTimed_1 : decode cX1_actTimed 1 = .ok (.ifCond .ne 14, 3) := dq_X1_actTimed_0.2.1
theorem dX1_actTimed_4 : decode cX1_actTimed 4 = .ok (.aload_n 0, 1) := dq_X1_actTimed_0.2.2.1
theorem dX1_actTimed_5 : decode cX1_actTimed 5 = .ok (.invokevirtual 121, 3) := dq_X1_actTimed_0.2.2.2.1
theorem dX1_actTimed_8 : decode cX1_actTimed 8 = .ok (.ifCond .eq 7, 3) := dq_X1_actTimed_0.2.2.2.2.1
theorem dX1_actTimed_11 : decode cX1_actTimed 11 = .ok (.iconst 1, 1) := dq_X1_actTimed_0.2.2.2.2.2.1
theorem dX1_actTimed_12 : decode cX1_actTimed 12 = .ok (.goto 4, 3) := dq_X1_actTimed_0.2.2.2.2.2.2.1
theorem dX1_actTimed_15 : decode cX1_actTimed 15 = .ok (.iconst 0, 1) := dq_X1_actTimed_0.2.2.2.2.2.2.2.1
theorem dX1_actTimed_16 : decode cX1_actTimed 16 = .ok (.istore_n 2, 1) := dq_X1_actTimed_0.2.2.2.2.2.2.2.2.1
theorem dX1_actTimed_17 : decode cX1_actTimed 17 = .ok (.aload_n 0, 1) := dq_X1_actTimed_0.2.2.2.2.2.2.2.2.2.1
theorem dX1_actTimed_18 : decode cX1_actTimed 18 = .ok (.invokevirtual 105, 3) := dq_X1_actTimed_0.2.2.2.2.2.2.2.2.2.2.1
theorem dX1_actTimed_21 : decode cX1_actTimed 21 = .ok (.bipush 9, 2) := dq_X1_actTimed_0.2.2.2.2.2.2.2.2.2.2.2.1
theorem dX1_actTimed_23 : decode cX1_actTimed 23 = .ok (.if_icmp .ne 27, 3) := dq_X1_actTimed_0.2.2.2.2.2.2.2.2.2.2.2.2.1
theorem dX1_actTimed_26 : decode cX1_actTimed 26 = .ok (.aload_n 0, 1) := dq_X1_actTimed_0.2.2.2.2.2.2.2.2.2.2.2.2.2.1
theorem dX1_actTimed_27 : decode cX1_actTimed 27 = .ok (.invokevirtual 108, 3) := dq_X1_actTimed_0.2.2.2.2.2.2.2.2.2.2.2.2.2.2.1
theorem dX1_actTimed_30 : decode cX1_actTimed 30 = .ok (.ifCond .eq 20, 3) := dq_X1_actTimed_0.2.2.2.2.2.2.2.2.2.2.2.2.2.2.2
theorem dq_X1_actTimed_33 : (decode cX1_actTimed 33 = .ok (.iload_n 1, 1)) ∧ (decode cX1_actTimed 34 = .ok (.aload_n 0, 1)) ∧ (decode cX1_actTimed 35 = .ok (.invokevirtual 108, 3)) ∧ (decode cX1_actTimed 38 = .ok (.irem, 1)) ∧ (decode cX1_actTimed 39 = .ok (.ifCond .ne 11, 3)) ∧ (decode cX1_actTimed 42 = .ok (.iload_n 2, 1)) ∧ (decode cX1_actTimed 43 = .ok (.ifCond .ne 7, 3)) ∧ (decode cX1_actTimed 46 = .ok (.aload_n 0, 1)) ∧ (decode cX1_actTimed 47 = .ok (.invokevirtual 128, 3)) ∧ (decode cX1_actTimed 50 = .ok (.aload_n 0, 1)) ∧ (decode cX1_actTimed 51 = .ok (.invokevirtual 105, 3)) ∧ (decode cX1_actTimed 54 = .ok (.bipush 12, 2)) ∧ (decode cX1_actTimed 56 = .ok (.if_icmp .ne 16, 3)) ∧ (decode cX1_actTimed 59 = .ok (.iload_n 1, 1)) ∧ (decode cX1_actTimed 60 = .ok (.aload_n 0, 1)) ∧ (decode cX1_actTimed 61 = .ok (.invokevirtual 108, 3)) := by decide +kernel
theorem dX1_actTimed_33 : decode cX1_actTimed 33 = .ok (.iload_n 1, 1) := dq_X1_actTimed_33.1
theorem dX1_actTimed_34 : decode cX1_actTimed 34 = .ok (.aload_n 0, 1) := dq_X1_actTimed_33.2.1
theorem dX1_actTimed_35 : decode cX1_actTimed 35 = .ok (.invokevirtual 108, 3) := dq_X1_actTimed_33.2.2.1
theorem dX1_actTimed_38 : decode cX1_actTimed 38 = .ok (.irem, 1) := dq_X1_actTimed_33.2.2.2.1
theorem dX1_actTimed_39 : decode cX1_actTimed 39 = .ok (.ifCond .ne 11, 3) := dq_X1_actTimed_33.2.2.2.2.1
theorem dX1_actTimed_42 : decode cX1_actTimed 42 = .ok (.iload_n 2, 1) := dq_X1_actTimed_33.2.2.2.2.2.1
theorem dX1_actTimed_43 : decode cX1_actTimed 43 = .ok (.ifCond .ne 7, 3) := dq_X1_actTimed_33.2.2.2.2.2.2.1
theorem dX1_actTimed_46 : decode cX1_actTimed 46 = .ok (.aload_n 0, 1) := dq_X1_actTimed_33.2.2.2.2.2.2.2.1
theorem dX1_actTimed_47 : decode cX1_actTimed 47 = .ok (.invokevirtual 128, 3) := dq_X1_actTimed_33.2.2.2.2.2.2.2.2.1
theorem dX1_actTimed_50 : decode cX1_actTimed 50 = .ok (.aload_n 0, 1) := dq_X1_actTimed_33.2.2.2.2.2.2.2.2.2.1
theorem dX1_actTimed_51 : decode cX1_actTimed 51 = .ok (.invokevirtual 105, 3) := dq_X1_actTimed_33.2.2.2.2.2.2.2.2.2.2.1
theorem dX1_actTimed_54 : decode cX1_actTimed 54 = .ok (.bipush 12, 2) := dq_X1_actTimed_33.2.2.2.2.2.2.2.2.2.2.2.1
theorem dX1_actTimed_56 : decode cX1_actTimed 56 = .ok (.if_icmp .ne 16, 3) := dq_X1_actTimed_33.2.2.2.2.2.2.2.2.2.2.2.2.1
theorem dX1_actTimed_59 : decode cX1_actTimed 59 = .ok (.iload_n 1, 1) := dq_X1_actTimed_33.2.2.2.2.2.2.2.2.2.2.2.2.2.1
theorem dX1_actTimed_60 : decode cX1_actTimed 60 = .ok (.aload_n 0, 1) := dq_X1_actTimed_33.2.2.2.2.2.2.2.2.2.2.2.2.2.2.1
theorem dX1_actTimed_61 : decode cX1_actTimed 61 = .ok (.invokevirtual 108, 3) := dq_X1_actTimed_33.2.2.2.2.2.2.2.2.2.2.2.2.2.2.2
theorem dq_X1_actTimed_64 : (decode cX1_actTimed 64 = .ok (.if_icmp .ne 8, 3)) ∧ (decode cX1_actTimed 67 = .ok (.aload_n 0, 1)) ∧ (decode cX1_actTimed 68 = .ok (.iconst 0, 1)) ∧ (decode cX1_actTimed 69 = .ok (.putfield 35, 3)) ∧ (decode cX1_actTimed 72 = .ok (.return_, 1)) := by decide +kernel
theorem dX1_actTimed_64 : decode cX1_actTimed 64 = .ok (.if_icmp .ne 8, 3) := dq_X1_actTimed_64.1
theorem dX1_actTimed_67 : decode cX1_actTimed 67 = .ok (.aload_n 0, 1) := dq_X1_actTimed_64.2.1
theorem dX1_actTimed_68 : decode cX1_actTimed 68 = .ok (.iconst 0, 1) := dq_X1_actTimed_64.2.2.1
theorem dX1_actTimed_69 : decode cX1_actTimed 69 = .ok (.putfield 35, 3) := dq_X1_actTimed_64.2.2.2.1
theorem dX1_actTimed_72 : decode cX1_actTimed 72 = .ok (.return_, 1) := dq_X1_actTimed_64.2.2.2.2
theorem dq_X1_bend_0 : (decode cX1_bend 0 = .ok (.aload_n 0, 1)) ∧ (decode cX1_bend 1 = .ok (.invokevirtual 95, 3)) ∧ (decode cX1_bend 4 = .ok (.tableswitch 83 0 7 #[48, 83, 83, 83, 62, 83, 69, 76], 48)) ∧ (decode cX1_bend 52 = .ok (.aload_n 0, 1)) ∧ (decode cX1_bend 53 = .ok (.aload_n 0, 1)) ∧ (decode cX1_bend 54 = .ok (.iload_n 1, 1)) ∧ (decode cX1_bend 55 = .ok (.iconst 3, 1)) ∧ (decode cX1_bend 56 = .ok (.irem, 1)) ∧ (decode cX1_bend 57 = .ok (.invokevirtual 206, 3)) ∧ (decode cX1_bend 60 = .ok (.putfield 62, 3)) ∧ (decode cX1_bend 63 = .ok (.goto 24, 3)) ∧ (decode cX1_bend 66 = .ok (.aload_n 0, 1)) ∧ (decode cX1_bend 67 = .ok (.invokevirtual 209, 3)) ∧ (decode cX1_bend 70 = .ok (.goto 17, 3)) ∧ (decode cX1_bend 73 = .ok (.aload_n 0, 1)) ∧ (decode cX1_bend 74 = .ok (.invokevirtual 209, 3)) := by decide +kernel
theorem dX1_bend_0 : decode cX1_bend 0 = .ok (.aload_n 0, 1) := dq_X1_bend_0.1
theorem dX1_bend_1 : decode cX1_bend 1 = .ok (.invokevirtual 95, 3) := dq_X1_bend_0.2.1
theorem dX1_bend_4 : decode cX1_bend 4 = .ok (.tableswitch 83 0 7 #[48, 83, 83, 83, 62, 83, 69, 76], 48) := dq_X1_bend_0.2.2.1
theorem dX1_bend_52 : decode cX1_bend 52 = .ok (.aload_n 0, 1) := dq_X1_bend_0.2.2.2.1
theorem dX1_bend_53 : decode cX1_bend 53 = .ok (.aload_n 0, 1) := dq_X1_bend_0.2.2.2.2.1
theorem dX1_bend_54 : decode cX1_bend 54 = .ok (.iload_n 1, 1) := dq_X1_bend_0.2.2.2.2.2.1
theorem dX1_bend_55 : decode cX1_bend 55 = .ok (.iconst 3, 1) := dq_X1_bend_0.2.2.2.2.2.2.1
theorem dX1_bend_56 : decode cX1_bend 56 = .ok (.irem, 1) := dq_X1_bend_0.2.2.2.2.2.2.2.1
theorem dX1_bend_57 : decode cX1_bend 57 = .ok (.invokevirtual 206, 3) := dq_X1_bend_0.2.2.2.2.2.2.2.2.1
theorem dX1_bend_60 : decode cX1_bend 60 = .ok (.putfield 62, 3) := dq_X1_bend_0.2.2.2.2.2.2.2.2.2.1
theorem dX1_bend_63 : decode cX1_bend 63 = .ok (.goto 24, 3) := dq_X1_bend_0.2.2.2.2.2.2.2.2.2.2.1
theorem dX1_bend_66 : decode cX1_bend 66 = .ok (.aload_n 0, 1) := dq_X1_bend_0.2.2.2.2.2.2.2.2.2.2.2.1
theorem dX1_bend_67 : decode cX1_bend 67 = .ok (.invokevirtual 209, 3) := dq_X1_bend_0.2.2.2.2.2.2.2.2.2.2.2.2.1
theorem dX1_bend_70 : decode cX1_bend 70 = .ok (.goto 17, 3) := dq_X1_bend_0.2.2.2.2.2.2.2.2.2.2.2.2.2.1
theorem dX1_bend_73 : decode cX1_bend 73 = .ok (.aload_n 0, 1) := dq_X1_bend_0.2.2.2.2.2.2.2.2.2.2.2.2.2.2.1
theorem dX1_bend_74 : decode cX1_bend 74 = .ok (.invokevirtual 209, 3) := dq_X1_bend_0.2.2.2.2.2.2.2.2.2.2.2.2.2.2.2
theorem dq_X1_bend_77 : (decode cX1_bend 77 = .ok (.goto 10, 3)) ∧ (decode cX1_bend 80 = .ok (.aload_n 0, 1)) ∧ (decode cX1_bend 81 = .ok (.invokevirtual 212, 3)) ∧ (decode cX1_bend 84 = .ok (.goto 3, 3)) ∧ (decode cX1_bend 87 = .ok (.return_, 1)) := by decide +kernel
theorem dX1_bend_77 : decode cX1_bend 77 = .ok (.goto 10, 3) := dq_X1_bend_77.1
theorem dX1_bend_80 : decode cX1_bend 80 = .ok (.aload_n 0, 1) := dq_X1_bend_77.2.1
theorem dX1_bend_81 : decode cX1_bend 81 = .ok (.invokevirtual 212, 3) := dq_X1_bend_77.2.2.1
theorem dX1_bend_84 : decode cX1_bend 84 = .ok (.goto 3, 3) := dq_X1_bend_77.2.2.2.1
theorem dX1_bend_87 : decode cX1_bend 87 = .ok (.return_, 1) := dq_X1_bend_77.2.2.2.2
theorem dq_X1_arpeggio_0 : (decode cX1_arpeggio 0 = .ok (.aload_n 0, 1)) ∧ (decode cX1_arpeggio 1 = .ok (.invokevirtual 140, 3)) ∧ (decode cX1_arpeggio 4 = .ok (.ifCond .eq 7, 3)) ∧ (decode cX1_arpeggio 7 = .ok (.iload_n 1, 1)) ∧ (decode cX1_arpeggio 8 = .ok (.ifCond .ne 8, 3)) ∧ (decode cX1_arpeggio 11 = .ok (.aload_n 0, 1)) ∧ (decode cX1_arpeggio 12 = .ok (.getfield 41, 3)) ∧ (decode cX1_arpeggio 15 = .ok (.ireturn, 1)) ∧ (decode cX1_arpeggio 16 = .ok (.iload_n 1, 1)) ∧ (decode cX1_arpeggio 17 = .ok (.iconst 1, 1)) ∧ (decode cX1_arpeggio 18 = .ok (.if_icmp .ne 10, 3)) ∧ (decode cX1_arpeggio 21 = .ok (.aload_n 0, 1)) ∧ (decode cX1_arpeggio 22 = .ok (.invokevirtual 105, 3)) ∧ (decode cX1_arpeggio 25 = .ok (.goto 7, 3)) ∧ (decode cX1_arpeggio 28 = .ok (.aload_n 0, 1)) ∧ (decode cX1_arpeggio 29 = .ok (.invokevirtual 108, 3)) := by decide +kernel
theorem dX1_arpeggio_0 : decode cX1_arpeggio 0 = .ok (.aload_n 0, 1) := dq_X1_arpeggio_0.1
theorem dX1_arpeggio_1 : decode cX1_arpeggio 1 = .ok (.invokevirtual 140, 3) := dq_X1_arpeggio_0.2.1
theorem dX1_arpeggio_4 : decode cX1_arpeggio 4 = .ok (.ifCond .eq 7, 3) := dq_X1_arpeggio_0.2.2.1
theorem dX1_arpeggio_7 : decode cX1_arpeggio 7 = .ok (.iload_n 1, 1) := dq_X1_arpeggio_0.2.2.2.1
theorem dX1_arpeggio_8 : decode cX1_arpeggio 8 = .ok (.ifCond .ne 8, 3) := dq_X1_arpeggio_0.2.2.2.2.1
theorem dX1_arpeggio_11 : decode cX1_arpeggio 11 = .ok (.aload_n 0, 1) := dq_X1_arpeggio_0.2.2.2.2.2.1
theorem dX1_arpeggio_12 : decode cX1_arpeggio 12 = .ok (.getfield 41, 3) := dq_X1_arpeggio_0.2.2.2.2.2.2.1
theorem dX1_arpeggio_15 : decode cX1_arpeggio 15 = .ok (.ireturn, 1) := dq_X1_arpeggio_0.2.2.2.2.2.2.2.1
theorem dX1_arpeggio_16 : decode cX1_arpeggio 16 = .ok (.iload_n 1, 1) := dq_X1_arpeggio_0.2.2.2.2.2.2.2.2.1
theorem dX1_arpeggio_17 : decode cX1_arpeggio 17 = .ok (.iconst 1, 1) := dq_X1_arpeggio_0.2.2.2.2.2.2.2.2.2.1
theorem dX1_arpeggio_18 : decode cX1_arpeggio 18 = .ok (.if_icmp .ne 10, 3) := dq_X1_arpeggio_0.2.2.2.2.2.2.2.2.2.2.1
theorem dX1_arpeggio_21 : decode cX1_arpeggio 21 = .ok (.aload_n 0, 1) := dq_X1_arpeggio_0.2.2.2.2.2.2.2.2.2.2.2.1
theorem dX1_arpeggio_22 : decode cX1_arpeggio 22 = .ok (.invokevirtual 105, 3) := dq_X1_arpeggio_0.2.2.2.2.2.2.2.2.2.2.2.2.1
theorem dX1_arpeggio_25 : decode cX1_arpeggio 25 = .ok (.goto 7, 3) := dq_X1_arpeggio_0.2.2.2.2.2.2.2.2.2.2.2.2.2.1
theorem dX1_arpeggio_28 : decode cX1_arpeggio 28 = .ok (.aload_n 0, 1) := dq_X1_arpeggio_0.2.2.2.2.2.2.2.2.2.2.2.2.2.2.1
theorem dX1_arpeggio_29 : decode cX1_arpeggio 29 = .ok (.invokevirtual 108, 3) := dq_X1_arpeggio_0.2.2.2.2.2.2.2.2.2.2.2.2.2.2.2
theorem dq_X1_arpeggio_32 : (decode cX1_arpeggio 32 = .ok (.istore_n 2, 1)) ∧ (decode cX1_arpeggio 33 = .ok (.aload_n 0, 1)) ∧ (decode cX1_arpeggio 34 = .ok (.getfield 44, 3)) ∧ (decode cX1_arpeggio 37 = .ok (.istore_n 3, 1)) ∧ (decode cX1_arpeggio 38 = .ok (.iconst 0, 1)) ∧ (decode cX1_arpeggio 39 = .ok (.istore 4, 2)) ∧ (decode cX1_arpeggio 41 = .ok (.iload 4, 2)) ∧ (decode cX1_arpeggio 43 = .ok (.iload_n 2, 1)) ∧ (decode cX1_arpeggio 44 = .ok (.if_icmp .ge 19, 3)) ∧ (decode cX1_arpeggio 47 = .ok (.iload_n 3, 1)) ∧ (decode cX1_arpeggio 48 = .ok (.sipush 17843, 3)) ∧ (decode cX1_arpeggio 51 = .ok (.imul, 1)) ∧ (decode cX1_arpeggio 52 = .ok (.sipush 18904, 3)) ∧ (decode cX1_arpeggio 55 = .ok (.idiv, 1)) ∧ (decode cX1_arpeggio 56 = .ok (.istore_n 3, 1)) ∧ (decode cX1_arpeggio 57 = .ok (.iinc 4 1, 3)) := by decide +kernel
theorem dX1_arpeggio_32 : decode cX1_arpeggio 32 = .ok (.istore_n 2, 1) := dq_X1_arpeggio_32.1
theorem dX1_arpeggio_33 : decode cX1_arpeggio 33 = .ok (.aload_n 0, 1) := dq_X1_arpeggio_32.2.1
theorem dX1_arpeggio_34 : decode cX1_arpeggio 34 = .ok (.getfield 44, 3) := dq_X1_arpeggio_32.2.2.1
theorem dX1_arpeggio_37 : decode cX1_arpeggio 37 = .ok (.istore_n 3, 1) := dq_X1_arpeggio_32.2.2.2.1
theorem dX1_arpeggio_38 : decode cX1_arpeggio 38 = .ok (.iconst 0, 1) := dq_X1_arpeggio_32.2.2.2.2.1
theorem dX1_arpeggio_39 : decode cX1_arpeggio 39 = .ok (.istore 4, 2) := dq_X1_arpeggio_32.2.2.2.2.2.1
theorem dX1_arpeggio_41 : decode cX1_arpeggio 41 = .ok (.iload 4, 2) := dq_X1_arpeggio_32.2.2.2.2.2.2.1
theorem dX1_arpeggio_43 : decode cX1_arpeggio 43 = .ok (.iload_n 2, 1) := dq_X1_arpeggio_32.2.2.2.2.2.2.2.1
theorem dX1_arpeggio_44 : decode cX1_arpeggio 44 = .ok (.if_icmp .ge 19, 3) := dq_X1_arpeggio_32.2.2.2.2.2.2.2.2.1
theorem dX1_arpeggio_47 : decode cX1_arpeggio 47 = .ok (.iload_n 3, 1) := dq_X1_arpeggio_32.2.2.2.2.2.2.2.2.2.1
theorem dX1_arpeggio_48 : decode cX1_arpeggio 48 = .ok (.sipush 17843, 3) := dq_X1_arpeggio_32.2.2.2.2.2.2.2.2.2.2.1
theorem dX1_arpeggio_51 : decode cX1_arpeggio 51 = .ok (.imul, 1) := dq_X1_arpeggio_32.2.2.2.2.2.2.2.2.2.2.2.1
theorem dX1_arpeggio_52 : decode cX1_arpeggio 52 = .ok (.sipush 18904, 3) := dq_X1_arpeggio_32.2.2.2.2.2.2.2.2.2.2.2.2.1
theorem dX1_arpeggio_55 : decode cX1_arpeggio 55 = .ok (.idiv, 1) := dq_X1_arpeggio_32.2.2.2.2.2.2.2.2.2.2.2.2.2.1
theorem dX1_arpeggio_56 : decode cX1_arpeggio 56 = .ok (.istore_n 3, 1) := dq_X1_arpeggio_32.2.2.2.2.2.2.2.2.2.2.2.2.2.2.1
theorem dX1_arpeggio_57 : decode cX1_arpeggio 57 = .ok (.iinc 4 1, 3) := dq_X1_arpeggio_32.2.2.2.2.2.2.2.2.2.2.2.2.2.2.2
theorem dq_X1_arpeggio_60 : (decode cX1_arpeggio 60 = .ok (.goto (-19), 3)) ∧ (decode cX1_arpeggio 63 = .ok (.iload_n 3, 1)) ∧ (decode cX1_arpeggio 64 = .ok (.bipush 54, 2)) ∧ (decode cX1_arpeggio 66 = .ok (.invokestatic 215, 3)) ∧ (decode cX1_arpeggio 69 = .ok (.ireturn, 1)) := by decide +kernel
theorem dX1_arpeggio_60 : decode cX1_arpeggio 60 = .ok (.goto (-19), 3) := dq_X1_arpeggio_60.1
theorem dX1_arpeggio_63 : decode cX1_arpeggio 63 = .ok (.iload_n 3, 1) := dq_X1_arpeggio_60.2.1
theorem dX1_arpeggio_64 : decode cX1_arpeggio 64 = .ok (.bipush 54, 2) := dq_X1_arpeggio_60.2.2.1
theorem dX1_arpeggio_66 : decode cX1_arpeggio 66 = .ok (.invokestatic 215, 3) := dq_X1_arpeggio_60.2.2.2.1
theorem dX1_arpeggio_69 : decode cX1_arpeggio 69 = .ok (.ireturn, 1) := dq_X1_arpeggio_60.2.2.2.2
theorem dq_X1_vibrate_0 : (decode cX1_vibrate 0 = .ok (.aload_n 0, 1)) ∧ (decode cX1_vibrate 1 = .ok (.aload_n 0, 1)) ∧ (decode cX1_vibrate 2 = .ok (.getfield 41, 3)) ∧ (decode cX1_vibrate 5 = .ok (.aload_n 0, 1)) ∧ (decode cX1_vibrate 6 = .ok (.getfield 12, 3)) ∧ (decode cX1_vibrate 9 = .ok (.invokevirtual 218, 3)) ∧ (decode cX1_vibrate 12 = .ok (.sipush 128, 3)) ∧ (decode cX1_vibrate 15 = .ok (.idiv, 1)) ∧ (decode cX1_vibrate 16 = .ok (.iadd, 1)) ∧ (decode cX1_vibrate 17 = .ok (.bipush 54, 2)) ∧ (decode cX1_vibrate 19 = .ok (.invokestatic 215, 3)) ∧ (decode cX1_vibrate 22 = .ok (.putfield 62, 3)) ∧ (decode cX1_vibrate 25 = .ok (.aload_n 0, 1)) ∧ (decode cX1_vibrate 26 = .ok (.getfield 12, 3)) ∧ (decode cX1_vibrate 29 = .ok (.invokevirtual 221, 3)) ∧ (decode cX1_vibrate 32 = .ok (.return_, 1)) := by decide +kernel
theorem dX1_vibrate_0 : decode cX1_vibrate 0 = .ok (.aload_n 0, 1) := dq_X1_vibrate_0.1
theorem dX1_vibrate_1 : decode cX1_vibrate 1 = .ok (.aload_n 0, 1) := dq_X1_vibrate_0.2.1
theorem dX1_vibrate_2 : decode cX1_vibrate 2 = .ok (.getfield 41, 3) := dq_X1_vibrate_0.2.2.1
theorem dX1_vibrate_5 : decode cX1_vibrate 5 = .ok (.aload_n 0, 1) := dq_X1_vibrate_0.2.2.2.1
theorem dX1_vibrate_6 : decode cX1_vibrate 6 = .ok (.getfield 12, 3) := dq_X1_vibrate_0.2.2.2.2.1
theorem dX1_vibrate_9 : decode cX1_vibrate 9 = .ok (.invokevirtual 218, 3) := dq_X1_vibrate_0.2.2.2.2.2.1
theorem dX1_vibrate_12 : decode cX1_vibrate 12 = .ok (.sipush 128, 3) := dq_X1_vibrate_0.2.2.2.2.2.2.1
theorem dX1_vibrate_15 : decode cX1_vibrate 15 = .ok (.idiv, 1) := dq_X1_vibrate_0.2.2.2.2.2.2.2.1
theorem dX1_vibrate_16 : decode cX1_vibrate 16 = .ok (.iadd, 1) := dq_X1_vibrate_0.2.2.2.2.2.2.2.2.1
theorem dX1_vibrate_17 : decode cX1_vibrate 17 = .ok (.bipush 54, 2) := dq_X1_vibrate_0.2.2.2.2.2.2.2.2.2.1
theorem dX1_vibrate_19 : decode cX1_vibrate 19 = .ok (.invokestatic 215, 3) := dq_X1_vibrate_0.2.2.2.2.2.2.2.2.2.2.1
theorem dX1_vibrate_22 : decode cX1_vibrate 22 = .ok (.putfield 62, 3) := dq_X1_vibrate_0.2.2.2.2.2.2.2.2.2.2.2.1
theorem dX1_vibrate_25 : decode cX1_vibrate 25 = .ok (.aload_n 0, 1) := dq_X1_vibrate_0.2.2.2.2.2.2.2.2.2.2.2.2.1
theorem dX1_vibrate_26 : decode cX1_vibrate 26 = .ok (.getfield 12, 3) := dq_X1_vibrate_0.2.2.2.2.2.2.2.2.2.2.2.2.2.1
theorem dX1_vibrate_29 : decode cX1_vibrate 29 = .ok (.invokevirtual 221, 3) := dq_X1_vibrate_0.2.2.2.2.2.2.2.2.2.2.2.2.2.2.1
theorem dX1_vibrate_32 : decode cX1_vibrate 32 = .ok (.return_, 1) := dq_X1_vibrate_0.2.2.2.2.2.2.2.2.2.2.2.2.2.2.2
theorem dq_X1_tremble_0 : (decode cX1_tremble 0 = .ok (.aload_n 0, 1)) ∧ (decode cX1_tremble 1 = .ok (.aload_n 0, 1)) ∧ (decode cX1_tremble 2 = .ok (.getfield 35, 3)) ∧ (decode cX1_tremble 5 = .ok (.aload_n 0, 1)) ∧ (decode cX1_tremble 6 = .ok (.getfield 18, 3)) ∧ (decode cX1_tremble 9 = .ok (.invokevirtual 218, 3)) ∧ (decode cX1_tremble 12 = .ok (.bipush 64, 2)) ∧ (decode cX1_tremble 14 = .ok (.idiv, 1)) ∧ (decode cX1_tremble 15 = .ok (.iadd, 1)) ∧ (decode cX1_tremble 16 = .ok (.iconst 0, 1)) ∧ (decode cX1_tremble 17 = .ok (.bipush 64, 2)) ∧ (decode cX1_tremble 19 = .ok (.invokestatic 133, 3)) ∧ (decode cX1_tremble 22 = .ok (.putfield 65, 3)) ∧ (decode cX1_tremble 25 = .ok (.aload_n 0, 1)) ∧ (decode cX1_tremble 26 = .ok (.getfield 18, 3)) ∧ (decode cX1_tremble 29 = .ok (.invokevirtual 221, 3)) := by decide +kernel
theorem dX1_tremble_0 : decode cX1_tremble 0 = .ok (.aload_n 0, 1) := dq_X1_tremble_0.1
theorem dX1_tremble_1 : decode cX1_tremble 1 = .ok (.aload_n 0, 1) := dq_X1_tremble_0.2.1
theorem dX1_tremble_2 : decode cX1_tremble 2 = .ok (.getfield 35, 3) := dq_X1_tremble_0.2.2.1
theorem dX1_tremble_5 : decode cX1_tremble 5 = .ok (.aload_n 0, 1) := dq_X1_tremble_0.2.2.2.1
theorem dX1_tremble_6 : decode cX1_tremble 6 = .ok (.getfield 18, 3) := dq_X1_tremble_0.2.2.2.2.1
theorem dX1_tremble_9 : decode cX1_tremble 9 = .ok (.invokevirtual 218, 3) := dq_X1_tremble_0.2.2.2.2.2.1
theorem dX1_tremble_12 : decode cX1_tremble 12 = .ok (.bipush 64, 2) := dq_X1_tremble_0.2.2.2.2.2.2.1
theorem dX1_tremble_14 : decode cX1_tremble 14 = .ok (.idiv, 1) := dq_X1_tremble_0.2.2.2.2.2.2.2.1
theorem dX1_tremble_15 : decode cX1_tremble 15 = .ok (.iadd, 1) := dq_X1_tremble_0.2.2.2.2.2.2.2.2.1
theorem dX1_tremble_16 : decode cX1_tremble 16 = .ok (.iconst 0, 1) := dq_X1_tremble_0.2.2.2.2.2.2.2.2.2.1
theorem dX1_tremble_17 : decode cX1_tremble 17 = .ok (.bipush 64, 2) := dq_X1_tremble_0.2.2.2.2.2.2.2.2.2.2.1
theorem dX1_tremble_19 : decode cX1_tremble 19 = .ok (.invokestatic 133, 3) := dq_X1_tremble_0.2.2.2.2.2.2.2.2.2.2.2.1
theorem dX1_tremble_22 : decode cX1_tremble 22 = .ok (.putfield 65, 3) := dq_X1_tremble_0.2.2.2.2.2.2.2.2.2.2.2.2.1
theorem dX1_tremble_25 : decode cX1_tremble 25 = .ok (.aload_n 0, 1) := dq_X1_tremble_0.2.2.2.2.2.2.2.2.2.2.2.2.2.1
theorem dX1_tremble_26 : decode cX1_tremble 26 = .ok (.getfield 18, 3) := dq_X1_tremble_0.2.2.2.2.2.2.2.2.2.2.2.2.2.2.1
theorem dX1_tremble_29 : decode cX1_tremble 29 = .ok (.invokevirtual 221, 3) := dq_X1_tremble_0.2.2.2.2.2.2.2.2.2.2.2.2.2.2.2
theorem dX1_tremble_32 : decode cX1_tremble 32 = .ok (.return_, 1) := by decide +kernel
theorem dq_X1_nextByte_0 : (decode cX1_nextByte 0 = .ok (.aload_n 0, 1)) ∧ (decode cX1_nextByte 1 = .ok (.getfield 21, 3)) ∧ (decode cX1_nextByte 4 = .ok (.aload_n 0, 1)) ∧ (decode cX1_nextByte 5 = .ok (.getfield 32, 3)) ∧ (decode cX1_nextByte 8 = .ok (.invokevirtual 111, 3)) ∧ (decode cX1_nextByte 11 = .ok (.astore_n 3, 1)) ∧ (decode cX1_nextByte 12 = .ok (.aload_n 3, 1)) ∧ (decode cX1_nextByte 13 = .ok (.getfield 137, 3)) ∧ (decode cX1_nextByte 16 = .ok (.i2l, 1)) ∧ (decode cX1_nextByte 17 = .ok (.ldc2_w 173, 3)) ∧ (decode cX1_nextByte 20 = .ok (.lmul, 1)) ∧ (decode cX1_nextByte 21 = .ok (.lstore 4, 2)) ∧ (decode cX1_nextByte 23 = .ok (.aload_n 0, 1)) ∧ (decode cX1_nextByte 24 = .ok (.getfield 68, 3)) ∧ (decode cX1_nextByte 27 = .ok (.lload 4, 2)) ∧ (decode cX1_nextByte 29 = .ok (.lcmp, 1)) := by decide +kernel
theorem dX1_nextByte_0 : decode cX1_nextByte 0 = .ok (.aload_n 0, 1) := dq_X1_nextByte_0.1
theorem dX1_nextByte_1 : decode cX1_nextByte 1 = .ok (.getfield 21, 3) := dq_X1_nextByte_0.2.1
theorem dX1_nextByte_4 : decode cX1_nextByte 4 = .ok (.aload_n 0, 1) := dq_X1_nextByte_0.2.2.1
theorem dX1_nextByte_5 : decode cX1_nextByte 5 = .ok (.getfield 32, 3) := dq_X1_nextByte_0.2.2.2.1
theorem dX1_nextByte_8 : decode cX1_nextByte 8 = .ok (.invokevirtual 111, 3) := dq_X1_nextByte_0.2.2.2.2.1
theorem dX1_nextByte_11 : decode cX1_nextByte 11 = .ok (.astore_n 3, 1) := dq_X1_nextByte_0.2.2.2.2.2.1
theorem dX1_nextByte_12 : decode cX1_nextByte 12 = .ok (.aload_n 3, 1) := dq_X1_nextByte_0.2.2.2.2.2.2.1
theorem dX1_nextByte_13 : decode cX1_nextByte 13 = .ok (.getfield 137, 3) := dq_X1_nextByte_0.2.2.2.2.2.2.2.1
theorem dX1_nextByte_16 : decode cX1_nextByte 16 = .ok (.i2l, 1) := dq_X1_nextByte_0.2.2.2.2.2.2.2.2.1
theorem dX1_nextByte_17 : decode cX1_nextByte 17 = .ok (.ldc2_w 173, 3) := dq_X1_nextByte_0.2.2.2.2.2.2.2.2.2.1
theorem dX1_nextByte_20 : decode cX1_nextByte 20 = .ok (.lmul, 1) := dq_X1_nextByte_0.2.2.2.2.2.2.2.2.2.2.1
theorem dX1_nextByte_21 : decode cX1_nextByte 21 = .ok (.lstore 4, 2) := dq_X1_nextByte_0.2.2.2.2.2.2.2.2.2.2.2.1
theorem dX1_nextByte_23 : decode cX1_nextByte 23 = .ok (.aload_n 0, 1) := dq_X1_nextByte_0.2.2.2.2.2.2.2.2.2.2.2.2.1
theorem dX1_nextByte_24 : decode cX1_nextByte 24 = .ok (.getfield 68, 3) := dq_X1_nextByte_0.2.2.2.2.2.2.2.2.2.2.2.2.2.1
theorem dX1_nextByte_27 : decode cX1_nextByte 27 = .ok (.lload 4, 2) := dq_X1_nextByte_0.2.2.2.2.2.2.2.2.2.2.2.2.2.2.1
theorem dX1_nextByte_29 : decode cX1_nextByte 29 = .ok (.lcmp, 1) := dq_X1_nextByte_0.2.2.2.2.2.2.2.2.2.2.2.2.2.2.2
theorem dq_X1_nextByte_30 : (decode cX1_nextByte 30 = .ok (.ifCond .lt 10, 3)) ∧ (decode cX1_nextByte 33 = .ok (.aload_n 0, 1)) ∧ (decode cX1_nextByte 34 = .ok (.iconst 0, 1)) ∧ (decode cX1_nextByte 35 = .ok (.putfield 72, 3)) ∧ (decode cX1_nextByte 38 = .ok (.iconst 0, 1)) ∧ (decode cX1_nextByte 39 = .ok (.ireturn, 1)) ∧ (decode cX1_nextByte 40 = .ok (.aload_n 0, 1)) ∧ (decode cX1_nextByte 41 = .ok (.getfield 21, 3)) ∧ (decode cX1_nextByte 44 = .ok (.aload_n 3, 1)) ∧ (decode cX1_nextByte 45 = .ok (.aload_n 0, 1)) ∧ (decode cX1_nextByte 46 = .ok (.getfield 68, 3)) ∧ (decode cX1_nextByte 49 = .ok (.bipush 16, 2)) ∧ (decode cX1_nextByte 51 = .ok (.lshr, 1)) ∧ (decode cX1_nextByte 52 = .ok (.l2i, 1)) ∧ (decode cX1_nextByte 53 = .ok (.invokevirtual 224, 3)) ∧ (decode cX1_nextByte 56 = .ok (.istore 6, 2)) := by decide +kernel
theorem dX1_nextByte_30 : decode cX1_nextByte 30 = .ok (.ifCond .lt 10, 3) := dq_X1_nextByte_30.1
theorem dX1_nextByte_33 : decode cX1_nextByte 33 = .ok (.aload_n 0, 1) := dq_X1_nextByte_30.2.1
theorem dX1_nextByte_34 : decode cX1_nextByte 34 = .ok (.iconst 0, 1) := dq_X1_nextByte_30.2.2.1
theorem dX1_nextByte_35 : decode cX1_nextByte 35 = .ok (.putfield 72, 3) := dq_X1_nextByte_30.2.2.2.1
theorem dX1_nextByte_38 : decode cX1_nextByte 38 = .ok (.iconst 0, 1) := dq_X1_nextByte_30.2.2.2.2.1
theorem dX1_nextByte_39 : decode cX1_nextByte 39 = .ok (.ireturn, 1) := dq_X1_nextByte_30.2.2.2.2.2.1
theorem dX1_nextByte_40 : decode cX1_nextByte 40 = .ok (.aload_n 0, 1) := dq_X1_nextByte_30.2.2.2.2.2.2.1
theorem dX1_nextByte_41 : decode cX1_nextByte 41 = .ok (.getfield 21, 3) := dq_X1_nextByte_30.2.2.2.2.2.2.2.1
theorem dX1_nextByte_44 : decode cX1_nextByte 44 = .ok (.aload_n 3, 1) := dq_X1_nextByte_30.2.2.2.2.2.2.2.2.1
theorem dX1_nextByte_45 : decode cX1_nextByte 45 = .ok (.aload_n 0, 1) := dq_X1_nextByte_30.2.2.2.2.2.2.2.2.2.1
theorem dX1_nextByte_46 : decode cX1_nextByte 46 = .ok (.getfield 68, 3) := dq_X1_nextByte_30.2.2.2.2.2.2.2.2.2.2.1
theorem dX1_nextByte_49 : decode cX1_nextByte 49 = .ok (.bipush 16, 2) := dq_X1_nextByte_30.2.2.2.2.2.2.2.2.2.2.2.1
theorem dX1_nextByte_51 : decode cX1_nextByte 51 = .ok (.lshr, 1) := dq_X1_nextByte_30.2.2.2.2.2.2.2.2.2.2.2.2.1
theorem dX1_nextByte_52 : decode cX1_nextByte 52 = .ok (.l2i, 1) := dq_X1_nextByte_30.2.2.2.2.2.2.2.2.2.2.2.2.2.1
theorem dX1_nextByte_53 : decode cX1_nextByte 53 = .ok (.invokevirtual 224, 3) := dq_X1_nextByte_30.2.2.2.2.2.2.2.2.2.2.2.2.2.2.1
theorem dX1_nextByte_56 : decode cX1_nextByte 56 = .ok (.istore 6, 2) := dq_X1_nextByte_30.2.2.2.2.2.2.2.2.2.2.2.2.2.2.2
theorem dq_X1_nextByte_58 : (decode cX1_nextByte 58 = .ok (.aload_n 0, 1)) ∧ (decode cX1_nextByte 59 = .ok (.dup, 1)) ∧ (decode cX1_nextByte 60 = .ok (.getfield 68, 3)) ∧ (decode cX1_nextByte 63 = .ok (.lload_n 1, 1)) ∧ (decode cX1_nextByte 64 = .ok (.ladd, 1)) ∧ (decode cX1_nextByte 65 = .ok (.putfield 68, 3)) ∧ (decode cX1_nextByte 68 = .ok (.aload_n 3, 1)) ∧ (decode cX1_nextByte 69 = .ok (.getfield 228, 3)) ∧ (decode cX1_nextByte 72 = .ok (.invokestatic 231, 3)) ∧ (decode cX1_nextByte 75 = .ok (.ifCond .eq 15, 3)) ∧ (decode cX1_nextByte 78 = .ok (.aload_n 0, 1)) ∧ (decode cX1_nextByte 79 = .ok (.aload_n 0, 1)) ∧ (decode cX1_nextByte 80 = .ok (.aload_n 3, 1)) ∧ (decode cX1_nextByte 81 = .ok (.invokevirtual 235, 3)) ∧ (decode cX1_nextByte 84 = .ok (.putfield 68, 3)) ∧ (decode cX1_nextByte 87 = .ok (.goto 18, 3)) := by decide +kernel
theorem dX1_nextByte_58 : decode cX1_nextByte 58 = .ok (.aload_n 0, 1) := dq_X1_nextByte_58.1
theorem dX1_nextByte_59 : decode cX1_nextByte 59 = .ok (.dup, 1) := dq_X1_nextByte_58.2.1
theorem dX1_nextByte_60 : decode cX1_nextByte 60 = .ok (.getfield 68, 3) := dq_X1_nextByte_58.2.2.1
theorem dX1_nextByte_63 : decode cX1_nextByte 63 = .ok (.lload_n 1, 1) := dq_X1_nextByte_58.2.2.2.1
theorem dX1_nextByte_64 : decode cX1_nextByte 64 = .ok (.ladd, 1) := dq_X1_nextByte_58.2.2.2.2.1
theorem dX1_nextByte_65 : decode cX1_nextByte 65 = .ok (.putfield 68, 3) := dq_X1_nextByte_58.2.2.2.2.2.1
theorem dX1_nextByte_68 : decode cX1_nextByte 68 = .ok (.aload_n 3, 1) := dq_X1_nextByte_58.2.2.2.2.2.2.1
theorem dX1_nextByte_69 : decode cX1_nextByte 69 = .ok (.getfield 228, 3) := dq_X1_nextByte_58.2.2.2.2.2.2.2.1
theorem dX1_nextByte_72 : decode cX1_nextByte 72 = .ok (.invokestatic 231, 3) := dq_X1_nextByte_58.2.2.2.2.2.2.2.2.1
theorem dX1_nextByte_75 : decode cX1_nextByte 75 = .ok (.ifCond .eq 15, 3) := dq_X1_nextByte_58.2.2.2.2.2.2.2.2.2.1
theorem dX1_nextByte_78 : decode cX1_nextByte 78 = .ok (.aload_n 0, 1) := dq_X1_nextByte_58.2.2.2.2.2.2.2.2.2.2.1
theorem dX1_nextByte_79 : decode cX1_nextByte 79 = .ok (.aload_n 0, 1) := dq_X1_nextByte_58.2.2.2.2.2.2.2.2.2.2.2.1
theorem dX1_nextByte_80 : decode cX1_nextByte 80 = .ok (.aload_n 3, 1) := dq_X1_nextByte_58.2.2.2.2.2.2.2.2.2.2.2.2.1
theorem dX1_nextByte_81 : decode cX1_nextByte 81 = .ok (.invokevirtual 235, 3) := dq_X1_nextByte_58.2.2.2.2.2.2.2.2.2.2.2.2.2.1
theorem dX1_nextByte_84 : decode cX1_nextByte 84 = .ok (.putfield 68, 3) := dq_X1_nextByte_58.2.2.2.2.2.2.2.2.2.2.2.2.2.2.1
theorem dX1_nextByte_87 : decode cX1_nextByte 87 = .ok (.goto 18, 3) := dq_X1_nextByte_58.2.2.2.2.2.2.2.2.2.2.2.2.2.2.2
theorem dq_X1_nextByte_90 : (decode cX1_nextByte 90 = .ok (.aload_n 0, 1)) ∧ (decode cX1_nextByte 91 = .ok (.getfield 68, 3)) ∧ (decode cX1_nextByte 94 = .ok (.lload 4, 2)) ∧ (decode cX1_nextByte 96 = .ok (.lcmp, 1)) ∧ (decode cX1_nextByte 97 = .ok (.ifCond .lt 8, 3)) ∧ (decode cX1_nextByte 100 = .ok (.aload_n 0, 1)) ∧ (decode cX1_nextByte 101 = .ok (.iconst 0, 1)) ∧ (decode cX1_nextByte 102 = .ok (.putfield 72, 3)) ∧ (decode cX1_nextByte 105 = .ok (.iload 6, 2)) ∧ (decode cX1_nextByte 107 = .ok (.ireturn, 1)) := by decide +kernel
theorem dX1_nextByte_90 : decode cX1_nextByte 90 = .ok (.aload_n 0, 1) := dq_X1_nextByte_90.1
theorem dX1_nextByte_91 : decode cX1_nextByte 91 = .ok (.getfield 68, 3) := dq_X1_nextByte_90.2.1
theorem dX1_nextByte_94 : decode cX1_nextByte 94 = .ok (.lload 4, 2) := dq_X1_nextByte_90.2.2.1
theorem dX1_nextByte_96 : decode cX1_nextByte 96 = .ok (.lcmp, 1) := dq_X1_nextByte_90.2.2.2.1
theorem dX1_nextByte_97 : decode cX1_nextByte 97 = .ok (.ifCond .lt 8, 3) := dq_X1_nextByte_90.2.2.2.2.1
theorem dX1_nextByte_100 : decode cX1_nextByte 100 = .ok (.aload_n 0, 1) := dq_X1_nextByte_90.2.2.2.2.2.1
theorem dX1_nextByte_101 : decode cX1_nextByte 101 = .ok (.iconst 0, 1) := dq_X1_nextByte_90.2.2.2.2.2.2.1
theorem dX1_nextByte_102 : decode cX1_nextByte 102 = .ok (.putfield 72, 3) := dq_X1_nextByte_90.2.2.2.2.2.2.2.1
theorem dX1_nextByte_105 : decode cX1_nextByte 105 = .ok (.iload 6, 2) := dq_X1_nextByte_90.2.2.2.2.2.2.2.2.1
theorem dX1_nextByte_107 : decode cX1_nextByte 107 = .ok (.ireturn, 1) := dq_X1_nextByte_90.2.2.2.2.2.2.2.2.2
theorem dq_X1_wrapped_0 : (decode cX1_wrapped 0 = .ok (.aload_n 1, 1)) ∧ (decode cX1_wrapped 1 = .ok (.getfield 239, 3)) ∧ (decode cX1_wrapped 4 = .ok (.i2l, 1)) ∧ (decode cX1_wrapped 5 = .ok (.ldc2_w 173, 3)) ∧ (decode cX1_wrapped 8 = .ok (.lmul, 1)) ∧ (decode cX1_wrapped 9 = .ok (.lstore_n 2, 1)) ∧ (decode cX1_wrapped 10 = .ok (.aload_n 1, 1)) ∧ (decode cX1_wrapped 11 = .ok (.getfield 228, 3)) ∧ (decode cX1_wrapped 14 = .ok (.i2l, 1)) ∧ (decode cX1_wrapped 15 = .ok (.ldc2_w 173, 3)) ∧ (decode cX1_wrapped 18 = .ok (.lmul, 1)) ∧ (decode cX1_wrapped 19 = .ok (.lstore 4, 2)) ∧ (decode cX1_wrapped 21 = .ok (.lload 4, 2)) ∧ (decode cX1_wrapped 23 = .ok (.lconst 0, 1)) ∧ (decode cX1_wrapped 24 = .ok (.lcmp, 1)) ∧ (decode cX1_wrapped 25 = .ok (.ifCond .le 15, 3)) := by decide +kernel
theorem dX1_wrapped_0 : decode cX1_wrapped 0 = .ok (.aload_n 1, 1) := dq_X1_wrapped_0.1
theorem dX1_wrapped_1 : decode cX1_wrapped 1 = .ok (.getfield 239, 3) := dq_X1_wrapped_0.2.1
theorem dX1_wrapped_4 : decode cX1_wrapped 4 = .ok (.i2l, 1) := dq_X1_wrapped_0.2.2.1
theorem dX1_wrapped_5 : decode cX1_wrapped 5 = .ok (.ldc2_w 173, 3) := dq_X1_wrapped_0.2.2.2.1
theorem dX1_wrapped_8 : decode cX1_wrapped 8 = .ok (.lmul, 1) := dq_X1_wrapped_0.2.2.2.2.1
theorem dX1_wrapped_9 : decode cX1_wrapped 9 = .ok (.lstore_n 2, 1) := dq_X1_wrapped_0.2.2.2.2.2.1
theorem dX1_wrapped_10 : decode cX1_wrapped 10 = .ok (.aload_n 1, 1) := dq_X1_wrapped_0.2.2.2.2.2.2.1
theorem dX1_wrapped_11 : decode cX1_wrapped 11 = .ok (.getfield 228, 3) := dq_X1_wrapped_0.2.2.2.2.2.2.2.1
theorem dX1_wrapped_14 : decode cX1_wrapped 14 = .ok (.i2l, 1) := dq_X1_wrapped_0.2.2.2.2.2.2.2.2.1
theorem dX1_wrapped_15 : decode cX1_wrapped 15 = .ok (.ldc2_w 173, 3) := dq_X1_wrapped_0.2.2.2.2.2.2.2.2.2.1
theorem dX1_wrapped_18 : decode cX1_wrapped 18 = .ok (.lmul, 1) := dq_X1_wrapped_0.2.2.2.2.2.2.2.2.2.2.1
theorem dX1_wrapped_19 : decode cX1_wrapped 19 = .ok (.lstore 4, 2) := dq_X1_wrapped_0.2.2.2.2.2.2.2.2.2.2.2.1
theorem dX1_wrapped_21 : decode cX1_wrapped 21 = .ok (.lload 4, 2) := dq_X1_wrapped_0.2.2.2.2.2.2.2.2.2.2.2.2.1
theorem dX1_wrapped_23 : decode cX1_wrapped 23 = .ok (.lconst 0, 1) := dq_X1_wrapped_0.2.2.2.2.2.2.2.2.2.2.2.2.2.1
theorem dX1_wrapped_24 : decode cX1_wrapped 24 = .ok (.lcmp, 1) := dq_X1_wrapped_0.2.2.2.2.2.2.2.2.2.2.2.2.2.2.1
theorem dX1_wrapped_25 : decode cX1_wrapped 25 = .ok (.ifCond .le 15, 3) := dq_X1_wrapped_0.2.2.2.2.2.2.2.2.2.2.2.2.2.2.2
theorem dq_X1_wrapped_28 : (decode cX1_wrapped 28 = .ok (.aload_n 0, 1)) ∧ (decode cX1_wrapped 29 = .ok (.getfield 68, 3)) ∧ (decode cX1_wrapped 32 = .ok (.lload_n 2, 1)) ∧ (decode cX1_wrapped 33 = .ok (.lload 4, 2)) ∧ (decode cX1_wrapped 35 = .ok (.ladd, 1)) ∧ (decode cX1_wrapped 36 = .ok (.lcmp, 1)) ∧ (decode cX1_wrapped 37 = .ok (.ifCond .ge 8, 3)) ∧ (decode cX1_wrapped 40 = .ok (.aload_n 0, 1)) ∧ (decode cX1_wrapped 41 = .ok (.getfield 68, 3)) ∧ (decode cX1_wrapped 44 = .ok (.lreturn, 1)) ∧ (decode cX1_wrapped 45 = .ok (.lload_n 2, 1)) ∧ (decode cX1_wrapped 46 = .ok (.aload_n 0, 1)) ∧ (decode cX1_wrapped 47 = .ok (.getfield 68, 3)) ∧ (decode cX1_wrapped 50 = .ok (.lload_n 2, 1)) ∧ (decode cX1_wrapped 51 = .ok (.lsub, 1)) ∧ (decode cX1_wrapped 52 = .ok (.lload 4, 2)) := by decide +kernel
theorem dX1_wrapped_28 : decode cX1_wrapped 28 = .ok (.aload_n 0, 1) := dq_X1_wrapped_28.1
theorem dX1_wrapped_29 : decode cX1_wrapped 29 = .ok (.getfield 68, 3) := dq_X1_wrapped_28.2.1
theorem dX1_wrapped_32 : decode cX1_wrapped 32 = .ok (.lload_n 2, 1) := dq_X1_wrapped_28.2.2.1
theorem dX1_wrapped_33 : decode cX1_wrapped 33 = .ok (.lload 4, 2) := dq_X1_wrapped_28.2.2.2.1
theorem dX1_wrapped_35 : decode cX1_wrapped 35 = .ok (.ladd, 1) := dq_X1_wrapped_28.2.2.2.2.1
theorem dX1_wrapped_36 : decode cX1_wrapped 36 = .ok (.lcmp, 1) := dq_X1_wrapped_28.2.2.2.2.2.1
theorem dX1_wrapped_37 : decode cX1_wrapped 37 = .ok (.ifCond .ge 8, 3) := dq_X1_wrapped_28.2.2.2.2.2.2.1
theorem dX1_wrapped_40 : decode cX1_wrapped 40 = .ok (.aload_n 0, 1) := dq_X1_wrapped_28.2.2.2.2.2.2.2.1
theorem dX1_wrapped_41 : decode cX1_wrapped 41 = .ok (.getfield 68, 3) := dq_X1_wrapped_28.2.2.2.2.2.2.2.2.1
theorem dX1_wrapped_44 : decode cX1_wrapped 44 = .ok (.lreturn, 1) := dq_X1_wrapped_28.2.2.2.2.2.2.2.2.2.1
theorem dX1_wrapped_45 : decode cX1_wrapped 45 = .ok (.lload_n 2, 1) := dq_X1_wrapped_28.2.2.2.2.2.2.2.2.2.2.1
theorem dX1_wrapped_46 : decode cX1_wrapped 46 = .ok (.aload_n 0, 1) := dq_X1_wrapped_28.2.2.2.2.2.2.2.2.2.2.2.1
theorem dX1_wrapped_47 : decode cX1_wrapped 47 = .ok (.getfield 68, 3) := dq_X1_wrapped_28.2.2.2.2.2.2.2.2.2.2.2.2.1
theorem dX1_wrapped_50 : decode cX1_wrapped 50 = .ok (.lload_n 2, 1) := dq_X1_wrapped_28.2.2.2.2.2.2.2.2.2.2.2.2.2.1
theorem dX1_wrapped_51 : decode cX1_wrapped 51 = .ok (.lsub, 1) := dq_X1_wrapped_28.2.2.2.2.2.2.2.2.2.2.2.2.2.2.1
theorem dX1_wrapped_52 : decode cX1_wrapped 52 = .ok (.lload 4, 2) := dq_X1_wrapped_28.2.2.2.2.2.2.2.2.2.2.2.2.2.2.2
theorem dq_X1_wrapped_54 : (decode cX1_wrapped 54 = .ok (.lrem, 1)) ∧ (decode cX1_wrapped 55 = .ok (.ladd, 1)) ∧ (decode cX1_wrapped 56 = .ok (.lreturn, 1)) := by decide +kernel
theorem dX1_wrapped_54 : decode cX1_wrapped 54 = .ok (.lrem, 1) := dq_X1_wrapped_54.1
theorem dX1_wrapped_55 : decode cX1_wrapped 55 = .ok (.ladd, 1) := dq_X1_wrapped_54.2.1
theorem dX1_wrapped_56 : decode cX1_wrapped 56 = .ok (.lreturn, 1) := dq_X1_wrapped_54.2.2
theorem dq_X2_init_0 : (decode cX2_init 0 = .ok (.aload_n 0, 1)) ∧ (decode cX2_init 1 = .ok (.invokespecial 3, 3)) ∧ (decode cX2_init 4 = .ok (.aload_n 0, 1)) ∧ (decode cX2_init 5 = .ok (.sipush 128, 3)) ∧ (decode cX2_init 8 = .ok (.newarray .long, 2)) ∧ (decode cX2_init 10 = .ok (.putfield 9, 3)) ∧ (decode cX2_init 13 = .ok (.aload_n 0, 1)) ∧ (decode cX2_init 14 = .ok (.aload_n 1, 1)) ∧ (decode cX2_init 15 = .ok (.putfield 15, 3)) ∧ (decode cX2_init 18 = .ok (.return_, 1)) := by decide +kernel
theorem dX2_init_0 : decode cX2_init 0 = .ok (.aload_n 0, 1) := dq_X2_init_0.1
theorem dX2_init_1 : decode cX2_init 1 = .ok (.invokespecial 3, 3) := dq_X2_init_0.2.1
theorem dX2_init_4 : decode cX2_init 4 = .ok (.aload_n 0, 1) := dq_X2_init_0.2.2.1
theorem dX2_init_5 : decode cX2_init 5 = .ok (.sipush 128, 3) := dq_X2_init_0.2.2.2.1
theorem dX2_init_8 : decode cX2_init 8 = .ok (.newarray .long, 2) := dq_X2_init_0.2.2.2.2.1
theorem dX2_init_10 : decode cX2_init 10 = .ok (.putfield 9, 3) := dq_X2_init_0.2.2.2.2.2.1
theorem dX2_init_13 : decode cX2_init 13 = .ok (.aload_n 0, 1) := dq_X2_init_0.2.2.2.2.2.2.1
theorem dX2_init_14 : decode cX2_init 14 = .ok (.aload_n 1, 1) := dq_X2_init_0.2.2.2.2.2.2.2.1
theorem dX2_init_15 : decode cX2_init 15 = .ok (.putfield 15, 3) := dq_X2_init_0.2.2.2.2.2.2.2.2.1
theorem dX2_init_18 : decode cX2_init 18 = .ok (.return_, 1) := dq_X2_init_0.2.2.2.2.2.2.2.2.2
theorem dq_X2_rewind_0 : (decode cX2_rewind 0 = .ok (.aload_n 0, 1)) ∧ (decode cX2_rewind 1 = .ok (.getfield 9, 3)) ∧ (decode cX2_rewind 4 = .ok (.lconst 0, 1)) ∧ (decode cX2_rewind 5 = .ok (.invokestatic 19, 3)) ∧ (decode cX2_rewind 8 = .ok (.aload_n 0, 1)) ∧ (decode cX2_rewind 9 = .ok (.bipush 6, 2)) ∧ (decode cX2_rewind 11 = .ok (.putfield 25, 3)) ∧ (decode cX2_rewind 14 = .ok (.aload_n 0, 1)) ∧ (decode cX2_rewind 15 = .ok (.bipush 125, 2)) ∧ (decode cX2_rewind 17 = .ok (.putfield 29, 3)) ∧ (decode cX2_rewind 20 = .ok (.aload_n 0, 1)) ∧ (decode cX2_rewind 21 = .ok (.iconst 0, 1)) ∧ (decode cX2_rewind 22 = .ok (.putfield 32, 3)) ∧ (decode cX2_rewind 25 = .ok (.aload_n 0, 1)) ∧ (decode cX2_rewind 26 = .ok (.iconst 0, 1)) ∧ (decode cX2_rewind 27 = .ok (.putfield 35, 3)) := by decide +kernel
theorem dX2_rewind_0 : decode cX2_rewind 0 = .ok (.aload_n 0, 1) := dq_X2_rewind_0.1
theorem dX2_rewind_1 : decode cX2_rewind 1 = .ok (.getfield 9, 3) := dq_X2_rewind_0.2.1
theorem dX2_rewind_4 : decode cX2_rewind 4 = .ok (.lconst 0, 1) := dq_X2_rewind_0.2.2.1
theorem dX2_rewind_5 : decode cX2_rewind 5 = .ok (.invokestatic 19, 3) := dq_X2_rewind_0.2.2.2.1
theorem dX2_rewind_8 : decode cX2_rewind 8 = .ok (.aload_n 0, 1) := dq_X2_rewind_0.2.2.2.2.1
theorem dX2_rewind_9 : decode cX2_rewind 9 = .ok (.bipush 6, 2) := dq_X2_rewind_0.2.2.2.2.2.1
theorem dX2_rewind_11 : decode cX2_rewind 11 = .ok (.putfield 25, 3) := dq_X2_rewind_0.2.2.2.2.2.2.1
theorem dX2_rewind_14 : decode cX2_rewind 14 = .ok (.aload_n 0, 1) := dq_X2_rewind_0.2.2.2.2.2.2.2.1
theorem dX2_rewind_15 : decode cX2_rewind 15 = .ok (.bipush 125, 2) := dq_X2_rewind_0.2.2.2.2.2.2.2.2.1
theorem dX2_rewind_17 : decode cX2_rewind 17 = .ok (.putfield 29, 3) := dq_X2_rewind_0.2.2.2.2.2.2.2.2.2.1
theorem dX2_rewind_20 : decode cX2_rewind 20 = .ok (.aload_n 0, 1) := dq_X2_rewind_0.2.2.2.2.2.2.2.2.2.2.1
theorem dX2_rewind_21 : decode cX2_rewind 21 = .ok (.iconst 0, 1) := dq_X2_rewind_0.2.2.2.2.2.2.2.2.2.2.2.1
theorem dX2_rewind_22 : decode cX2_rewind 22 = .ok (.putfield 32, 3) := dq_X2_rewind_0.2.2.2.2.2.2.2.2.2.2.2.2.1
theorem dX2_rewind_25 : decode cX2_rewind 25 = .ok (.aload_n 0, 1) := dq_X2_rewind_0.2.2.2.2.2.2.2.2.2.2.2.2.2.1
theorem dX2_rewind_26 : decode cX2_rewind 26 = .ok (.iconst 0, 1) := dq_X2_rewind_0.2.2.2.2.2.2.2.2.2.2.2.2.2.2.1
theorem dX2_rewind_27 : decode cX2_rewind 27 = .ok (.putfield 35, 3) := dq_X2_rewind_0.2.2.2.2.2.2.2.2.2.2.2.2.2.2.2
theorem dq_X2_rewind_30 : (decode cX2_rewind 30 = .ok (.aload_n 0, 1)) ∧ (decode cX2_rewind 31 = .ok (.iconst 0, 1)) ∧ (decode cX2_rewind 32 = .ok (.putfield 38, 3)) ∧ (decode cX2_rewind 35 = .ok (.aload_n 0, 1)) ∧ (decode cX2_rewind 36 = .ok (.iconst 0, 1)) ∧ (decode cX2_rewind 37 = .ok (.putfield 41, 3)) ∧ (decode cX2_rewind 40 = .ok (.aload_n 0, 1)) ∧ (decode cX2_rewind 41 = .ok (.iconst 0, 1)) ∧ (decode cX2_rewind 42 = .ok (.putfield 44, 3)) ∧ (decode cX2_rewind 45 = .ok (.aload_n 0, 1)) ∧ (decode cX2_rewind 46 = .ok (.invokevirtual 47, 3)) ∧ (decode cX2_rewind 49 = .ok (.return_, 1)) := by decide +kernel
theorem dX2_rewind_30 : decode cX2_rewind 30 = .ok (.aload_n 0, 1) := dq_X2_rewind_30.1
theorem dX2_rewind_31 : decode cX2_rewind 31 = .ok (.iconst 0, 1) := dq_X2_rewind_30.2.1
theorem dX2_rewind_32 : decode cX2_rewind 32 = .ok (.putfield 38, 3) := dq_X2_rewind_30.2.2.1
theorem dX2_rewind_35 : decode cX2_rewind 35 = .ok (.aload_n 0, 1) := dq_X2_rewind_30.2.2.2.1
theorem dX2_rewind_36 : decode cX2_rewind 36 = .ok (.iconst 0, 1) := dq_X2_rewind_30.2.2.2.2.1
theorem dX2_rewind_37 : decode cX2_rewind 37 = .ok (.putfield 41, 3) := dq_X2_rewind_30.2.2.2.2.2.1
theorem dX2_rewind_40 : decode cX2_rewind 40 = .ok (.aload_n 0, 1) := dq_X2_rewind_30.2.2.2.2.2.2.1
theorem dX2_rewind_41 : decode cX2_rewind 41 = .ok (.iconst 0, 1) := dq_X2_rewind_30.2.2.2.2.2.2.2.1
theorem dX2_rewind_42 : decode cX2_rewind 42 = .ok (.putfield 44, 3) := dq_X2_rewind_30.2.2.2.2.2.2.2.2.1
theorem dX2_rewind_45 : decode cX2_rewind 45 = .ok (.aload_n 0, 1) := dq_X2_rewind_30.2.2.2.2.2.2.2.2.2.1
theorem dX2_rewind_46 : decode cX2_rewind 46 = .ok (.invokevirtual 47, 3) := dq_X2_rewind_30.2.2.2.2.2.2.2.2.2.2.1
theorem dX2_rewind_49 : decode cX2_rewind 49 = .ok (.return_, 1) := dq_X2_rewind_30.2.2.2.2.2.2.2.2.2.2.2
theorem dq_X2_forgetTurns_0 : (decode cX2_forgetTurns 0 = .ok (.aload_n 0, 1)) ∧ (decode cX2_forgetTurns 1 = .ok (.iconst 0, 1)) ∧ (decode cX2_forgetTurns 2 = .ok (.putfield 50, 3)) ∧ (decode cX2_forgetTurns 5 = .ok (.aload_n 0, 1)) ∧ (decode cX2_forgetTurns 6 = .ok (.iconst (-1), 1)) ∧ (decode cX2_forgetTurns 7 = .ok (.putfield 53, 3)) ∧ (decode cX2_forgetTurns 10 = .ok (.aload_n 0, 1)) ∧ (decode cX2_forgetTurns 11 = .ok (.iconst (-1), 1)) ∧ (decode cX2_forgetTurns 12 = .ok (.putfield 56, 3)) ∧ (decode cX2_forgetTurns 15 = .ok (.aload_n 0, 1)) ∧ (decode cX2_forgetTurns 16 = .ok (.iconst (-1), 1)) ∧ (decode cX2_forgetTurns 17 = .ok (.putfield 59, 3)) ∧ (decode cX2_forgetTurns 20 = .ok (.return_, 1)) := by decide +kernel
theorem dX2_forgetTurns_0 : decode cX2_forgetTurns 0 = .ok (.aload_n 0, 1) := dq_X2_forgetTurns_0.1
theorem dX2_forgetTurns_1 : decode cX2_forgetTurns 1 = .ok (.iconst 0, 1) := dq_X2_forgetTurns_0.2.1
theorem dX2_forgetTurns_2 : decode cX2_forgetTurns 2 = .ok (.putfield 50, 3) := dq_X2_forgetTurns_0.2.2.1
theorem dX2_forgetTurns_5 : decode cX2_forgetTurns 5 = .ok (.aload_n 0, 1) := dq_X2_forgetTurns_0.2.2.2.1
theorem dX2_forgetTurns_6 : decode cX2_forgetTurns 6 = .ok (.iconst (-1), 1) := dq_X2_forgetTurns_0.2.2.2.2.1
theorem dX2_forgetTurns_7 : decode cX2_forgetTurns 7 = .ok (.putfield 53, 3) := dq_X2_forgetTurns_0.2.2.2.2.2.1
theorem dX2_forgetTurns_10 : decode cX2_forgetTurns 10 = .ok (.aload_n 0, 1) := dq_X2_forgetTurns_0.2.2.2.2.2.2.1
theorem dX2_forgetTurns_11 : decode cX2_forgetTurns 11 = .ok (.iconst (-1), 1) := dq_X2_forgetTurns_0.2.2.2.2.2.2.2.1
theorem dX2_forgetTurns_12 : decode cX2_forgetTurns 12 = .ok (.putfield 56, 3) := dq_X2_forgetTurns_0.2.2.2.2.2.2.2.2.1
theorem dX2_forgetTurns_15 : decode cX2_forgetTurns 15 = .ok (.aload_n 0, 1) := dq_X2_forgetTurns_0.2.2.2.2.2.2.2.2.2.1
theorem dX2_forgetTurns_16 : decode cX2_forgetTurns 16 = .ok (.iconst (-1), 1) := dq_X2_forgetTurns_0.2.2.2.2.2.2.2.2.2.2.1
theorem dX2_forgetTurns_17 : decode cX2_forgetTurns 17 = .ok (.putfield 59, 3) := dq_X2_forgetTurns_0.2.2.2.2.2.2.2.2.2.2.2.1
theorem dX2_forgetTurns_20 : decode cX2_forgetTurns 20 = .ok (.return_, 1) := dq_X2_forgetTurns_0.2.2.2.2.2.2.2.2.2.2.2.2
theorem dq_X2_step_0 : (decode cX2_step 0 = .ok (.aload_n 0, 1)) ∧ (decode cX2_step 1 = .ok (.getfield 41, 3)) ∧ (decode cX2_step 4 = .ok (.ifCond .ne 11, 3)) ∧ (decode cX2_step 7 = .ok (.aload_n 0, 1)) ∧ (decode cX2_step 8 = .ok (.aload_n 1, 1)) ∧ (decode cX2_step 9 = .ok (.invokevirtual 62, 3)) ∧ (decode cX2_step 12 = .ok (.goto 45, 3)) ∧ (decode cX2_step 15 = .ok (.aload_n 0, 1)) ∧ (decode cX2_step 16 = .ok (.getfield 38, 3)) ∧ (decode cX2_step 19 = .ok (.iconst 1, 1)) ∧ (decode cX2_step 20 = .ok (.iadd, 1)) ∧ (decode cX2_step 21 = .ok (.aload_n 0, 1)) ∧ (decode cX2_step 22 = .ok (.getfield 25, 3)) ∧ (decode cX2_step 25 = .ok (.iconst 1, 1)) ∧ (decode cX2_step 26 = .ok (.aload_n 0, 1)) ∧ (decode cX2_step 27 = .ok (.getfield 50, 3)) := by decide +kernel
theorem dX2_step_0 : decode cX2_step 0 = .ok (.aload_n 0, 1) := dq_X2_step_0.1
theorem dX2_step_1 : decode cX2_step 1 = .ok (.getfield 41, 3) := dq_X2_step_0.2.1
theorem dX2_step_4 : decode cX2_step 4 = .ok (.ifCond .ne 11, 3) := dq_X2_step_0.2.2.1
theorem dX2_step_7 : decode cX2_step 7 = .ok (.aload_n 0, 1) := dq_X2_step_0.2.2.2.1
theorem dX2_step_8 : decode cX2_step 8 = .ok (.aload_n 1, 1) := dq_X2_step_0.2.2.2.2.1
theorem dX2_step_9 : decode cX2_step 9 = .ok (.invokevirtual 62, 3) := dq_X2_step_0.2.2.2.2.2.1
theorem dX2_step_12 : decode cX2_step 12 = .ok (.goto 45, 3) := dq_X2_step_0.2.2.2.2.2.2.1
theorem dX2_step_15 : decode cX2_step 15 = .ok (.aload_n 0, 1) := dq_X2_step_0.2.2.2.2.2.2.2.1
theorem dX2_step_16 : decode cX2_step 16 = .ok (.getfield 38, 3) := dq_X2_step_0.2.2.2.2.2.2.2.2.1
theorem dX2_step_19 : decode cX2_step 19 = .ok (.iconst 1, 1) := dq_X2_step_0.2.2.2.2.2.2.2.2.2.1
theorem dX2_step_20 : decode cX2_step 20 = .ok (.iadd, 1) := dq_X2_step_0.2.2.2.2.2.2.2.2.2.2.1
theorem dX2_step_21 : decode cX2_step 21 = .ok (.aload_n 0, 1) := dq_X2_step_0.2.2.2.2.2.2.2.2.2.2.2.1
theorem dX2_step_22 : decode cX2_step 22 = .ok (.getfield 25, 3) := dq_X2_step_0.2.2.2.2.2.2.2.2.2.2.2.2.1
theorem dX2_step_25 : decode cX2_step 25 = .ok (.iconst 1, 1) := dq_X2_step_0.2.2.2.2.2.2.2.2.2.2.2.2.2.1
theorem dX2_step_26 : decode cX2_step 26 = .ok (.aload_n 0, 1) := dq_X2_step_0.2.2.2.2.2.2.2.2.2.2.2.2.2.2.1
theorem dX2_step_27 : decode cX2_step 27 = .ok (.getfield 50, 3) := dq_X2_step_0.2.2.2.2.2.2.2.2.2.2.2.2.2.2.2
theorem dq_X2_step_30 : (decode cX2_step 30 = .ok (.iadd, 1)) ∧ (decode cX2_step 31 = .ok (.imul, 1)) ∧ (decode cX2_step 32 = .ok (.if_icmp .ge 16, 3)) ∧ (decode cX2_step 35 = .ok (.aload_n 0, 1)) ∧ (decode cX2_step 36 = .ok (.dup, 1)) ∧ (decode cX2_step 37 = .ok (.getfield 38, 3)) ∧ (decode cX2_step 40 = .ok (.iconst 1, 1)) ∧ (decode cX2_step 41 = .ok (.iadd, 1)) ∧ (decode cX2_step 42 = .ok (.putfield 38, 3)) ∧ (decode cX2_step 45 = .ok (.goto 12, 3)) ∧ (decode cX2_step 48 = .ok (.aload_n 0, 1)) ∧ (decode cX2_step 49 = .ok (.invokevirtual 66, 3)) ∧ (decode cX2_step 52 = .ok (.aload_n 0, 1)) ∧ (decode cX2_step 53 = .ok (.aload_n 1, 1)) ∧ (decode cX2_step 54 = .ok (.invokevirtual 62, 3)) ∧ (decode cX2_step 57 = .ok (.aload_n 0, 1)) := by decide +kernel
theorem dX2_step_30 : decode cX2_step 30 = .ok (.iadd, 1) := dq_X2_step_30.1
theorem dX2_step_31 : decode cX2_step 31 = .ok (.imul, 1) := dq_X2_step_30.2.1
theorem dX2_step_32 : decode cX2_step 32 = .ok (.if_icmp .ge 16, 3) := dq_X2_step_30.2.2.1
theorem dX2_step_35 : decode cX2_step 35 = .ok (.aload_n 0, 1) := dq_X2_step_30.2.2.2.1
theorem dX2_step_36 : decode cX2_step 36 = .ok (.dup, 1) := dq_X2_step_30.2.2.2.2.1
theorem dX2_step_37 : decode cX2_step 37 = .ok (.getfield 38, 3) := dq_X2_step_30.2.2.2.2.2.1
theorem dX2_step_40 : decode cX2_step 40 = .ok (.iconst 1, 1) := dq_X2_step_30.2.2.2.2.2.2.1
theorem dX2_step_41 : decode cX2_step 41 = .ok (.iadd, 1) := dq_X2_step_30.2.2.2.2.2.2.2.1
theorem dX2_step_42 : decode cX2_step 42 = .ok (.putfield 38, 3) := dq_X2_step_30.2.2.2.2.2.2.2.2.1
theorem dX2_step_45 : decode cX2_step 45 = .ok (.goto 12, 3) := dq_X2_step_30.2.2.2.2.2.2.2.2.2.1
theorem dX2_step_48 : decode cX2_step 48 = .ok (.aload_n 0, 1) := dq_X2_step_30.2.2.2.2.2.2.2.2.2.2.1
theorem dX2_step_49 : decode cX2_step 49 = .ok (.invokevirtual 66, 3) := dq_X2_step_30.2.2.2.2.2.2.2.2.2.2.2.1
theorem dX2_step_52 : decode cX2_step 52 = .ok (.aload_n 0, 1) := dq_X2_step_30.2.2.2.2.2.2.2.2.2.2.2.2.1
theorem dX2_step_53 : decode cX2_step 53 = .ok (.aload_n 1, 1) := dq_X2_step_30.2.2.2.2.2.2.2.2.2.2.2.2.2.1
theorem dX2_step_54 : decode cX2_step 54 = .ok (.invokevirtual 62, 3) := dq_X2_step_30.2.2.2.2.2.2.2.2.2.2.2.2.2.2.1
theorem dX2_step_57 : decode cX2_step 57 = .ok (.aload_n 0, 1) := dq_X2_step_30.2.2.2.2.2.2.2.2.2.2.2.2.2.2.2
theorem dq_X2_step_58 : (decode cX2_step 58 = .ok (.dup, 1)) ∧ (decode cX2_step 59 = .ok (.getfield 41, 3)) ∧ (decode cX2_step 62 = .ok (.iconst 1, 1)) ∧ (decode cX2_step 63 = .ok (.iadd, 1)) ∧ (decode cX2_step 64 = .ok (.putfield 41, 3)) ∧ (decode cX2_step 67 = .ok (.return_, 1)) := by decide +kernel
theorem dX2_step_58 : decode cX2_step 58 = .ok (.dup, 1) := dq_X2_step_58.1
theorem dX2_step_59 : decode cX2_step 59 = .ok (.getfield 41, 3) := dq_X2_step_58.2.1
theorem dX2_step_62 : decode cX2_step 62 = .ok (.iconst 1, 1) := dq_X2_step_58.2.2.1
theorem dX2_step_63 : decode cX2_step 63 = .ok (.iadd, 1) := dq_X2_step_58.2.2.2.1
theorem dX2_step_64 : decode cX2_step 64 = .ok (.putfield 41, 3) := dq_X2_step_58.2.2.2.2.1
theorem dX2_step_67 : decode cX2_step 67 = .ok (.return_, 1) := dq_X2_step_58.2.2.2.2.2
theorem dq_X2_moveOn_0 : (decode cX2_moveOn 0 = .ok (.aload_n 0, 1)) ∧ (decode cX2_moveOn 1 = .ok (.getfield 59, 3)) ∧ (decode cX2_moveOn 4 = .ok (.iconst (-1), 1)) ∧ (decode cX2_moveOn 5 = .ok (.if_icmp .eq 14, 3)) ∧ (decode cX2_moveOn 8 = .ok (.aload_n 0, 1)) ∧ (decode cX2_moveOn 9 = .ok (.aload_n 0, 1)) ∧ (decode cX2_moveOn 10 = .ok (.getfield 59, 3)) ∧ (decode cX2_moveOn 13 = .ok (.putfield 35, 3)) ∧ (decode cX2_moveOn 16 = .ok (.goto 87, 3)) ∧ (decode cX2_moveOn 19 = .ok (.aload_n 0, 1)) ∧ (decode cX2_moveOn 20 = .ok (.getfield 53, 3)) ∧ (decode cX2_moveOn 23 = .ok (.iconst (-1), 1)) ∧ (decode cX2_moveOn 24 = .ok (.if_icmp .ne 11, 3)) ∧ (decode cX2_moveOn 27 = .ok (.aload_n 0, 1)) ∧ (decode cX2_moveOn 28 = .ok (.getfield 56, 3)) ∧ (decode cX2_moveOn 31 = .ok (.iconst (-1), 1)) := by decide +kernel
theorem dX2_moveOn_0 : decode cX2_moveOn 0 = .ok (.aload_n 0, 1) := dq_X2_moveOn_0.1
theorem dX2_moveOn_1 : decode cX2_moveOn 1 = .ok (.getfield 59, 3) := dq_X2_moveOn_0.2.1
theorem dX2_moveOn_4 : decode cX2_moveOn 4 = .ok (.iconst (-1), 1) := dq_X2_moveOn_0.2.2.1
theorem dX2_moveOn_5 : decode cX2_moveOn 5 = .ok (.if_icmp .eq 14, 3) := dq_X2_moveOn_0.2.2.2.1
theorem dX2_moveOn_8 : decode cX2_moveOn 8 = .ok (.aload_n 0, 1) := dq_X2_moveOn_0.2.2.2.2.1
theorem dX2_moveOn_9 : decode cX2_moveOn 9 = .ok (.aload_n 0, 1) := dq_X2_moveOn_0.2.2.2.2.2.1
theorem dX2_moveOn_10 : decode cX2_moveOn 10 = .ok (.getfield 59, 3) := dq_X2_moveOn_0.2.2.2.2.2.2.1
theorem dX2_moveOn_13 : decode cX2_moveOn 13 = .ok (.putfield 35, 3) := dq_X2_moveOn_0.2.2.2.2.2.2.2.1
theorem dX2_moveOn_16 : decode cX2_moveOn 16 = .ok (.goto 87, 3) := dq_X2_moveOn_0.2.2.2.2.2.2.2.2.1
theorem dX2_moveOn_19 : decode cX2_moveOn 19 = .ok (.aload_n 0, 1) := dq_X2_moveOn_0.2.2.2.2.2.2.2.2.2.1
theorem dX2_moveOn_20 : decode cX2_moveOn 20 = .ok (.getfield 53, 3) := dq_X2_moveOn_0.2.2.2.2.2.2.2.2.2.2.1
theorem dX2_moveOn_23 : decode cX2_moveOn 23 = .ok (.iconst (-1), 1) := dq_X2_moveOn_0.2.2.2.2.2.2.2.2.2.2.2.1
theorem dX2_moveOn_24 : decode cX2_moveOn 24 = .ok (.if_icmp .ne 11, 3) := dq_X2_moveOn_0.2.2.2.2.2.2.2.2.2.2.2.2.1
theorem dX2_moveOn_27 : decode cX2_moveOn 27 = .ok (.aload_n 0, 1) := dq_X2_moveOn_0.2.2.2.2.2.2.2.2.2.2.2.2.2.1
theorem dX2_moveOn_28 : decode cX2_moveOn 28 = .ok (.getfield 56, 3) := dq_X2_moveOn_0.2.2.2.2.2.2.2.2.2.2.2.2.2.2.1
theorem dX2_moveOn_31 : decode cX2_moveOn 31 = .ok (.iconst (-1), 1) := dq_X2_moveOn_0.2.2.2.2.2.2.2.2.2.2.2.2.2.2.2
theorem dq_X2_moveOn_32 : (decode cX2_moveOn 32 = .ok (.if_icmp .eq 34, 3)) ∧ (decode cX2_moveOn 35 = .ok (.aload_n 0, 1)) ∧ (decode cX2_moveOn 36 = .ok (.aload_n 0, 1)) ∧ (decode cX2_moveOn 37 = .ok (.invokevirtual 69, 3)) ∧ (decode cX2_moveOn 40 = .ok (.putfield 32, 3)) ∧ (decode cX2_moveOn 43 = .ok (.aload_n 0, 1)) ∧ (decode cX2_moveOn 44 = .ok (.aload_n 0, 1)) ∧ (decode cX2_moveOn 45 = .ok (.getfield 56, 3)) ∧ (decode cX2_moveOn 48 = .ok (.iconst (-1), 1)) ∧ (decode cX2_moveOn 49 = .ok (.if_icmp .ne 7, 3)) ∧ (decode cX2_moveOn 52 = .ok (.iconst 0, 1)) ∧ (decode cX2_moveOn 53 = .ok (.goto 7, 3)) ∧ (decode cX2_moveOn 56 = .ok (.aload_n 0, 1)) ∧ (decode cX2_moveOn 57 = .ok (.getfield 56, 3)) ∧ (decode cX2_moveOn 60 = .ok (.putfield 35, 3)) ∧ (decode cX2_moveOn 63 = .ok (.goto 40, 3)) := by decide +kernel
theorem dX2_moveOn_32 : decode cX2_moveOn 32 = .ok (.if_icmp .eq 34, 3) := dq_X2_moveOn_32.1
theorem dX2_moveOn_35 : decode cX2_moveOn 35 = .ok (.aload_n 0, 1) := dq_X2_moveOn_32.2.1
theorem dX2_moveOn_36 : decode cX2_moveOn 36 = .ok (.aload_n 0, 1) := dq_X2_moveOn_32.2.2.1
theorem dX2_moveOn_37 : decode cX2_moveOn 37 = .ok (.invokevirtual 69, 3) := dq_X2_moveOn_32.2.2.2.1
theorem dX2_moveOn_40 : decode cX2_moveOn 40 = .ok (.putfield 32, 3) := dq_X2_moveOn_32.2.2.2.2.1
theorem dX2_moveOn_43 : decode cX2_moveOn 43 = .ok (.aload_n 0, 1) := dq_X2_moveOn_32.2.2.2.2.2.1
theorem dX2_moveOn_44 : decode cX2_moveOn 44 = .ok (.aload_n 0, 1) := dq_X2_moveOn_32.2.2.2.2.2.2.1
theorem dX2_moveOn_45 : decode cX2_moveOn 45 = .ok (.getfield 56, 3) := dq_X2_moveOn_32.2.2.2.2.2.2.2.1
theorem dX2_moveOn_48 : decode cX2_moveOn 48 = .ok (.iconst (-1), 1) := dq_X2_moveOn_32.2.2.2.2.2.2.2.2.1
theorem dX2_moveOn_49 : decode cX2_moveOn 49 = .ok (.if_icmp .ne 7, 3) := dq_X2_moveOn_32.2.2.2.2.2.2.2.2.2.1
theorem dX2_moveOn_52 : decode cX2_moveOn 52 = .ok (.iconst 0, 1) := dq_X2_moveOn_32.2.2.2.2.2.2.2.2.2.2.1
theorem dX2_moveOn_53 : decode cX2_moveOn 53 = .ok (.goto 7, 3) := dq_X2_moveOn_32.2.2.2.2.2.2.2.2.2.2.2.1
theorem dX2_moveOn_56 : decode cX2_moveOn 56 = .ok (.aload_n 0, 1) := dq_X2_moveOn_32.2.2.2.2.2.2.2.2.2.2.2.2.1
theorem dX2_moveOn_57 : decode cX2_moveOn 57 = .ok (.getfield 56, 3) := dq_X2_moveOn_32.2.2.2.2.2.2.2.2.2.2.2.2.2.1
theorem dX2_moveOn_60 : decode cX2_moveOn 60 = .ok (.putfield 35, 3) := dq_X2_moveOn_32.2.2.2.2.2.2.2.2.2.2.2.2.2.2.1
theorem dX2_moveOn_63 : decode cX2_moveOn 63 = .ok (.goto 40, 3) := dq_X2_moveOn_32.2.2.2.2.2.2.2.2.2.2.2.2.2.2.2
theorem dq_X2_moveOn_66 : (decode cX2_moveOn 66 = .ok (.aload_n 0, 1)) ∧ (decode cX2_moveOn 67 = .ok (.getfield 35, 3)) ∧ (decode cX2_moveOn 70 = .ok (.bipush 63, 2)) ∧ (decode cX2_moveOn 72 = .ok (.if_icmp .ge 16, 3)) ∧ (decode cX2_moveOn 75 = .ok (.aload_n 0, 1)) ∧ (decode cX2_moveOn 76 = .ok (.dup, 1)) ∧ (decode cX2_moveOn 77 = .ok (.getfield 35, 3)) ∧ (decode cX2_moveOn 80 = .ok (.iconst 1, 1)) ∧ (decode cX2_moveOn 81 = .ok (.iadd, 1)) ∧ (decode cX2_moveOn 82 = .ok (.putfield 35, 3)) ∧ (decode cX2_moveOn 85 = .ok (.goto 18, 3)) ∧ (decode cX2_moveOn 88 = .ok (.aload_n 0, 1)) ∧ (decode cX2_moveOn 89 = .ok (.iconst 0, 1)) ∧ (decode cX2_moveOn 90 = .ok (.putfield 35, 3)) ∧ (decode cX2_moveOn 93 = .ok (.aload_n 0, 1)) ∧ (decode cX2_moveOn 94 = .ok (.dup, 1)) := by decide +kernel
theorem dX2_moveOn_66 : decode cX2_moveOn 66 = .ok (.aload_n 0, 1) := dq_X2_moveOn_66.1
theorem dX2_moveOn_67 : decode cX2_moveOn 67 = .ok (.getfield 35, 3) := dq_X2_moveOn_66.2.1
theorem dX2_moveOn_70 : decode cX2_moveOn 70 = .ok (.bipush 63, 2) := dq_X2_moveOn_66.2.2.1
theorem dX2_moveOn_72 : decode cX2_moveOn 72 = .ok (.if_icmp .ge 16, 3) := dq_X2_moveOn_66.2.2.2.1
theorem dX2_moveOn_75 : decode cX2_moveOn 75 = .ok (.aload_n 0, 1) := dq_X2_moveOn_66.2.2.2.2.1
theorem dX2_moveOn_76 : decode cX2_moveOn 76 = .ok (.dup, 1) := dq_X2_moveOn_66.2.2.2.2.2.1
theorem dX2_moveOn_77 : decode cX2_moveOn 77 = .ok (.getfield 35, 3) := dq_X2_moveOn_66.2.2.2.2.2.2.1
theorem dX2_moveOn_80 : decode cX2_moveOn 80 = .ok (.iconst 1, 1) := dq_X2_moveOn_66.2.2.2.2.2.2.2.1
theorem dX2_moveOn_81 : decode cX2_moveOn 81 = .ok (.iadd, 1) := dq_X2_moveOn_66.2.2.2.2.2.2.2.2.1
theorem dX2_moveOn_82 : decode cX2_moveOn 82 = .ok (.putfield 35, 3) := dq_X2_moveOn_66.2.2.2.2.2.2.2.2.2.1
theorem dX2_moveOn_85 : decode cX2_moveOn 85 = .ok (.goto 18, 3) := dq_X2_moveOn_66.2.2.2.2.2.2.2.2.2.2.1
theorem dX2_moveOn_88 : decode cX2_moveOn 88 = .ok (.aload_n 0, 1) := dq_X2_moveOn_66.2.2.2.2.2.2.2.2.2.2.2.1
theorem dX2_moveOn_89 : decode cX2_moveOn 89 = .ok (.iconst 0, 1) := dq_X2_moveOn_66.2.2.2.2.2.2.2.2.2.2.2.2.1
theorem dX2_moveOn_90 : decode cX2_moveOn 90 = .ok (.putfield 35, 3) := dq_X2_moveOn_66.2.2.2.2.2.2.2.2.2.2.2.2.2.1
theorem dX2_moveOn_93 : decode cX2_moveOn 93 = .ok (.aload_n 0, 1) := dq_X2_moveOn_66.2.2.2.2.2.2.2.2.2.2.2.2.2.2.1
theorem dX2_moveOn_94 : decode cX2_moveOn 94 = .ok (.dup, 1) := dq_X2_moveOn_66.2.2.2.2.2.2.2.2.2.2.2.2.2.2.2
theorem dq_X2_moveOn_95 : (decode cX2_moveOn 95 = .ok (.getfield 32, 3)) ∧ (decode cX2_moveOn 98 = .ok (.iconst 1, 1)) ∧ (decode cX2_moveOn 99 = .ok (.iadd, 1)) ∧ (decode cX2_moveOn 100 = .ok (.putfield 32, 3)) ∧ (decode cX2_moveOn 103 = .ok (.aload_n 0, 1)) ∧ (decode cX2_moveOn 104 = .ok (.getfield 32, 3)) ∧ (decode cX2_moveOn 107 = .ok (.aload_n 0, 1)) ∧ (decode cX2_moveOn 108 = .ok (.getfield 15, 3)) ∧ (decode cX2_moveOn 111 = .ok (.getfield 73, 3)) ∧ (decode cX2_moveOn 114 = .ok (.if_icmp .lt 35, 3)) ∧ (decode cX2_moveOn 117 = .ok (.aload_n 0, 1)) ∧ (decode cX2_moveOn 118 = .ok (.aload_n 0, 1)) ∧ (decode cX2_moveOn 119 = .ok (.getfield 15, 3)) ∧ (decode cX2_moveOn 122 = .ok (.getfield 78, 3)) ∧ (decode cX2_moveOn 125 = .ok (.aload_n 0, 1)) ∧ (decode cX2_moveOn 126 = .ok (.getfield 15, 3)) := by decide +kernel
theorem dX2_moveOn_95 : decode cX2_moveOn 95 = .ok (.getfield 32, 3) := dq_X2_moveOn_95.1
theorem dX2_moveOn_98 : decode cX2_moveOn 98 = .ok (.iconst 1, 1) := dq_X2_moveOn_95.2.1
theorem dX2_moveOn_99 : decode cX2_moveOn 99 = .ok (.iadd, 1) := dq_X2_moveOn_95.2.2.1
theorem dX2_moveOn_100 : decode cX2_moveOn 100 = .ok (.putfield 32, 3) := dq_X2_moveOn_95.2.2.2.1
theorem dX2_moveOn_103 : decode cX2_moveOn 103 = .ok (.aload_n 0, 1) := dq_X2_moveOn_95.2.2.2.2.1
theorem dX2_moveOn_104 : decode cX2_moveOn 104 = .ok (.getfield 32, 3) := dq_X2_moveOn_95.2.2.2.2.2.1
theorem dX2_moveOn_107 : decode cX2_moveOn 107 = .ok (.aload_n 0, 1) := dq_X2_moveOn_95.2.2.2.2.2.2.1
theorem dX2_moveOn_108 : decode cX2_moveOn 108 = .ok (.getfield 15, 3) := dq_X2_moveOn_95.2.2.2.2.2.2.2.1
theorem dX2_moveOn_111 : decode cX2_moveOn 111 = .ok (.getfield 73, 3) := dq_X2_moveOn_95.2.2.2.2.2.2.2.2.1
theorem dX2_moveOn_114 : decode cX2_moveOn 114 = .ok (.if_icmp .lt 35, 3) := dq_X2_moveOn_95.2.2.2.2.2.2.2.2.2.1
theorem dX2_moveOn_117 : decode cX2_moveOn 117 = .ok (.aload_n 0, 1) := dq_X2_moveOn_95.2.2.2.2.2.2.2.2.2.2.1
theorem dX2_moveOn_118 : decode cX2_moveOn 118 = .ok (.aload_n 0, 1) := dq_X2_moveOn_95.2.2.2.2.2.2.2.2.2.2.2.1
theorem dX2_moveOn_119 : decode cX2_moveOn 119 = .ok (.getfield 15, 3) := dq_X2_moveOn_95.2.2.2.2.2.2.2.2.2.2.2.2.1
theorem dX2_moveOn_122 : decode cX2_moveOn 122 = .ok (.getfield 78, 3) := dq_X2_moveOn_95.2.2.2.2.2.2.2.2.2.2.2.2.2.1
theorem dX2_moveOn_125 : decode cX2_moveOn 125 = .ok (.aload_n 0, 1) := dq_X2_moveOn_95.2.2.2.2.2.2.2.2.2.2.2.2.2.2.1
theorem dX2_moveOn_126 : decode cX2_moveOn 126 = .ok (.getfield 15, 3) := dq_X2_moveOn_95.2.2.2.2.2.2.2.2.2.2.2.2.2.2.2
theorem dq_X2_moveOn_129 : (decode cX2_moveOn 129 = .ok (.getfield 73, 3)) ∧ (decode cX2_moveOn 132 = .ok (.if_icmp .ge 13, 3)) ∧ (decode cX2_moveOn 135 = .ok (.aload_n 0, 1)) ∧ (decode cX2_moveOn 136 = .ok (.getfield 15, 3)) ∧ (decode cX2_moveOn 139 = .ok (.getfield 78, 3)) ∧ (decode cX2_moveOn 142 = .ok (.goto 4, 3)) ∧ (decode cX2_moveOn 145 = .ok (.iconst 0, 1)) ∧ (decode cX2_moveOn 146 = .ok (.putfield 32, 3)) ∧ (decode cX2_moveOn 149 = .ok (.return_, 1)) := by decide +kernel
theorem dX2_moveOn_129 : decode cX2_moveOn 129 = .ok (.getfield 73, 3) := dq_X2_moveOn_129.1
theorem dX2_moveOn_132 : decode cX2_moveOn 132 = .ok (.if_icmp .ge 13, 3) := dq_X2_moveOn_129.2.1
theorem dX2_moveOn_135 : decode cX2_moveOn 135 = .ok (.aload_n 0, 1) := dq_X2_moveOn_129.2.2.1
theorem dX2_moveOn_136 : decode cX2_moveOn 136 = .ok (.getfield 15, 3) := dq_X2_moveOn_129.2.2.2.1
theorem dX2_moveOn_139 : decode cX2_moveOn 139 = .ok (.getfield 78, 3) := dq_X2_moveOn_129.2.2.2.2.1
theorem dX2_moveOn_142 : decode cX2_moveOn 142 = .ok (.goto 4, 3) := dq_X2_moveOn_129.2.2.2.2.2.1
theorem dX2_moveOn_145 : decode cX2_moveOn 145 = .ok (.iconst 0, 1) := dq_X2_moveOn_129.2.2.2.2.2.2.1
theorem dX2_moveOn_146 : decode cX2_moveOn 146 = .ok (.putfield 32, 3) := dq_X2_moveOn_129.2.2.2.2.2.2.2.1
theorem dX2_moveOn_149 : decode cX2_moveOn 149 = .ok (.return_, 1) := dq_X2_moveOn_129.2.2.2.2.2.2.2.2
theorem dq_X2_placeOfTurn_0 : (decode cX2_placeOfTurn 0 = .ok (.aload_n 0, 1)) ∧ (decode cX2_placeOfTurn 1 = .ok (.getfield 53, 3)) ∧ (decode cX2_placeOfTurn 4 = .ok (.iconst (-1), 1)) ∧ (decode cX2_placeOfTurn 5 = .ok (.if_icmp .ne 10, 3)) ∧ (decode cX2_placeOfTurn 8 = .ok (.aload_n 0, 1)) ∧ (decode cX2_placeOfTurn 9 = .ok (.getfield 32, 3)) ∧ (decode cX2_placeOfTurn 12 = .ok (.iconst 1, 1)) ∧ (decode cX2_placeOfTurn 13 = .ok (.iadd, 1)) ∧ (decode cX2_placeOfTurn 14 = .ok (.ireturn, 1)) ∧ (decode cX2_placeOfTurn 15 = .ok (.aload_n 0, 1)) ∧ (decode cX2_placeOfTurn 16 = .ok (.getfield 53, 3)) ∧ (decode cX2_placeOfTurn 19 = .ok (.aload_n 0, 1)) ∧ (decode cX2_placeOfTurn 20 = .ok (.getfield 15, 3)) ∧ (decode cX2_placeOfTurn 23 = .ok (.getfield 73, 3)) ∧ (decode cX2_placeOfTurn 26 = .ok (.if_icmp .ge 10, 3)) ∧ (decode cX2_placeOfTurn 29 = .ok (.aload_n 0, 1)) := by decide +kernel
theorem dX2_placeOfTurn_0 : decode cX2_placeOfTurn 0 = .ok (.aload_n 0, 1) := dq_X2_placeOfTurn_0.1
theorem dX2_placeOfTurn_1 : decode cX2_placeOfTurn 1 = .ok (.getfield 53, 3) := dq_X2_placeOfTurn_0.2.1
theorem dX2_placeOfTurn_4 : decode cX2_placeOfTurn 4 = .ok (.iconst (-1), 1) := dq_X2_placeOfTurn_0.2.2.1
theorem dX2_placeOfTurn_5 : decode cX2_placeOfTurn 5 = .ok (.if_icmp .ne 10, 3) := dq_X2_placeOfTurn_0.2.2.2.1
theorem dX2_placeOfTurn_8 : decode cX2_placeOfTurn 8 = .ok (.aload_n 0, 1) := dq_X2_placeOfTurn_0.2.2.2.2.1
theorem dX2_placeOfTurn_9 : decode cX2_placeOfTurn 9 = .ok (.getfield 32, 3) := dq_X2_placeOfTurn_0.2.2.2.2.2.1
theorem dX2_placeOfTurn_12 : decode cX2_placeOfTurn 12 = .ok (.iconst 1, 1) := dq_X2_placeOfTurn_0.2.2.2.2.2.2.1
theorem dX2_placeOfTurn_13 : decode cX2_placeOfTurn 13 = .ok (.iadd, 1) := dq_X2_placeOfTurn_0.2.2.2.2.2.2.2.1
theorem dX2_placeOfTurn_14 : decode cX2_placeOfTurn 14 = .ok (.ireturn, 1) := dq_X2_placeOfTurn_0.2.2.2.2.2.2.2.2.1
theorem dX2_placeOfTurn_15 : decode cX2_placeOfTurn 15 = .ok (.aload_n 0, 1) := dq_X2_placeOfTurn_0.2.2.2.2.2.2.2.2.2.1
theorem dX2_placeOfTurn_16 : decode cX2_placeOfTurn 16 = .ok (.getfield 53, 3) := dq_X2_placeOfTurn_0.2.2.2.2.2.2.2.2.2.2.1
theorem dX2_placeOfTurn_19 : decode cX2_placeOfTurn 19 = .ok (.aload_n 0, 1) := dq_X2_placeOfTurn_0.2.2.2.2.2.2.2.2.2.2.2.1
theorem dX2_placeOfTurn_20 : decode cX2_placeOfTurn 20 = .ok (.getfield 15, 3) := dq_X2_placeOfTurn_0.2.2.2.2.2.2.2.2.2.2.2.2.1
theorem dX2_placeOfTurn_23 : decode cX2_placeOfTurn 23 = .ok (.getfield 73, 3) := dq_X2_placeOfTurn_0.2.2.2.2.2.2.2.2.2.2.2.2.2.1
theorem dX2_placeOfTurn_26 : decode cX2_placeOfTurn 26 = .ok (.if_icmp .ge 10, 3) := dq_X2_placeOfTurn_0.2.2.2.2.2.2.2.2.2.2.2.2.2.2.1
theorem dX2_placeOfTurn_29 : decode cX2_placeOfTurn 29 = .ok (.aload_n 0, 1) := dq_X2_placeOfTurn_0.2.2.2.2.2.2.2.2.2.2.2.2.2.2.2
theorem dq_X2_placeOfTurn_30 : (decode cX2_placeOfTurn 30 = .ok (.getfield 53, 3)) ∧ (decode cX2_placeOfTurn 33 = .ok (.goto 4, 3)) ∧ (decode cX2_placeOfTurn 36 = .ok (.iconst 0, 1)) ∧ (decode cX2_placeOfTurn 37 = .ok (.ireturn, 1)) := by decide +kernel
theorem dX2_placeOfTurn_30 : decode cX2_placeOfTurn 30 = .ok (.getfield 53, 3) := dq_X2_placeOfTurn_30.1
theorem dX2_placeOfTurn_33 : decode cX2_placeOfTurn 33 = .ok (.goto 4, 3) := dq_X2_placeOfTurn_30.2.1
theorem dX2_placeOfTurn_36 : decode cX2_placeOfTurn 36 = .ok (.iconst 0, 1) := dq_X2_placeOfTurn_30.2.2.1
theorem dX2_placeOfTurn_37 : decode cX2_placeOfTurn 37 = .ok (.ireturn, 1) := dq_X2_placeOfTurn_30.2.2.2
theorem dq_X2_beginRow_0 : (decode cX2_beginRow 0 = .ok (.aload_n 0, 1)) ∧ (decode cX2_beginRow 1 = .ok (.iconst 0, 1)) ∧ (decode cX2_beginRow 2 = .ok (.putfield 38, 3)) ∧ (decode cX2_beginRow 5 = .ok (.aload_n 0, 1)) ∧ (decode cX2_beginRow 6 = .ok (.invokevirtual 47, 3)) ∧ (decode cX2_beginRow 9 = .ok (.aload_n 0, 1)) ∧ (decode cX2_beginRow 10 = .ok (.aload_n 1, 1)) ∧ (decode cX2_beginRow 11 = .ok (.invokestatic 81, 3)) ∧ (decode cX2_beginRow 14 = .ok (.invokevirtual 85, 3)) ∧ (decode cX2_beginRow 17 = .ok (.aload_n 0, 1)) ∧ (decode cX2_beginRow 18 = .ok (.getfield 15, 3)) ∧ (decode cX2_beginRow 21 = .ok (.aload_n 0, 1)) ∧ (decode cX2_beginRow 22 = .ok (.getfield 32, 3)) ∧ (decode cX2_beginRow 25 = .ok (.invokevirtual 89, 3)) ∧ (decode cX2_beginRow 28 = .ok (.istore_n 2, 1)) ∧ (decode cX2_beginRow 29 = .ok (.iconst 0, 1)) := by decide +kernel
theorem dX2_beginRow_0 : decode cX2_beginRow 0 = .ok (.aload_n 0, 1) := dq_X2_beginRow_0.1
theorem dX2_beginRow_1 : decode cX2_beginRow 1 = .ok (.iconst 0, 1) := dq_X2_beginRow_0.2.1
theorem dX2_beginRow_2 : decode cX2_beginRow 2 = .ok (.putfield 38, 3) := dq_X2_beginRow_0.2.2.1
theorem dX2_beginRow_5 : decode cX2_beginRow 5 = .ok (.aload_n 0, 1) := dq_X2_beginRow_0.2.2.2.1
theorem dX2_beginRow_6 : decode cX2_beginRow 6 = .ok (.invokevirtual 47, 3) := dq_X2_beginRow_0.2.2.2.2.1
theorem dX2_beginRow_9 : decode cX2_beginRow 9 = .ok (.aload_n 0, 1) := dq_X2_beginRow_0.2.2.2.2.2.1
theorem dX2_beginRow_10 : decode cX2_beginRow 10 = .ok (.aload_n 1, 1) := dq_X2_beginRow_0.2.2.2.2.2.2.1
theorem dX2_beginRow_11 : decode cX2_beginRow 11 = .ok (.invokestatic 81, 3) := dq_X2_beginRow_0.2.2.2.2.2.2.2.1
theorem dX2_beginRow_14 : decode cX2_beginRow 14 = .ok (.invokevirtual 85, 3) := dq_X2_beginRow_0.2.2.2.2.2.2.2.2.1
theorem dX2_beginRow_17 : decode cX2_beginRow 17 = .ok (.aload_n 0, 1) := dq_X2_beginRow_0.2.2.2.2.2.2.2.2.2.1
theorem dX2_beginRow_18 : decode cX2_beginRow 18 = .ok (.getfield 15, 3) := dq_X2_beginRow_0.2.2.2.2.2.2.2.2.2.2.1
theorem dX2_beginRow_21 : decode cX2_beginRow 21 = .ok (.aload_n 0, 1) := dq_X2_beginRow_0.2.2.2.2.2.2.2.2.2.2.2.1
theorem dX2_beginRow_22 : decode cX2_beginRow 22 = .ok (.getfield 32, 3) := dq_X2_beginRow_0.2.2.2.2.2.2.2.2.2.2.2.2.1
theorem dX2_beginRow_25 : decode cX2_beginRow 25 = .ok (.invokevirtual 89, 3) := dq_X2_beginRow_0.2.2.2.2.2.2.2.2.2.2.2.2.2.1
theorem dX2_beginRow_28 : decode cX2_beginRow 28 = .ok (.istore_n 2, 1) := dq_X2_beginRow_0.2.2.2.2.2.2.2.2.2.2.2.2.2.2.1
theorem dX2_beginRow_29 : decode cX2_beginRow 29 = .ok (.iconst 0, 1) := dq_X2_beginRow_0.2.2.2.2.2.2.2.2.2.2.2.2.2.2.2
theorem dq_X2_beginRow_30 : (decode cX2_beginRow 30 = .ok (.istore_n 3, 1)) ∧ (decode cX2_beginRow 31 = .ok (.iload_n 3, 1)) ∧ (decode cX2_beginRow 32 = .ok (.aload_n 1, 1)) ∧ (decode cX2_beginRow 33 = .ok (.arraylength, 1)) ∧ (decode cX2_beginRow 34 = .ok (.if_icmp .ge 28, 3)) ∧ (decode cX2_beginRow 37 = .ok (.aload_n 1, 1)) ∧ (decode cX2_beginRow 38 = .ok (.iload_n 3, 1)) ∧ (decode cX2_beginRow 39 = .ok (.aaload, 1)) ∧ (decode cX2_beginRow 40 = .ok (.aload_n 0, 1)) ∧ (decode cX2_beginRow 41 = .ok (.getfield 15, 3)) ∧ (decode cX2_beginRow 44 = .ok (.iload_n 2, 1)) ∧ (decode cX2_beginRow 45 = .ok (.aload_n 0, 1)) ∧ (decode cX2_beginRow 46 = .ok (.getfield 35, 3)) ∧ (decode cX2_beginRow 49 = .ok (.iload_n 3, 1)) ∧ (decode cX2_beginRow 50 = .ok (.invokevirtual 93, 3)) ∧ (decode cX2_beginRow 53 = .ok (.putfield 97, 3)) := by decide +kernel
theorem dX2_beginRow_30 : decode cX2_beginRow 30 = .ok (.istore_n 3, 1) := dq_X2_beginRow_30.1
theorem dX2_beginRow_31 : decode cX2_beginRow 31 = .ok (.iload_n 3, 1) := dq_X2_beginRow_30.2.1
theorem dX2_beginRow_32 : decode cX2_beginRow 32 = .ok (.aload_n 1, 1) := dq_X2_beginRow_30.2.2.1
theorem dX2_beginRow_33 : decode cX2_beginRow 33 = .ok (.arraylength, 1) := dq_X2_beginRow_30.2.2.2.1
theorem dX2_beginRow_34 : decode cX2_beginRow 34 = .ok (.if_icmp .ge 28, 3) := dq_X2_beginRow_30.2.2.2.2.1
theorem dX2_beginRow_37 : decode cX2_beginRow 37 = .ok (.aload_n 1, 1) := dq_X2_beginRow_30.2.2.2.2.2.1
theorem dX2_beginRow_38 : decode cX2_beginRow 38 = .ok (.iload_n 3, 1) := dq_X2_beginRow_30.2.2.2.2.2.2.1
theorem dX2_beginRow_39 : decode cX2_beginRow 39 = .ok (.aaload, 1) := dq_X2_beginRow_30.2.2.2.2.2.2.2.1
theorem dX2_beginRow_40 : decode cX2_beginRow 40 = .ok (.aload_n 0, 1) := dq_X2_beginRow_30.2.2.2.2.2.2.2.2.1
theorem dX2_beginRow_41 : decode cX2_beginRow 41 = .ok (.getfield 15, 3) := dq_X2_beginRow_30.2.2.2.2.2.2.2.2.2.1
theorem dX2_beginRow_44 : decode cX2_beginRow 44 = .ok (.iload_n 2, 1) := dq_X2_beginRow_30.2.2.2.2.2.2.2.2.2.2.1
theorem dX2_beginRow_45 : decode cX2_beginRow 45 = .ok (.aload_n 0, 1) := dq_X2_beginRow_30.2.2.2.2.2.2.2.2.2.2.2.1
theorem dX2_beginRow_46 : decode cX2_beginRow 46 = .ok (.getfield 35, 3) := dq_X2_beginRow_30.2.2.2.2.2.2.2.2.2.2.2.2.1
theorem dX2_beginRow_49 : decode cX2_beginRow 49 = .ok (.iload_n 3, 1) := dq_X2_beginRow_30.2.2.2.2.2.2.2.2.2.2.2.2.2.1
theorem dX2_beginRow_50 : decode cX2_beginRow 50 = .ok (.invokevirtual 93, 3) := dq_X2_beginRow_30.2.2.2.2.2.2.2.2.2.2.2.2.2.2.1
theorem dX2_beginRow_53 : decode cX2_beginRow 53 = .ok (.putfield 97, 3) := dq_X2_beginRow_30.2.2.2.2.2.2.2.2.2.2.2.2.2.2.2
theorem dq_X2_beginRow_56 : (decode cX2_beginRow 56 = .ok (.iinc 3 1, 3)) ∧ (decode cX2_beginRow 59 = .ok (.goto (-28), 3)) ∧ (decode cX2_beginRow 62 = .ok (.return_, 1)) := by decide +kernel
theorem dX2_beginRow_56 : decode cX2_beginRow 56 = .ok (.iinc 3 1, 3) := dq_X2_beginRow_56.1
theorem dX2_beginRow_59 : decode cX2_beginRow 59 = .ok (.goto (-28), 3) := dq_X2_beginRow_56.2.1
theorem dX2_beginRow_62 : decode cX2_beginRow 62 = .ok (.return_, 1) := dq_X2_beginRow_56.2.2
theorem dq_X2_isLooping_0 : (decode cX2_isLooping 0 = .ok (.iconst 0, 1)) ∧ (decode cX2_isLooping 1 = .ok (.istore_n 1, 1)) ∧ (decode cX2_isLooping 2 = .ok (.iload_n 1, 1)) ∧ (decode cX2_isLooping 3 = .ok (.aload_n 0, 1)) ∧ (decode cX2_isLooping 4 = .ok (.arraylength, 1)) ∧ (decode cX2_isLooping 5 = .ok (.if_icmp .ge 20, 3)) ∧ (decode cX2_isLooping 8 = .ok (.aload_n 0, 1)) ∧ (decode cX2_isLooping 9 = .ok (.iload_n 1, 1)) ∧ (decode cX2_isLooping 10 = .ok (.aaload, 1)) ∧ (decode cX2_isLooping 11 = .ok (.getfield 102, 3)) ∧ (decode cX2_isLooping 14 = .ok (.ifCond .le 5, 3)) ∧ (decode cX2_isLooping 17 = .ok (.iconst 1, 1)) ∧ (decode cX2_isLooping 18 = .ok (.ireturn, 1)) ∧ (decode cX2_isLooping 19 = .ok (.iinc 1 1, 3)) ∧ (decode cX2_isLooping 22 = .ok (.goto (-20), 3)) ∧ (decode cX2_isLooping 25 = .ok (.iconst 0, 1)) := by decide +kernel
theorem dX2_isLooping_0 : decode cX2_isLooping 0 = .ok (.iconst 0, 1) := dq_X2_isLooping_0.1
theorem dX2_isLooping_1 : decode cX2_isLooping 1 = .ok (.istore_n 1, 1) := dq_X2_isLooping_0.2.1
theorem dX2_isLooping_2 : decode cX2_isLooping 2 = .ok (.iload_n 1, 1) := dq_X2_isLooping_0.2.2.1
theorem dX2_isLooping_3 : decode cX2_isLooping 3 = .ok (.aload_n 0, 1) := dq_X2_isLooping_0.2.2.2.1
theorem dX2_isLooping_4 : decode cX2_isLooping 4 = .ok (.arraylength, 1) := dq_X2_isLooping_0.2.2.2.2.1
theorem dX2_isLooping_5 : decode cX2_isLooping 5 = .ok (.if_icmp .ge 20, 3) := dq_X2_isLooping_0.2.2.2.2.2.1
theorem dX2_isLooping_8 : decode cX2_isLooping 8 = .ok (.aload_n 0, 1) := dq_X2_isLooping_0.2.2.2.2.2.2.1
theorem dX2_isLooping_9 : decode cX2_isLooping 9 = .ok (.iload_n 1, 1) := dq_X2_isLooping_0.2.2.2.2.2.2.2.1
theorem dX2_isLooping_10 : decode cX2_isLooping 10 = .ok (.aaload, 1) := dq_X2_isLooping_0.2.2.2.2.2.2.2.2.1
theorem dX2_isLooping_11 : decode cX2_isLooping 11 = .ok (.getfield 102, 3) := dq_X2_isLooping_0.2.2.2.2.2.2.2.2.2.1
theorem dX2_isLooping_14 : decode cX2_isLooping 14 = .ok (.ifCond .le 5, 3) := dq_X2_isLooping_0.2.2.2.2.2.2.2.2.2.2.1
theorem dX2_isLooping_17 : decode cX2_isLooping 17 = .ok (.iconst 1, 1) := dq_X2_isLooping_0.2.2.2.2.2.2.2.2.2.2.2.1
theorem dX2_isLooping_18 : decode cX2_isLooping 18 = .ok (.ireturn, 1) := dq_X2_isLooping_0.2.2.2.2.2.2.2.2.2.2.2.2.1
theorem dX2_isLooping_19 : decode cX2_isLooping 19 = .ok (.iinc 1 1, 3) := dq_X2_isLooping_0.2.2.2.2.2.2.2.2.2.2.2.2.2.1
theorem dX2_isLooping_22 : decode cX2_isLooping 22 = .ok (.goto (-20), 3) := dq_X2_isLooping_0.2.2.2.2.2.2.2.2.2.2.2.2.2.2.1
theorem dX2_isLooping_25 : decode cX2_isLooping 25 = .ok (.iconst 0, 1) := dq_X2_isLooping_0.2.2.2.2.2.2.2.2.2.2.2.2.2.2.2
theorem dX2_isLooping_26 : decode cX2_isLooping 26 = .ok (.ireturn, 1) := by decide +kernel
theorem dq_X2_noteBegun_0 : (decode cX2_noteBegun 0 = .ok (.aload_n 0, 1)) ∧ (decode cX2_noteBegun 1 = .ok (.getfield 32, 3)) ∧ (decode cX2_noteBegun 4 = .ok (.sipush 128, 3)) ∧ (decode cX2_noteBegun 7 = .ok (.invokestatic 105, 3)) ∧ (decode cX2_noteBegun 10 = .ok (.ifCond .ne 4, 3)) ∧ (decode cX2_noteBegun 13 = .ok (.return_, 1)) ∧ (decode cX2_noteBegun 14 = .ok (.lconst 1, 1)) ∧ (decode cX2_noteBegun 15 = .ok (.aload_n 0, 1)) ∧ (decode cX2_noteBegun 16 = .ok (.getfield 35, 3)) ∧ (decode cX2_noteBegun 19 = .ok (.lshl, 1)) ∧ (decode cX2_noteBegun 20 = .ok (.lstore_n 2, 1)) ∧ (decode cX2_noteBegun 21 = .ok (.iload_n 1, 1)) ∧ (decode cX2_noteBegun 22 = .ok (.ifCond .ne 29, 3)) ∧ (decode cX2_noteBegun 25 = .ok (.aload_n 0, 1)) ∧ (decode cX2_noteBegun 26 = .ok (.getfield 9, 3)) ∧ (decode cX2_noteBegun 29 = .ok (.aload_n 0, 1)) := by decide +kernel
theorem dX2_noteBegun_0 : decode cX2_noteBegun 0 = .ok (.aload_n 0, 1) := dq_X2_noteBegun_0.1
theorem dX2_noteBegun_1 : decode cX2_noteBegun 1 = .ok (.getfield 32, 3) := dq_X2_noteBegun_0.2.1
theorem dX2_noteBegun_4 : decode cX2_noteBegun 4 = .ok (.sipush 128, 3) := dq_X2_noteBegun_0.2.2.1
theorem dX2_noteBegun_7 : decode cX2_noteBegun 7 = .ok (.invokestatic 105, 3) := dq_X2_noteBegun_0.2.2.2.1
theorem dX2_noteBegun_10 : decode cX2_noteBegun 10 = .ok (.ifCond .ne 4, 3) := dq_X2_noteBegun_0.2.2.2.2.1
theorem dX2_noteBegun_13 : decode cX2_noteBegun 13 = .ok (.return_, 1) := dq_X2_noteBegun_0.2.2.2.2.2.1
theorem dX2_noteBegun_14 : decode cX2_noteBegun 14 = .ok (.lconst 1, 1) := dq_X2_noteBegun_0.2.2.2.2.2.2.1
theorem dX2_noteBegun_15 : decode cX2_noteBegun 15 = .ok (.aload_n 0, 1) := dq_X2_noteBegun_0.2.2.2.2.2.2.2.1
theorem dX2_noteBegun_16 : decode cX2_noteBegun 16 = .ok (.getfield 35, 3) := dq_X2_noteBegun_0.2.2.2.2.2.2.2.2.1
theorem dX2_noteBegun_19 : decode cX2_noteBegun 19 = .ok (.lshl, 1) := dq_X2_noteBegun_0.2.2.2.2.2.2.2.2.2.1
theorem dX2_noteBegun_20 : decode cX2_noteBegun 20 = .ok (.lstore_n 2, 1) := dq_X2_noteBegun_0.2.2.2.2.2.2.2.2.2.2.1
theorem dX2_noteBegun_21 : decode cX2_noteBegun 21 = .ok (.iload_n 1, 1) := dq_X2_noteBegun_0.2.2.2.2.2.2.2.2.2.2.2.1
theorem dX2_noteBegun_22 : decode cX2_noteBegun 22 = .ok (.ifCond .ne 29, 3) := dq_X2_noteBegun_0.2.2.2.2.2.2.2.2.2.2.2.2.1
theorem dX2_noteBegun_25 : decode cX2_noteBegun 25 = .ok (.aload_n 0, 1) := dq_X2_noteBegun_0.2.2.2.2.2.2.2.2.2.2.2.2.2.1
theorem dX2_noteBegun_26 : decode cX2_noteBegun 26 = .ok (.getfield 9, 3) := dq_X2_noteBegun_0.2.2.2.2.2.2.2.2.2.2.2.2.2.2.1
theorem dX2_noteBegun_29 : decode cX2_noteBegun 29 = .ok (.aload_n 0, 1) := dq_X2_noteBegun_0.2.2.2.2.2.2.2.2.2.2.2.2.2.2.2
theorem dq_X2_noteBegun_30 : (decode cX2_noteBegun 30 = .ok (.getfield 32, 3)) ∧ (decode cX2_noteBegun 33 = .ok (.laload, 1)) ∧ (decode cX2_noteBegun 34 = .ok (.lload_n 2, 1)) ∧ (decode cX2_noteBegun 35 = .ok (.land, 1)) ∧ (decode cX2_noteBegun 36 = .ok (.lconst 0, 1)) ∧ (decode cX2_noteBegun 37 = .ok (.lcmp, 1)) ∧ (decode cX2_noteBegun 38 = .ok (.ifCond .eq 13, 3)) ∧ (decode cX2_noteBegun 41 = .ok (.aload_n 0, 1)) ∧ (decode cX2_noteBegun 42 = .ok (.dup, 1)) ∧ (decode cX2_noteBegun 43 = .ok (.getfield 44, 3)) ∧ (decode cX2_noteBegun 46 = .ok (.iconst 1, 1)) ∧ (decode cX2_noteBegun 47 = .ok (.iadd, 1)) ∧ (decode cX2_noteBegun 48 = .ok (.putfield 44, 3)) ∧ (decode cX2_noteBegun 51 = .ok (.aload_n 0, 1)) ∧ (decode cX2_noteBegun 52 = .ok (.getfield 9, 3)) ∧ (decode cX2_noteBegun 55 = .ok (.aload_n 0, 1)) := by decide +kernel
theorem dX2_noteBegun_30 : decode cX2_noteBegun 30 = .ok (.getfield 32, 3) := dq_X2_noteBegun_30.1
theorem dX2_noteBegun_33 : decode cX2_noteBegun 33 = .ok (.laload, 1) := dq_X2_noteBegun_30.2.1
theorem dX2_noteBegun_34 : decode cX2_noteBegun 34 = .ok (.lload_n 2, 1) := dq_X2_noteBegun_30.2.2.1
theorem dX2_noteBegun_35 : decode cX2_noteBegun 35 = .ok (.land, 1) := dq_X2_noteBegun_30.2.2.2.1
theorem dX2_noteBegun_36 : decode cX2_noteBegun 36 = .ok (.lconst 0, 1) := dq_X2_noteBegun_30.2.2.2.2.1
theorem dX2_noteBegun_37 : decode cX2_noteBegun 37 = .ok (.lcmp, 1) := dq_X2_noteBegun_30.2.2.2.2.2.1
theorem dX2_noteBegun_38 : decode cX2_noteBegun 38 = .ok (.ifCond .eq 13, 3) := dq_X2_noteBegun_30.2.2.2.2.2.2.1
theorem dX2_noteBegun_41 : decode cX2_noteBegun 41 = .ok (.aload_n 0, 1) := dq_X2_noteBegun_30.2.2.2.2.2.2.2.1
theorem dX2_noteBegun_42 : decode cX2_noteBegun 42 = .ok (.dup, 1) := dq_X2_noteBegun_30.2.2.2.2.2.2.2.2.1
theorem dX2_noteBegun_43 : decode cX2_noteBegun 43 = .ok (.getfield 44, 3) := dq_X2_noteBegun_30.2.2.2.2.2.2.2.2.2.1
theorem dX2_noteBegun_46 : decode cX2_noteBegun 46 = .ok (.iconst 1, 1) := dq_X2_noteBegun_30.2.2.2.2.2.2.2.2.2.2.1
theorem dX2_noteBegun_47 : decode cX2_noteBegun 47 = .ok (.iadd, 1) := dq_X2_noteBegun_30.2.2.2.2.2.2.2.2.2.2.2.1
theorem dX2_noteBegun_48 : decode cX2_noteBegun 48 = .ok (.putfield 44, 3) := dq_X2_noteBegun_30.2.2.2.2.2.2.2.2.2.2.2.2.1
theorem dX2_noteBegun_51 : decode cX2_noteBegun 51 = .ok (.aload_n 0, 1) := dq_X2_noteBegun_30.2.2.2.2.2.2.2.2.2.2.2.2.2.1
theorem dX2_noteBegun_52 : decode cX2_noteBegun 52 = .ok (.getfield 9, 3) := dq_X2_noteBegun_30.2.2.2.2.2.2.2.2.2.2.2.2.2.2.1
theorem dX2_noteBegun_55 : decode cX2_noteBegun 55 = .ok (.aload_n 0, 1) := dq_X2_noteBegun_30.2.2.2.2.2.2.2.2.2.2.2.2.2.2.2
theorem dq_X2_noteBegun_56 : (decode cX2_noteBegun 56 = .ok (.getfield 32, 3)) ∧ (decode cX2_noteBegun 59 = .ok (.dup2, 1)) ∧ (decode cX2_noteBegun 60 = .ok (.laload, 1)) ∧ (decode cX2_noteBegun 61 = .ok (.lload_n 2, 1)) ∧ (decode cX2_noteBegun 62 = .ok (.lor, 1)) ∧ (decode cX2_noteBegun 63 = .ok (.lastore, 1)) ∧ (decode cX2_noteBegun 64 = .ok (.return_, 1)) := by decide +kernel
theorem dX2_noteBegun_56 : decode cX2_noteBegun 56 = .ok (.getfield 32, 3) := dq_X2_noteBegun_56.1
theorem dX2_noteBegun_59 : decode cX2_noteBegun 59 = .ok (.dup2, 1) := dq_X2_noteBegun_56.2.1
theorem dX2_noteBegun_60 : decode cX2_noteBegun 60 = .ok (.laload, 1) := dq_X2_noteBegun_56.2.2.1
theorem dX2_noteBegun_61 : decode cX2_noteBegun 61 = .ok (.lload_n 2, 1) := dq_X2_noteBegun_56.2.2.2.1
theorem dX2_noteBegun_62 : decode cX2_noteBegun 62 = .ok (.lor, 1) := dq_X2_noteBegun_56.2.2.2.2.1
theorem dX2_noteBegun_63 : decode cX2_noteBegun 63 = .ok (.lastore, 1) := dq_X2_noteBegun_56.2.2.2.2.2.1
theorem dX2_noteBegun_64 : decode cX2_noteBegun 64 = .ok (.return_, 1) := dq_X2_noteBegun_56.2.2.2.2.2.2
theorem dq_X3_init_0 : (decode cX3_init 0 = .ok (.aload_n 0, 1)) ∧ (decode cX3_init 1 = .ok (.invokespecial 3, 3)) ∧ (decode cX3_init 4 = .ok (.aload_n 0, 1)) ∧ (decode cX3_init 5 = .ok (.iload_n 1, 1)) ∧ (decode cX3_init 6 = .ok (.putfield 9, 3)) ∧ (decode cX3_init 9 = .ok (.iconst 0, 1)) ∧ (decode cX3_init 10 = .ok (.iload_n 1, 1)) ∧ (decode cX3_init 11 = .ok (.iconst 5, 1)) ∧ (decode cX3_init 12 = .ok (.imul, 1)) ∧ (decode cX3_init 13 = .ok (.bipush 64, 2)) ∧ (decode cX3_init 15 = .ok (.idiv, 1)) ∧ (decode cX3_init 16 = .ok (.invokestatic 15, 3)) ∧ (decode cX3_init 19 = .ok (.istore_n 2, 1)) ∧ (decode cX3_init 20 = .ok (.aload_n 0, 1)) ∧ (decode cX3_init 21 = .ok (.iload_n 2, 1)) ∧ (decode cX3_init 22 = .ok (.newarray .int, 2)) := by decide +kernel
theorem dX3_init_0 : decode cX3_init 0 = .ok (.aload_n 0, 1) := dq_X3_init_0.1
theorem dX3_init_1 : decode cX3_init 1 = .ok (.invokespecial 3, 3) := dq_X3_init_0.2.1
theorem dX3_init_4 : decode cX3_init 4 = .ok (.aload_n 0, 1) := dq_X3_init_0.2.2.1
theorem dX3_init_5 : decode cX3_init 5 = .ok (.iload_n 1, 1) := dq_X3_init_0.2.2.2.1
theorem dX3_init_6 : decode cX3_init 6 = .ok (.putfield 9, 3) := dq_X3_init_0.2.2.2.2.1
theorem dX3_init_9 : decode cX3_init 9 = .ok (.iconst 0, 1) := dq_X3_init_0.2.2.2.2.2.1
theorem dX3_init_10 : decode cX3_init 10 = .ok (.iload_n 1, 1) := dq_X3_init_0.2.2.2.2.2.2.1
theorem dX3_init_11 : decode cX3_init 11 = .ok (.iconst 5, 1) := dq_X3_init_0.2.2.2.2.2.2.2.1
theorem dX3_init_12 : decode cX3_init 12 = .ok (.imul, 1) := dq_X3_init_0.2.2.2.2.2.2.2.2.1
theorem dX3_init_13 : decode cX3_init 13 = .ok (.bipush 64, 2) := dq_X3_init_0.2.2.2.2.2.2.2.2.2.1
theorem dX3_init_15 : decode cX3_init 15 = .ok (.idiv, 1) := dq_X3_init_0.2.2.2.2.2.2.2.2.2.2.1
theorem dX3_init_16 : decode cX3_init 16 = .ok (.invokestatic 15, 3) := dq_X3_init_0.2.2.2.2.2.2.2.2.2.2.2.1
theorem dX3_init_19 : decode cX3_init 19 = .ok (.istore_n 2, 1) := dq_X3_init_0.2.2.2.2.2.2.2.2.2.2.2.2.1
theorem dX3_init_20 : decode cX3_init 20 = .ok (.aload_n 0, 1) := dq_X3_init_0.2.2.2.2.2.2.2.2.2.2.2.2.2.1
theorem dX3_init_21 : decode cX3_init 21 = .ok (.iload_n 2, 1) := dq_X3_init_0.2.2.2.2.2.2.2.2.2.2.2.2.2.2.1
theorem dX3_init_22 : decode cX3_init 22 = .ok (.newarray .int, 2) := dq_X3_init_0.2.2.2.2.2.2.2.2.2.2.2.2.2.2.2
theorem dq_X3_init_24 : (decode cX3_init 24 = .ok (.putfield 21, 3)) ∧ (decode cX3_init 27 = .ok (.aload_n 0, 1)) ∧ (decode cX3_init 28 = .ok (.iload_n 2, 1)) ∧ (decode cX3_init 29 = .ok (.newarray .int, 2)) ∧ (decode cX3_init 31 = .ok (.putfield 25, 3)) ∧ (decode cX3_init 34 = .ok (.return_, 1)) := by decide +kernel
theorem dX3_init_24 : decode cX3_init 24 = .ok (.putfield 21, 3) := dq_X3_init_24.1
theorem dX3_init_27 : decode cX3_init 27 = .ok (.aload_n 0, 1) := dq_X3_init_24.2.1
theorem dX3_init_28 : decode cX3_init 28 = .ok (.iload_n 2, 1) := dq_X3_init_24.2.2.1
theorem dX3_init_29 : decode cX3_init 29 = .ok (.newarray .int, 2) := dq_X3_init_24.2.2.2.1
theorem dX3_init_31 : decode cX3_init 31 = .ok (.putfield 25, 3) := dq_X3_init_24.2.2.2.2.1
theorem dX3_init_34 : decode cX3_init 34 = .ok (.return_, 1) := dq_X3_init_24.2.2.2.2.2
theorem dq_X3_rewind_0 : (decode cX3_rewind 0 = .ok (.aload_n 0, 1)) ∧ (decode cX3_rewind 1 = .ok (.iconst 0, 1)) ∧ (decode cX3_rewind 2 = .ok (.putfield 28, 3)) ∧ (decode cX3_rewind 5 = .ok (.aload_n 0, 1)) ∧ (decode cX3_rewind 6 = .ok (.bipush 17, 2)) ∧ (decode cX3_rewind 8 = .ok (.putfield 31, 3)) ∧ (decode cX3_rewind 11 = .ok (.return_, 1)) := by decide +kernel
theorem dX3_rewind_0 : decode cX3_rewind 0 = .ok (.aload_n 0, 1) := dq_X3_rewind_0.1
theorem dX3_rewind_1 : decode cX3_rewind 1 = .ok (.iconst 0, 1) := dq_X3_rewind_0.2.1
theorem dX3_rewind_2 : decode cX3_rewind 2 = .ok (.putfield 28, 3) := dq_X3_rewind_0.2.2.1
theorem dX3_rewind_5 : decode cX3_rewind 5 = .ok (.aload_n 0, 1) := dq_X3_rewind_0.2.2.2.1
theorem dX3_rewind_6 : decode cX3_rewind 6 = .ok (.bipush 17, 2) := dq_X3_rewind_0.2.2.2.2.1
theorem dX3_rewind_8 : decode cX3_rewind 8 = .ok (.putfield 31, 3) := dq_X3_rewind_0.2.2.2.2.2.1
theorem dX3_rewind_11 : decode cX3_rewind 11 = .ok (.return_, 1) := dq_X3_rewind_0.2.2.2.2.2.2
theorem dq_X3_mix_0 : (decode cX3_mix 0 = .ok (.aload_n 0, 1)) ∧ (decode cX3_mix 1 = .ok (.iload_n 2, 1)) ∧ (decode cX3_mix 2 = .ok (.ifCond .le 24, 3)) ∧ (decode cX3_mix 5 = .ok (.aload_n 0, 1)) ∧ (decode cX3_mix 6 = .ok (.getfield 9, 3)) ∧ (decode cX3_mix 9 = .ok (.iconst 5, 1)) ∧ (decode cX3_mix 10 = .ok (.imul, 1)) ∧ (decode cX3_mix 11 = .ok (.iconst 2, 1)) ∧ (decode cX3_mix 12 = .ok (.iload_n 2, 1)) ∧ (decode cX3_mix 13 = .ok (.imul, 1)) ∧ (decode cX3_mix 14 = .ok (.idiv, 1)) ∧ (decode cX3_mix 15 = .ok (.aload_n 0, 1)) ∧ (decode cX3_mix 16 = .ok (.getfield 21, 3)) ∧ (decode cX3_mix 19 = .ok (.arraylength, 1)) ∧ (decode cX3_mix 20 = .ok (.invokestatic 34, 3)) ∧ (decode cX3_mix 23 = .ok (.goto 4, 3)) := by decide +kernel
theorem dX3_mix_0 : decode cX3_mix 0 = .ok (.aload_n 0, 1) := dq_X3_mix_0.1
theorem dX3_mix_1 : decode cX3_mix 1 = .ok (.iload_n 2, 1) := dq_X3_mix_0.2.1
theorem dX3_mix_2 : decode cX3_mix 2 = .ok (.ifCond .le 24, 3) := dq_X3_mix_0.2.2.1
theorem dX3_mix_5 : decode cX3_mix 5 = .ok (.aload_n 0, 1) := dq_X3_mix_0.2.2.2.1
theorem dX3_mix_6 : decode cX3_mix 6 = .ok (.getfield 9, 3) := dq_X3_mix_0.2.2.2.2.1
theorem dX3_mix_9 : decode cX3_mix 9 = .ok (.iconst 5, 1) := dq_X3_mix_0.2.2.2.2.2.1
theorem dX3_mix_10 : decode cX3_mix 10 = .ok (.imul, 1) := dq_X3_mix_0.2.2.2.2.2.2.1
theorem dX3_mix_11 : decode cX3_mix 11 = .ok (.iconst 2, 1) := dq_X3_mix_0.2.2.2.2.2.2.2.1
theorem dX3_mix_12 : decode cX3_mix 12 = .ok (.iload_n 2, 1) := dq_X3_mix_0.2.2.2.2.2.2.2.2.1
theorem dX3_mix_13 : decode cX3_mix 13 = .ok (.imul, 1) := dq_X3_mix_0.2.2.2.2.2.2.2.2.2.1
theorem dX3_mix_14 : decode cX3_mix 14 = .ok (.idiv, 1) := dq_X3_mix_0.2.2.2.2.2.2.2.2.2.2.1
theorem dX3_mix_15 : decode cX3_mix 15 = .ok (.aload_n 0, 1) := dq_X3_mix_0.2.2.2.2.2.2.2.2.2.2.2.1
theorem dX3_mix_16 : decode cX3_mix 16 = .ok (.getfield 21, 3) := dq_X3_mix_0.2.2.2.2.2.2.2.2.2.2.2.2.1
theorem dX3_mix_19 : decode cX3_mix 19 = .ok (.arraylength, 1) := dq_X3_mix_0.2.2.2.2.2.2.2.2.2.2.2.2.2.1
theorem dX3_mix_20 : decode cX3_mix 20 = .ok (.invokestatic 34, 3) := dq_X3_mix_0.2.2.2.2.2.2.2.2.2.2.2.2.2.2.1
theorem dX3_mix_23 : decode cX3_mix 23 = .ok (.goto 4, 3) := dq_X3_mix_0.2.2.2.2.2.2.2.2.2.2.2.2.2.2.2
theorem dq_X3_mix_26 : (decode cX3_mix 26 = .ok (.iconst 0, 1)) ∧ (decode cX3_mix 27 = .ok (.putfield 28, 3)) ∧ (decode cX3_mix 30 = .ok (.aload_n 0, 1)) ∧ (decode cX3_mix 31 = .ok (.getfield 21, 3)) ∧ (decode cX3_mix 34 = .ok (.iconst 0, 1)) ∧ (decode cX3_mix 35 = .ok (.aload_n 0, 1)) ∧ (decode cX3_mix 36 = .ok (.getfield 28, 3)) ∧ (decode cX3_mix 39 = .ok (.iconst 0, 1)) ∧ (decode cX3_mix 40 = .ok (.invokestatic 37, 3)) ∧ (decode cX3_mix 43 = .ok (.aload_n 0, 1)) ∧ (decode cX3_mix 44 = .ok (.getfield 25, 3)) ∧ (decode cX3_mix 47 = .ok (.iconst 0, 1)) ∧ (decode cX3_mix 48 = .ok (.aload_n 0, 1)) ∧ (decode cX3_mix 49 = .ok (.getfield 28, 3)) ∧ (decode cX3_mix 52 = .ok (.iconst 0, 1)) ∧ (decode cX3_mix 53 = .ok (.invokestatic 37, 3)) := by decide +kernel
theorem dX3_mix_26 : decode cX3_mix 26 = .ok (.iconst 0, 1) := dq_X3_mix_26.1
theorem dX3_mix_27 : decode cX3_mix 27 = .ok (.putfield 28, 3) := dq_X3_mix_26.2.1
theorem dX3_mix_30 : decode cX3_mix 30 = .ok (.aload_n 0, 1) := dq_X3_mix_26.2.2.1
theorem dX3_mix_31 : decode cX3_mix 31 = .ok (.getfield 21, 3) := dq_X3_mix_26.2.2.2.1
theorem dX3_mix_34 : decode cX3_mix 34 = .ok (.iconst 0, 1) := dq_X3_mix_26.2.2.2.2.1
theorem dX3_mix_35 : decode cX3_mix 35 = .ok (.aload_n 0, 1) := dq_X3_mix_26.2.2.2.2.2.1
theorem dX3_mix_36 : decode cX3_mix 36 = .ok (.getfield 28, 3) := dq_X3_mix_26.2.2.2.2.2.2.1
theorem dX3_mix_39 : decode cX3_mix 39 = .ok (.iconst 0, 1) := dq_X3_mix_26.2.2.2.2.2.2.2.1
theorem dX3_mix_40 : decode cX3_mix 40 = .ok (.invokestatic 37, 3) := dq_X3_mix_26.2.2.2.2.2.2.2.2.1
theorem dX3_mix_43 : decode cX3_mix 43 = .ok (.aload_n 0, 1) := dq_X3_mix_26.2.2.2.2.2.2.2.2.2.1
theorem dX3_mix_44 : decode cX3_mix 44 = .ok (.getfield 25, 3) := dq_X3_mix_26.2.2.2.2.2.2.2.2.2.2.1
theorem dX3_mix_47 : decode cX3_mix 47 = .ok (.iconst 0, 1) := dq_X3_mix_26.2.2.2.2.2.2.2.2.2.2.2.1
theorem dX3_mix_48 : decode cX3_mix 48 = .ok (.aload_n 0, 1) := dq_X3_mix_26.2.2.2.2.2.2.2.2.2.2.2.2.1
theorem dX3_mix_49 : decode cX3_mix 49 = .ok (.getfield 28, 3) := dq_X3_mix_26.2.2.2.2.2.2.2.2.2.2.2.2.2.1
theorem dX3_mix_52 : decode cX3_mix 52 = .ok (.iconst 0, 1) := dq_X3_mix_26.2.2.2.2.2.2.2.2.2.2.2.2.2.2.1
theorem dX3_mix_53 : decode cX3_mix 53 = .ok (.invokestatic 37, 3) := dq_X3_mix_26.2.2.2.2.2.2.2.2.2.2.2.2.2.2.2
theorem dq_X3_mix_56 : (decode cX3_mix 56 = .ok (.iconst 0, 1)) ∧ (decode cX3_mix 57 = .ok (.istore_n 3, 1)) ∧ (decode cX3_mix 58 = .ok (.iload_n 3, 1)) ∧ (decode cX3_mix 59 = .ok (.aload_n 1, 1)) ∧ (decode cX3_mix 60 = .ok (.arraylength, 1)) ∧ (decode cX3_mix 61 = .ok (.if_icmp .ge 36, 3)) ∧ (decode cX3_mix 64 = .ok (.aload_n 0, 1)) ∧ (decode cX3_mix 65 = .ok (.aload_n 1, 1)) ∧ (decode cX3_mix 66 = .ok (.iload_n 3, 1)) ∧ (decode cX3_mix 67 = .ok (.aaload, 1)) ∧ (decode cX3_mix 68 = .ok (.iload_n 3, 1)) ∧ (decode cX3_mix 69 = .ok (.ifCond .eq 8, 3)) ∧ (decode cX3_mix 72 = .ok (.iload_n 3, 1)) ∧ (decode cX3_mix 73 = .ok (.iconst 3, 1)) ∧ (decode cX3_mix 74 = .ok (.if_icmp .ne 10, 3)) ∧ (decode cX3_mix 77 = .ok (.aload_n 0, 1)) := by decide +kernel
theorem dX3_mix_56 : decode cX3_mix 56 = .ok (.iconst 0, 1) := dq_X3_mix_56.1
theorem dX3_mix_57 : decode cX3_mix 57 = .ok (.istore_n 3, 1) := dq_X3_mix_56.2.1
theorem dX3_mix_58 : decode cX3_mix 58 = .ok (.iload_n 3, 1) := dq_X3_mix_56.2.2.1
theorem dX3_mix_59 : decode cX3_mix 59 = .ok (.aload_n 1, 1) := dq_X3_mix_56.2.2.2.1
theorem dX3_mix_60 : decode cX3_mix 60 = .ok (.arraylength, 1) := dq_X3_mix_56.2.2.2.2.1
theorem dX3_mix_61 : decode cX3_mix 61 = .ok (.if_icmp .ge 36, 3) := dq_X3_mix_56.2.2.2.2.2.1
theorem dX3_mix_64 : decode cX3_mix 64 = .ok (.aload_n 0, 1) := dq_X3_mix_56.2.2.2.2.2.2.1
theorem dX3_mix_65 : decode cX3_mix 65 = .ok (.aload_n 1, 1) := dq_X3_mix_56.2.2.2.2.2.2.2.1
theorem dX3_mix_66 : decode cX3_mix 66 = .ok (.iload_n 3, 1) := dq_X3_mix_56.2.2.2.2.2.2.2.2.1
theorem dX3_mix_67 : decode cX3_mix 67 = .ok (.aaload, 1) := dq_X3_mix_56.2.2.2.2.2.2.2.2.2.1
theorem dX3_mix_68 : decode cX3_mix 68 = .ok (.iload_n 3, 1) := dq_X3_mix_56.2.2.2.2.2.2.2.2.2.2.1
theorem dX3_mix_69 : decode cX3_mix 69 = .ok (.ifCond .eq 8, 3) := dq_X3_mix_56.2.2.2.2.2.2.2.2.2.2.2.1
theorem dX3_mix_72 : decode cX3_mix 72 = .ok (.iload_n 3, 1) := dq_X3_mix_56.2.2.2.2.2.2.2.2.2.2.2.2.1
theorem dX3_mix_73 : decode cX3_mix 73 = .ok (.iconst 3, 1) := dq_X3_mix_56.2.2.2.2.2.2.2.2.2.2.2.2.2.1
theorem dX3_mix_74 : decode cX3_mix 74 = .ok (.if_icmp .ne 10, 3) := dq_X3_mix_56.2.2.2.2.2.2.2.2.2.2.2.2.2.2.1
theorem dX3_mix_77 : decode cX3_mix 77 = .ok (.aload_n 0, 1) := dq_X3_mix_56.2.2.2.2.2.2.2.2.2.2.2.2.2.2.2
theorem dq_X3_mix_78 : (decode cX3_mix 78 = .ok (.getfield 21, 3)) ∧ (decode cX3_mix 81 = .ok (.goto 7, 3)) ∧ (decode cX3_mix 84 = .ok (.aload_n 0, 1)) ∧ (decode cX3_mix 85 = .ok (.getfield 25, 3)) ∧ (decode cX3_mix 88 = .ok (.invokevirtual 43, 3)) ∧ (decode cX3_mix 91 = .ok (.iinc 3 1, 3)) ∧ (decode cX3_mix 94 = .ok (.goto (-36), 3)) ∧ (decode cX3_mix 97 = .ok (.iconst 0, 1)) ∧ (decode cX3_mix 98 = .ok (.istore_n 3, 1)) ∧ (decode cX3_mix 99 = .ok (.iload_n 3, 1)) ∧ (decode cX3_mix 100 = .ok (.aload_n 0, 1)) ∧ (decode cX3_mix 101 = .ok (.getfield 28, 3)) ∧ (decode cX3_mix 104 = .ok (.if_icmp .ge 45, 3)) ∧ (decode cX3_mix 107 = .ok (.aload_n 0, 1)) ∧ (decode cX3_mix 108 = .ok (.bipush 31, 2)) ∧ (decode cX3_mix 110 = .ok (.aload_n 0, 1)) := by decide +kernel
theorem dX3_mix_78 : decode cX3_mix 78 = .ok (.getfield 21, 3) := dq_X3_mix_78.1
theorem dX3_mix_81 : decode cX3_mix 81 = .ok (.goto 7, 3) := dq_X3_mix_78.2.1
theorem dX3_mix_84 : decode cX3_mix 84 = .ok (.aload_n 0, 1) := dq_X3_mix_78.2.2.1
theorem dX3_mix_85 : decode cX3_mix 85 = .ok (.getfield 25, 3) := dq_X3_mix_78.2.2.2.1
theorem dX3_mix_88 : decode cX3_mix 88 = .ok (.invokevirtual 43, 3) := dq_X3_mix_78.2.2.2.2.1
theorem dX3_mix_91 : decode cX3_mix 91 = .ok (.iinc 3 1, 3) := dq_X3_mix_78.2.2.2.2.2.1
theorem dX3_mix_94 : decode cX3_mix 94 = .ok (.goto (-36), 3) := dq_X3_mix_78.2.2.2.2.2.2.1
theorem dX3_mix_97 : decode cX3_mix 97 = .ok (.iconst 0, 1) := dq_X3_mix_78.2.2.2.2.2.2.2.1
theorem dX3_mix_98 : decode cX3_mix 98 = .ok (.istore_n 3, 1) := dq_X3_mix_78.2.2.2.2.2.2.2.2.1
theorem dX3_mix_99 : decode cX3_mix 99 = .ok (.iload_n 3, 1) := dq_X3_mix_78.2.2.2.2.2.2.2.2.2.1
theorem dX3_mix_100 : decode cX3_mix 100 = .ok (.aload_n 0, 1) := dq_X3_mix_78.2.2.2.2.2.2.2.2.2.2.1
theorem dX3_mix_101 : decode cX3_mix 101 = .ok (.getfield 28, 3) := dq_X3_mix_78.2.2.2.2.2.2.2.2.2.2.2.1
theorem dX3_mix_104 : decode cX3_mix 104 = .ok (.if_icmp .ge 45, 3) := dq_X3_mix_78.2.2.2.2.2.2.2.2.2.2.2.2.1
theorem dX3_mix_107 : decode cX3_mix 107 = .ok (.aload_n 0, 1) := dq_X3_mix_78.2.2.2.2.2.2.2.2.2.2.2.2.2.1
theorem dX3_mix_108 : decode cX3_mix 108 = .ok (.bipush 31, 2) := dq_X3_mix_78.2.2.2.2.2.2.2.2.2.2.2.2.2.2.1
theorem dX3_mix_110 : decode cX3_mix 110 = .ok (.aload_n 0, 1) := dq_X3_mix_78.2.2.2.2.2.2.2.2.2.2.2.2.2.2.2
theorem dq_X3_mix_111 : (decode cX3_mix 111 = .ok (.getfield 31, 3)) ∧ (decode cX3_mix 114 = .ok (.imul, 1)) ∧ (decode cX3_mix 115 = .ok (.aload_n 0, 1)) ∧ (decode cX3_mix 116 = .ok (.getfield 21, 3)) ∧ (decode cX3_mix 119 = .ok (.iload_n 3, 1)) ∧ (decode cX3_mix 120 = .ok (.iaload, 1)) ∧ (decode cX3_mix 121 = .ok (.iadd, 1)) ∧ (decode cX3_mix 122 = .ok (.putfield 31, 3)) ∧ (decode cX3_mix 125 = .ok (.aload_n 0, 1)) ∧ (decode cX3_mix 126 = .ok (.bipush 31, 2)) ∧ (decode cX3_mix 128 = .ok (.aload_n 0, 1)) ∧ (decode cX3_mix 129 = .ok (.getfield 31, 3)) ∧ (decode cX3_mix 132 = .ok (.imul, 1)) ∧ (decode cX3_mix 133 = .ok (.aload_n 0, 1)) ∧ (decode cX3_mix 134 = .ok (.getfield 25, 3)) ∧ (decode cX3_mix 137 = .ok (.iload_n 3, 1)) := by decide +kernel
theorem dX3_mix_111 : decode cX3_mix 111 = .ok (.getfield 31, 3) := dq_X3_mix_111.1
theorem dX3_mix_114 : decode cX3_mix 114 = .ok (.imul, 1) := dq_X3_mix_111.2.1
theorem dX3_mix_115 : decode cX3_mix 115 = .ok (.aload_n 0, 1) := dq_X3_mix_111.2.2.1
theorem dX3_mix_116 : decode cX3_mix 116 = .ok (.getfield 21, 3) := dq_X3_mix_111.2.2.2.1
theorem dX3_mix_119 : decode cX3_mix 119 = .ok (.iload_n 3, 1) := dq_X3_mix_111.2.2.2.2.1
theorem dX3_mix_120 : decode cX3_mix 120 = .ok (.iaload, 1) := dq_X3_mix_111.2.2.2.2.2.1
theorem dX3_mix_121 : decode cX3_mix 121 = .ok (.iadd, 1) := dq_X3_mix_111.2.2.2.2.2.2.1
theorem dX3_mix_122 : decode cX3_mix 122 = .ok (.putfield 31, 3) := dq_X3_mix_111.2.2.2.2.2.2.2.1
theorem dX3_mix_125 : decode cX3_mix 125 = .ok (.aload_n 0, 1) := dq_X3_mix_111.2.2.2.2.2.2.2.2.1
theorem dX3_mix_126 : decode cX3_mix 126 = .ok (.bipush 31, 2) := dq_X3_mix_111.2.2.2.2.2.2.2.2.2.1
theorem dX3_mix_128 : decode cX3_mix 128 = .ok (.aload_n 0, 1) := dq_X3_mix_111.2.2.2.2.2.2.2.2.2.2.1
theorem dX3_mix_129 : decode cX3_mix 129 = .ok (.getfield 31, 3) := dq_X3_mix_111.2.2.2.2.2.2.2.2.2.2.2.1
theorem dX3_mix_132 : decode cX3_mix 132 = .ok (.imul, 1) := dq_X3_mix_111.2.2.2.2.2.2.2.2.2.2.2.2.1
theorem dX3_mix_133 : decode cX3_mix 133 = .ok (.aload_n 0, 1) := dq_X3_mix_111.2.2.2.2.2.2.2.2.2.2.2.2.2.1
theorem dX3_mix_134 : decode cX3_mix 134 = .ok (.getfield 25, 3) := dq_X3_mix_111.2.2.2.2.2.2.2.2.2.2.2.2.2.2.1
theorem dX3_mix_137 : decode cX3_mix 137 = .ok (.iload_n 3, 1) := dq_X3_mix_111.2.2.2.2.2.2.2.2.2.2.2.2.2.2.2
theorem dq_X3_mix_138 : (decode cX3_mix 138 = .ok (.iaload, 1)) ∧ (decode cX3_mix 139 = .ok (.iadd, 1)) ∧ (decode cX3_mix 140 = .ok (.putfield 31, 3)) ∧ (decode cX3_mix 143 = .ok (.iinc 3 1, 3)) ∧ (decode cX3_mix 146 = .ok (.goto (-47), 3)) ∧ (decode cX3_mix 149 = .ok (.return_, 1)) := by decide +kernel
theorem dX3_mix_138 : decode cX3_mix 138 = .ok (.iaload, 1) := dq_X3_mix_138.1
theorem dX3_mix_139 : decode cX3_mix 139 = .ok (.iadd, 1) := dq_X3_mix_138.2.1
theorem dX3_mix_140 : decode cX3_mix 140 = .ok (.putfield 31, 3) := dq_X3_mix_138.2.2.1
theorem dX3_mix_143 : decode cX3_mix 143 = .ok (.iinc 3 1, 3) := dq_X3_mix_138.2.2.2.1
theorem dX3_mix_146 : decode cX3_mix 146 = .ok (.goto (-47), 3) := dq_X3_mix_138.2.2.2.2.1
theorem dX3_mix_149 : decode cX3_mix 149 = .ok (.return_, 1) := dq_X3_mix_138.2.2.2.2.2
theorem dq_X3_addChannel_0 : (decode cX3_addChannel 0 = .ok (.aload_n 1, 1)) ∧ (decode cX3_addChannel 1 = .ok (.getfield 47, 3)) ∧ (decode cX3_addChannel 4 = .ok (.ifCond .le 10, 3)) ∧ (decode cX3_addChannel 7 = .ok (.aload_n 0, 1)) ∧ (decode cX3_addChannel 8 = .ok (.getfield 9, 3)) ∧ (decode cX3_addChannel 11 = .ok (.ifCond .gt 4, 3)) ∧ (decode cX3_addChannel 14 = .ok (.return_, 1)) ∧ (decode cX3_addChannel 15 = .ok (.ldc2_w 52, 3)) ∧ (decode cX3_addChannel 18 = .ok (.aload_n 1, 1)) ∧ (decode cX3_addChannel 19 = .ok (.getfield 47, 3)) ∧ (decode cX3_addChannel 22 = .ok (.i2l, 1)) ∧ (decode cX3_addChannel 23 = .ok (.aload_n 0, 1)) ∧ (decode cX3_addChannel 24 = .ok (.getfield 9, 3)) ∧ (decode cX3_addChannel 27 = .ok (.i2l, 1)) ∧ (decode cX3_addChannel 28 = .ok (.lmul, 1)) ∧ (decode cX3_addChannel 29 = .ok (.ldiv, 1)) := by decide +kernel
theorem dX3_addChannel_0 : decode cX3_addChannel 0 = .ok (.aload_n 1, 1) := dq_X3_addChannel_0.1
theorem dX3_addChannel_1 : decode cX3_addChannel 1 = .ok (.getfield 47, 3) := dq_X3_addChannel_0.2.1
theorem dX3_addChannel_4 : decode cX3_addChannel 4 = .ok (.ifCond .le 10, 3) := dq_X3_addChannel_0.2.2.1
theorem dX3_addChannel_7 : decode cX3_addChannel 7 = .ok (.aload_n 0, 1) := dq_X3_addChannel_0.2.2.2.1
theorem dX3_addChannel_8 : decode cX3_addChannel 8 = .ok (.getfield 9, 3) := dq_X3_addChannel_0.2.2.2.2.1
theorem dX3_addChannel_11 : decode cX3_addChannel 11 = .ok (.ifCond .gt 4, 3) := dq_X3_addChannel_0.2.2.2.2.2.1
theorem dX3_addChannel_14 : decode cX3_addChannel 14 = .ok (.return_, 1) := dq_X3_addChannel_0.2.2.2.2.2.2.1
theorem dX3_addChannel_15 : decode cX3_addChannel 15 = .ok (.ldc2_w 52, 3) := dq_X3_addChannel_0.2.2.2.2.2.2.2.1
theorem dX3_addChannel_18 : decode cX3_addChannel 18 = .ok (.aload_n 1, 1) := dq_X3_addChannel_0.2.2.2.2.2.2.2.2.1
theorem dX3_addChannel_19 : decode cX3_addChannel 19 = .ok (.getfield 47, 3) := dq_X3_addChannel_0.2.2.2.2.2.2.2.2.2.1
theorem dX3_addChannel_22 : decode cX3_addChannel 22 = .ok (.i2l, 1) := dq_X3_addChannel_0.2.2.2.2.2.2.2.2.2.2.1
theorem dX3_addChannel_23 : decode cX3_addChannel 23 = .ok (.aload_n 0, 1) := dq_X3_addChannel_0.2.2.2.2.2.2.2.2.2.2.2.1
theorem dX3_addChannel_24 : decode cX3_addChannel 24 = .ok (.getfield 9, 3) := dq_X3_addChannel_0.2.2.2.2.2.2.2.2.2.2.2.2.1
theorem dX3_addChannel_27 : decode cX3_addChannel 27 = .ok (.i2l, 1) := dq_X3_addChannel_0.2.2.2.2.2.2.2.2.2.2.2.2.2.1
theorem dX3_addChannel_28 : decode cX3_addChannel 28 = .ok (.lmul, 1) := dq_X3_addChannel_0.2.2.2.2.2.2.2.2.2.2.2.2.2.2.1
theorem dX3_addChannel_29 : decode cX3_addChannel 29 = .ok (.ldiv, 1) := dq_X3_addChannel_0.2.2.2.2.2.2.2.2.2.2.2.2.2.2.2
theorem dq_X3_addChannel_30 : (decode cX3_addChannel 30 = .ok (.lstore_n 3, 1)) ∧ (decode cX3_addChannel 31 = .ok (.aload_n 1, 1)) ∧ (decode cX3_addChannel 32 = .ok (.getfield 54, 3)) ∧ (decode cX3_addChannel 35 = .ok (.ifCond .eq 7, 3)) ∧ (decode cX3_addChannel 38 = .ok (.iconst 0, 1)) ∧ (decode cX3_addChannel 39 = .ok (.goto 7, 3)) ∧ (decode cX3_addChannel 42 = .ok (.aload_n 1, 1)) ∧ (decode cX3_addChannel 43 = .ok (.getfield 58, 3)) ∧ (decode cX3_addChannel 46 = .ok (.istore 5, 2)) ∧ (decode cX3_addChannel 48 = .ok (.iconst 0, 1)) ∧ (decode cX3_addChannel 49 = .ok (.istore 6, 2)) ∧ (decode cX3_addChannel 51 = .ok (.iload 6, 2)) ∧ (decode cX3_addChannel 53 = .ok (.aload_n 0, 1)) ∧ (decode cX3_addChannel 54 = .ok (.getfield 28, 3)) ∧ (decode cX3_addChannel 57 = .ok (.if_icmp .ge 38, 3)) ∧ (decode cX3_addChannel 60 = .ok (.iload 6, 2)) := by decide +kernel
theorem dX3_addChannel_30 : decode cX3_addChannel 30 = .ok (.lstore_n 3, 1) := dq_X3_addChannel_30.1
theorem dX3_addChannel_31 : decode cX3_addChannel 31 = .ok (.aload_n 1, 1) := dq_X3_addChannel_30.2.1
theorem dX3_addChannel_32 : decode cX3_addChannel 32 = .ok (.getfield 54, 3) := dq_X3_addChannel_30.2.2.1
theorem dX3_addChannel_35 : decode cX3_addChannel 35 = .ok (.ifCond .eq 7, 3) := dq_X3_addChannel_30.2.2.2.1
