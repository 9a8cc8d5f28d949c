theorem dX3_addChannel_38 : decode cX3_addChannel 38 = .ok (.iconst 0, 1) := dq_X3_addChannel_30.2.2.2.2.1
theorem dX3_addChannel_39 : decode cX3_addChannel 39 = .ok (.goto 7, 3) := dq_X3_addChannel_30.2.2.2.2.2.1
theorem dX3_addChannel_42 : decode cX3_addChannel 42 = .ok (.aload_n 1, 1) := dq_X3_addChannel_30.2.2.2.2.2.2.1
theorem dX3_addChannel_43 : decode cX3_addChannel 43 = .ok (.getfield 58, 3) := dq_X3_addChannel_30.2.2.2.2.2.2.2.1
theorem dX3_addChannel_46 : decode cX3_addChannel 46 = .ok (.istore 5, 2) := dq_X3_addChannel_30.2.2.2.2.2.2.2.2.1
theorem dX3_addChannel_48 : decode cX3_addChannel 48 = .ok (.iconst 0, 1) := dq_X3_addChannel_30.2.2.2.2.2.2.2.2.2.1
theorem dX3_addChannel_49 : decode cX3_addChannel 49 = .ok (.istore 6, 2) := dq_X3_addChannel_30.2.2.2.2.2.2.2.2.2.2.1
theorem dX3_addChannel_51 : decode cX3_addChannel 51 = .ok (.iload 6, 2) := dq_X3_addChannel_30.2.2.2.2.2.2.2.2.2.2.2.1
theorem dX3_addChannel_53 : decode cX3_addChannel 53 = .ok (.aload_n 0, 1) := dq_X3_addChannel_30.2.2.2.2.2.2.2.2.2.2.2.2.1
theorem dX3_addChannel_54 : decode cX3_addChannel 54 = .ok (.getfield 28, 3) := dq_X3_addChannel_30.2.2.2.2.2.2.2.2.2.2.2.2.2.1
theorem dX3_addChannel_57 : decode cX3_addChannel 57 = .ok (.if_icmp .ge 38, 3) := dq_X3_addChannel_30.2.2.2.2.2.2.2.2.2.2.2.2.2.2.1
theorem dX3_addChannel_60 : decode cX3_addChannel 60 = .ok (.iload 6, 2) := dq_X3_addChannel_30.2.2.2.2.2.2.2.2.2.2.2.2.2.2.2
theorem dq_X3_addChannel_62 : (decode cX3_addChannel 62 = .ok (.aload_n 2, 1)) ∧ (decode cX3_addChannel 63 = .ok (.arraylength, 1)) ∧ (decode cX3_addChannel 64 = .ok (.if_icmp .ge 31, 3)) ∧ (decode cX3_addChannel 67 = .ok (.aload_n 1, 1)) ∧ (decode cX3_addChannel 68 = .ok (.getfield 61, 3)) ∧ (decode cX3_addChannel 71 = .ok (.ifCond .eq 24, 3)) ∧ (decode cX3_addChannel 74 = .ok (.aload_n 2, 1)) ∧ (decode cX3_addChannel 75 = .ok (.iload 6, 2)) ∧ (decode cX3_addChannel 77 = .ok (.dup2, 1)) ∧ (decode cX3_addChannel 78 = .ok (.iaload, 1)) ∧ (decode cX3_addChannel 79 = .ok (.aload_n 1, 1)) ∧ (decode cX3_addChannel 80 = .ok (.lload_n 3, 1)) ∧ (decode cX3_addChannel 81 = .ok (.invokevirtual 64, 3)) ∧ (decode cX3_addChannel 84 = .ok (.iload 5, 2)) ∧ (decode cX3_addChannel 86 = .ok (.imul, 1)) ∧ (decode cX3_addChannel 87 = .ok (.iadd, 1)) := by decide +kernel
theorem dX3_addChannel_62 : decode cX3_addChannel 62 = .ok (.aload_n 2, 1) := dq_X3_addChannel_62.1
theorem dX3_addChannel_63 : decode cX3_addChannel 63 = .ok (.arraylength, 1) := dq_X3_addChannel_62.2.1
theorem dX3_addChannel_64 : decode cX3_addChannel 64 = .ok (.if_icmp .ge 31, 3) := dq_X3_addChannel_62.2.2.1
theorem dX3_addChannel_67 : decode cX3_addChannel 67 = .ok (.aload_n 1, 1) := dq_X3_addChannel_62.2.2.2.1
theorem dX3_addChannel_68 : decode cX3_addChannel 68 = .ok (.getfield 61, 3) := dq_X3_addChannel_62.2.2.2.2.1
theorem dX3_addChannel_71 : decode cX3_addChannel 71 = .ok (.ifCond .eq 24, 3) := dq_X3_addChannel_62.2.2.2.2.2.1
theorem dX3_addChannel_74 : decode cX3_addChannel 74 = .ok (.aload_n 2, 1) := dq_X3_addChannel_62.2.2.2.2.2.2.1
theorem dX3_addChannel_75 : decode cX3_addChannel 75 = .ok (.iload 6, 2) := dq_X3_addChannel_62.2.2.2.2.2.2.2.1
theorem dX3_addChannel_77 : decode cX3_addChannel 77 = .ok (.dup2, 1) := dq_X3_addChannel_62.2.2.2.2.2.2.2.2.1
theorem dX3_addChannel_78 : decode cX3_addChannel 78 = .ok (.iaload, 1) := dq_X3_addChannel_62.2.2.2.2.2.2.2.2.2.1
theorem dX3_addChannel_79 : decode cX3_addChannel 79 = .ok (.aload_n 1, 1) := dq_X3_addChannel_62.2.2.2.2.2.2.2.2.2.2.1
theorem dX3_addChannel_80 : decode cX3_addChannel 80 = .ok (.lload_n 3, 1) := dq_X3_addChannel_62.2.2.2.2.2.2.2.2.2.2.2.1
theorem dX3_addChannel_81 : decode cX3_addChannel 81 = .ok (.invokevirtual 64, 3) := dq_X3_addChannel_62.2.2.2.2.2.2.2.2.2.2.2.2.1
theorem dX3_addChannel_84 : decode cX3_addChannel 84 = .ok (.iload 5, 2) := dq_X3_addChannel_62.2.2.2.2.2.2.2.2.2.2.2.2.2.1
theorem dX3_addChannel_86 : decode cX3_addChannel 86 = .ok (.imul, 1) := dq_X3_addChannel_62.2.2.2.2.2.2.2.2.2.2.2.2.2.2.1
theorem dX3_addChannel_87 : decode cX3_addChannel 87 = .ok (.iadd, 1) := dq_X3_addChannel_62.2.2.2.2.2.2.2.2.2.2.2.2.2.2.2
theorem dq_X3_addChannel_88 : (decode cX3_addChannel 88 = .ok (.iastore, 1)) ∧ (decode cX3_addChannel 89 = .ok (.iinc 6 1, 3)) ∧ (decode cX3_addChannel 92 = .ok (.goto (-41), 3)) ∧ (decode cX3_addChannel 95 = .ok (.return_, 1)) := by decide +kernel
theorem dX3_addChannel_88 : decode cX3_addChannel 88 = .ok (.iastore, 1) := dq_X3_addChannel_88.1
theorem dX3_addChannel_89 : decode cX3_addChannel 89 = .ok (.iinc 6 1, 3) := dq_X3_addChannel_88.2.1
theorem dX3_addChannel_92 : decode cX3_addChannel 92 = .ok (.goto (-41), 3) := dq_X3_addChannel_88.2.2.1
theorem dX3_addChannel_95 : decode cX3_addChannel 95 = .ok (.return_, 1) := dq_X3_addChannel_88.2.2.2
theorem dq_X4_init_0 : (decode cX4_init 0 = .ok (.aload_n 0, 1)) ∧ (decode cX4_init 1 = .ok (.invokespecial 5, 3)) ∧ (decode cX4_init 4 = .ok (.aload_n 0, 1)) ∧ (decode cX4_init 5 = .ok (.iconst 0, 1)) ∧ (decode cX4_init 6 = .ok (.putfield 11, 3)) ∧ (decode cX4_init 9 = .ok (.aload_n 0, 1)) ∧ (decode cX4_init 10 = .ok (.iconst (-1), 1)) ∧ (decode cX4_init 11 = .ok (.putfield 15, 3)) ∧ (decode cX4_init 14 = .ok (.return_, 1)) := by decide +kernel
theorem dX4_init_0 : decode cX4_init 0 = .ok (.aload_n 0, 1) := dq_X4_init_0.1
theorem dX4_init_1 : decode cX4_init 1 = .ok (.invokespecial 5, 3) := dq_X4_init_0.2.1
theorem dX4_init_4 : decode cX4_init 4 = .ok (.aload_n 0, 1) := dq_X4_init_0.2.2.1
theorem dX4_init_5 : decode cX4_init 5 = .ok (.iconst 0, 1) := dq_X4_init_0.2.2.2.1
theorem dX4_init_6 : decode cX4_init 6 = .ok (.putfield 11, 3) := dq_X4_init_0.2.2.2.2.1
theorem dX4_init_9 : decode cX4_init 9 = .ok (.aload_n 0, 1) := dq_X4_init_0.2.2.2.2.2.1
theorem dX4_init_10 : decode cX4_init 10 = .ok (.iconst (-1), 1) := dq_X4_init_0.2.2.2.2.2.2.1
theorem dX4_init_11 : decode cX4_init 11 = .ok (.putfield 15, 3) := dq_X4_init_0.2.2.2.2.2.2.2.1
theorem dX4_init_14 : decode cX4_init 14 = .ok (.return_, 1) := dq_X4_init_0.2.2.2.2.2.2.2.2
theorem dq_X4_markByte_0 : (decode cX4_markByte 0 = .ok (.iload_n 0, 1)) ∧ (decode cX4_markByte 1 = .ok (.iconst 4, 1)) ∧ (decode cX4_markByte 2 = .ok (.invokestatic 18, 3)) ∧ (decode cX4_markByte 5 = .ok (.ifCond .eq 11, 3)) ∧ (decode cX4_markByte 8 = .ok (.getstatic 22, 3)) ∧ (decode cX4_markByte 11 = .ok (.iload_n 0, 1)) ∧ (decode cX4_markByte 12 = .ok (.iaload, 1)) ∧ (decode cX4_markByte 13 = .ok (.goto 4, 3)) ∧ (decode cX4_markByte 16 = .ok (.iconst (-1), 1)) ∧ (decode cX4_markByte 17 = .ok (.ireturn, 1)) := by decide +kernel
theorem dX4_markByte_0 : decode cX4_markByte 0 = .ok (.iload_n 0, 1) := dq_X4_markByte_0.1
theorem dX4_markByte_1 : decode cX4_markByte 1 = .ok (.iconst 4, 1) := dq_X4_markByte_0.2.1
theorem dX4_markByte_2 : decode cX4_markByte 2 = .ok (.invokestatic 18, 3) := dq_X4_markByte_0.2.2.1
theorem dX4_markByte_5 : decode cX4_markByte 5 = .ok (.ifCond .eq 11, 3) := dq_X4_markByte_0.2.2.2.1
theorem dX4_markByte_8 : decode cX4_markByte 8 = .ok (.getstatic 22, 3) := dq_X4_markByte_0.2.2.2.2.1
theorem dX4_markByte_11 : decode cX4_markByte 11 = .ok (.iload_n 0, 1) := dq_X4_markByte_0.2.2.2.2.2.1
theorem dX4_markByte_12 : decode cX4_markByte 12 = .ok (.iaload, 1) := dq_X4_markByte_0.2.2.2.2.2.2.1
theorem dX4_markByte_13 : decode cX4_markByte 13 = .ok (.goto 4, 3) := dq_X4_markByte_0.2.2.2.2.2.2.2.1
theorem dX4_markByte_16 : decode cX4_markByte 16 = .ok (.iconst (-1), 1) := dq_X4_markByte_0.2.2.2.2.2.2.2.2.1
theorem dX4_markByte_17 : decode cX4_markByte 17 = .ok (.ireturn, 1) := dq_X4_markByte_0.2.2.2.2.2.2.2.2.2
theorem dq_X4_sampleAt_0 : (decode cX4_sampleAt 0 = .ok (.bipush 20, 2)) ∧ (decode cX4_sampleAt 2 = .ok (.bipush 30, 2)) ∧ (decode cX4_sampleAt 4 = .ok (.iload_n 0, 1)) ∧ (decode cX4_sampleAt 5 = .ok (.iconst 1, 1)) ∧ (decode cX4_sampleAt 6 = .ok (.isub, 1)) ∧ (decode cX4_sampleAt 7 = .ok (.imul, 1)) ∧ (decode cX4_sampleAt 8 = .ok (.iadd, 1)) ∧ (decode cX4_sampleAt 9 = .ok (.ireturn, 1)) := by decide +kernel
theorem dX4_sampleAt_0 : decode cX4_sampleAt 0 = .ok (.bipush 20, 2) := dq_X4_sampleAt_0.1
theorem dX4_sampleAt_2 : decode cX4_sampleAt 2 = .ok (.bipush 30, 2) := dq_X4_sampleAt_0.2.1
theorem dX4_sampleAt_4 : decode cX4_sampleAt 4 = .ok (.iload_n 0, 1) := dq_X4_sampleAt_0.2.2.1
theorem dX4_sampleAt_5 : decode cX4_sampleAt 5 = .ok (.iconst 1, 1) := dq_X4_sampleAt_0.2.2.2.1
theorem dX4_sampleAt_6 : decode cX4_sampleAt 6 = .ok (.isub, 1) := dq_X4_sampleAt_0.2.2.2.2.1
theorem dX4_sampleAt_7 : decode cX4_sampleAt 7 = .ok (.imul, 1) := dq_X4_sampleAt_0.2.2.2.2.2.1
theorem dX4_sampleAt_8 : decode cX4_sampleAt 8 = .ok (.iadd, 1) := dq_X4_sampleAt_0.2.2.2.2.2.2.1
theorem dX4_sampleAt_9 : decode cX4_sampleAt 9 = .ok (.ireturn, 1) := dq_X4_sampleAt_0.2.2.2.2.2.2.2
theorem dq_X4_cellAt_0 : (decode cX4_cellAt 0 = .ok (.iload_n 0, 1)) ∧ (decode cX4_cellAt 1 = .ok (.invokestatic 26, 3)) ∧ (decode cX4_cellAt 4 = .ok (.iload_n 1, 1)) ∧ (decode cX4_cellAt 5 = .ok (.iconst 4, 1)) ∧ (decode cX4_cellAt 6 = .ok (.imul, 1)) ∧ (decode cX4_cellAt 7 = .ok (.iload_n 2, 1)) ∧ (decode cX4_cellAt 8 = .ok (.iadd, 1)) ∧ (decode cX4_cellAt 9 = .ok (.iconst 4, 1)) ∧ (decode cX4_cellAt 10 = .ok (.imul, 1)) ∧ (decode cX4_cellAt 11 = .ok (.iadd, 1)) ∧ (decode cX4_cellAt 12 = .ok (.ireturn, 1)) := by decide +kernel
theorem dX4_cellAt_0 : decode cX4_cellAt 0 = .ok (.iload_n 0, 1) := dq_X4_cellAt_0.1
theorem dX4_cellAt_1 : decode cX4_cellAt 1 = .ok (.invokestatic 26, 3) := dq_X4_cellAt_0.2.1
theorem dX4_cellAt_4 : decode cX4_cellAt 4 = .ok (.iload_n 1, 1) := dq_X4_cellAt_0.2.2.1
theorem dX4_cellAt_5 : decode cX4_cellAt 5 = .ok (.iconst 4, 1) := dq_X4_cellAt_0.2.2.2.1
theorem dX4_cellAt_6 : decode cX4_cellAt 6 = .ok (.imul, 1) := dq_X4_cellAt_0.2.2.2.2.1
theorem dX4_cellAt_7 : decode cX4_cellAt 7 = .ok (.iload_n 2, 1) := dq_X4_cellAt_0.2.2.2.2.2.1
theorem dX4_cellAt_8 : decode cX4_cellAt 8 = .ok (.iadd, 1) := dq_X4_cellAt_0.2.2.2.2.2.2.1
theorem dX4_cellAt_9 : decode cX4_cellAt 9 = .ok (.iconst 4, 1) := dq_X4_cellAt_0.2.2.2.2.2.2.2.1
theorem dX4_cellAt_10 : decode cX4_cellAt 10 = .ok (.imul, 1) := dq_X4_cellAt_0.2.2.2.2.2.2.2.2.1
theorem dX4_cellAt_11 : decode cX4_cellAt 11 = .ok (.iadd, 1) := dq_X4_cellAt_0.2.2.2.2.2.2.2.2.2.1
theorem dX4_cellAt_12 : decode cX4_cellAt 12 = .ok (.ireturn, 1) := dq_X4_cellAt_0.2.2.2.2.2.2.2.2.2.2
theorem dq_X4_patternsEnd_0 : (decode cX4_patternsEnd 0 = .ok (.sipush 1084, 3)) ∧ (decode cX4_patternsEnd 3 = .ok (.sipush 1024, 3)) ∧ (decode cX4_patternsEnd 6 = .ok (.iload_n 0, 1)) ∧ (decode cX4_patternsEnd 7 = .ok (.imul, 1)) ∧ (decode cX4_patternsEnd 8 = .ok (.iadd, 1)) ∧ (decode cX4_patternsEnd 9 = .ok (.ireturn, 1)) := by decide +kernel
theorem dX4_patternsEnd_0 : decode cX4_patternsEnd 0 = .ok (.sipush 1084, 3) := dq_X4_patternsEnd_0.1
theorem dX4_patternsEnd_3 : decode cX4_patternsEnd 3 = .ok (.sipush 1024, 3) := dq_X4_patternsEnd_0.2.1
theorem dX4_patternsEnd_6 : decode cX4_patternsEnd 6 = .ok (.iload_n 0, 1) := dq_X4_patternsEnd_0.2.2.1
theorem dX4_patternsEnd_7 : decode cX4_patternsEnd 7 = .ok (.imul, 1) := dq_X4_patternsEnd_0.2.2.2.1
theorem dX4_patternsEnd_8 : decode cX4_patternsEnd 8 = .ok (.iadd, 1) := dq_X4_patternsEnd_0.2.2.2.2.1
theorem dX4_patternsEnd_9 : decode cX4_patternsEnd 9 = .ok (.ireturn, 1) := dq_X4_patternsEnd_0.2.2.2.2.2
theorem dq_X4_accepts_0 : (decode cX4_accepts 0 = .ok (.aload_n 1, 1)) ∧ (decode cX4_accepts 1 = .ok (.getfield 30, 3)) ∧ (decode cX4_accepts 4 = .ok (.sipush 1084, 3)) ∧ (decode cX4_accepts 7 = .ok (.if_icmp .ge 13, 3)) ∧ (decode cX4_accepts 10 = .ok (.aload_n 0, 1)) ∧ (decode cX4_accepts 11 = .ok (.iconst 1, 1)) ∧ (decode cX4_accepts 12 = .ok (.aload_n 1, 1)) ∧ (decode cX4_accepts 13 = .ok (.getfield 30, 3)) ∧ (decode cX4_accepts 16 = .ok (.invokevirtual 35, 3)) ∧ (decode cX4_accepts 19 = .ok (.ireturn, 1)) ∧ (decode cX4_accepts 20 = .ok (.aload_n 1, 1)) ∧ (decode cX4_accepts 21 = .ok (.invokestatic 38, 3)) ∧ (decode cX4_accepts 24 = .ok (.istore_n 2, 1)) ∧ (decode cX4_accepts 25 = .ok (.iload_n 2, 1)) ∧ (decode cX4_accepts 26 = .ok (.iconst (-1), 1)) ∧ (decode cX4_accepts 27 = .ok (.if_icmp .eq 10, 3)) := by decide +kernel
theorem dX4_accepts_0 : decode cX4_accepts 0 = .ok (.aload_n 1, 1) := dq_X4_accepts_0.1
theorem dX4_accepts_1 : decode cX4_accepts 1 = .ok (.getfield 30, 3) := dq_X4_accepts_0.2.1
theorem dX4_accepts_4 : decode cX4_accepts 4 = .ok (.sipush 1084, 3) := dq_X4_accepts_0.2.2.1
theorem dX4_accepts_7 : decode cX4_accepts 7 = .ok (.if_icmp .ge 13, 3) := dq_X4_accepts_0.2.2.2.1
theorem dX4_accepts_10 : decode cX4_accepts 10 = .ok (.aload_n 0, 1) := dq_X4_accepts_0.2.2.2.2.1
theorem dX4_accepts_11 : decode cX4_accepts 11 = .ok (.iconst 1, 1) := dq_X4_accepts_0.2.2.2.2.2.1
theorem dX4_accepts_12 : decode cX4_accepts 12 = .ok (.aload_n 1, 1) := dq_X4_accepts_0.2.2.2.2.2.2.1
theorem dX4_accepts_13 : decode cX4_accepts 13 = .ok (.getfield 30, 3) := dq_X4_accepts_0.2.2.2.2.2.2.2.1
theorem dX4_accepts_16 : decode cX4_accepts 16 = .ok (.invokevirtual 35, 3) := dq_X4_accepts_0.2.2.2.2.2.2.2.2.1
theorem dX4_accepts_19 : decode cX4_accepts 19 = .ok (.ireturn, 1) := dq_X4_accepts_0.2.2.2.2.2.2.2.2.2.1
theorem dX4_accepts_20 : decode cX4_accepts 20 = .ok (.aload_n 1, 1) := dq_X4_accepts_0.2.2.2.2.2.2.2.2.2.2.1
theorem dX4_accepts_21 : decode cX4_accepts 21 = .ok (.invokestatic 38, 3) := dq_X4_accepts_0.2.2.2.2.2.2.2.2.2.2.2.1
theorem dX4_accepts_24 : decode cX4_accepts 24 = .ok (.istore_n 2, 1) := dq_X4_accepts_0.2.2.2.2.2.2.2.2.2.2.2.2.1
theorem dX4_accepts_25 : decode cX4_accepts 25 = .ok (.iload_n 2, 1) := dq_X4_accepts_0.2.2.2.2.2.2.2.2.2.2.2.2.2.1
theorem dX4_accepts_26 : decode cX4_accepts 26 = .ok (.iconst (-1), 1) := dq_X4_accepts_0.2.2.2.2.2.2.2.2.2.2.2.2.2.2.1
theorem dX4_accepts_27 : decode cX4_accepts 27 = .ok (.if_icmp .eq 10, 3) := dq_X4_accepts_0.2.2.2.2.2.2.2.2.2.2.2.2.2.2.2
theorem dq_X4_accepts_30 : (decode cX4_accepts 30 = .ok (.aload_n 0, 1)) ∧ (decode cX4_accepts 31 = .ok (.iconst 2, 1)) ∧ (decode cX4_accepts 32 = .ok (.iload_n 2, 1)) ∧ (decode cX4_accepts 33 = .ok (.invokevirtual 35, 3)) ∧ (decode cX4_accepts 36 = .ok (.ireturn, 1)) ∧ (decode cX4_accepts 37 = .ok (.aload_n 1, 1)) ∧ (decode cX4_accepts 38 = .ok (.invokestatic 42, 3)) ∧ (decode cX4_accepts 41 = .ok (.istore_n 2, 1)) ∧ (decode cX4_accepts 42 = .ok (.iload_n 2, 1)) ∧ (decode cX4_accepts 43 = .ok (.iconst (-1), 1)) ∧ (decode cX4_accepts 44 = .ok (.if_icmp .ne 8, 3)) ∧ (decode cX4_accepts 47 = .ok (.aload_n 1, 1)) ∧ (decode cX4_accepts 48 = .ok (.invokestatic 45, 3)) ∧ (decode cX4_accepts 51 = .ok (.istore_n 2, 1)) ∧ (decode cX4_accepts 52 = .ok (.iload_n 2, 1)) ∧ (decode cX4_accepts 53 = .ok (.iconst (-1), 1)) := by decide +kernel
theorem dX4_accepts_30 : decode cX4_accepts 30 = .ok (.aload_n 0, 1) := dq_X4_accepts_30.1
theorem dX4_accepts_31 : decode cX4_accepts 31 = .ok (.iconst 2, 1) := dq_X4_accepts_30.2.1
theorem dX4_accepts_32 : decode cX4_accepts 32 = .ok (.iload_n 2, 1) := dq_X4_accepts_30.2.2.1
theorem dX4_accepts_33 : decode cX4_accepts 33 = .ok (.invokevirtual 35, 3) := dq_X4_accepts_30.2.2.2.1
theorem dX4_accepts_36 : decode cX4_accepts 36 = .ok (.ireturn, 1) := dq_X4_accepts_30.2.2.2.2.1
theorem dX4_accepts_37 : decode cX4_accepts 37 = .ok (.aload_n 1, 1) := dq_X4_accepts_30.2.2.2.2.2.1
theorem dX4_accepts_38 : decode cX4_accepts 38 = .ok (.invokestatic 42, 3) := dq_X4_accepts_30.2.2.2.2.2.2.1
theorem dX4_accepts_41 : decode cX4_accepts 41 = .ok (.istore_n 2, 1) := dq_X4_accepts_30.2.2.2.2.2.2.2.1
theorem dX4_accepts_42 : decode cX4_accepts 42 = .ok (.iload_n 2, 1) := dq_X4_accepts_30.2.2.2.2.2.2.2.2.1
theorem dX4_accepts_43 : decode cX4_accepts 43 = .ok (.iconst (-1), 1) := dq_X4_accepts_30.2.2.2.2.2.2.2.2.2.1
theorem dX4_accepts_44 : decode cX4_accepts 44 = .ok (.if_icmp .ne 8, 3) := dq_X4_accepts_30.2.2.2.2.2.2.2.2.2.2.1
theorem dX4_accepts_47 : decode cX4_accepts 47 = .ok (.aload_n 1, 1) := dq_X4_accepts_30.2.2.2.2.2.2.2.2.2.2.2.1
theorem dX4_accepts_48 : decode cX4_accepts 48 = .ok (.invokestatic 45, 3) := dq_X4_accepts_30.2.2.2.2.2.2.2.2.2.2.2.2.1
theorem dX4_accepts_51 : decode cX4_accepts 51 = .ok (.istore_n 2, 1) := dq_X4_accepts_30.2.2.2.2.2.2.2.2.2.2.2.2.2.1
theorem dX4_accepts_52 : decode cX4_accepts 52 = .ok (.iload_n 2, 1) := dq_X4_accepts_30.2.2.2.2.2.2.2.2.2.2.2.2.2.2.1
theorem dX4_accepts_53 : decode cX4_accepts 53 = .ok (.iconst (-1), 1) := dq_X4_accepts_30.2.2.2.2.2.2.2.2.2.2.2.2.2.2.2
theorem dq_X4_accepts_54 : (decode cX4_accepts 54 = .ok (.if_icmp .eq 10, 3)) ∧ (decode cX4_accepts 57 = .ok (.aload_n 0, 1)) ∧ (decode cX4_accepts 58 = .ok (.iconst 3, 1)) ∧ (decode cX4_accepts 59 = .ok (.iload_n 2, 1)) ∧ (decode cX4_accepts 60 = .ok (.invokevirtual 35, 3)) ∧ (decode cX4_accepts 63 = .ok (.ireturn, 1)) ∧ (decode cX4_accepts 64 = .ok (.aload_n 1, 1)) ∧ (decode cX4_accepts 65 = .ok (.getfield 30, 3)) ∧ (decode cX4_accepts 68 = .ok (.aload_n 1, 1)) ∧ (decode cX4_accepts 69 = .ok (.invokestatic 48, 3)) ∧ (decode cX4_accepts 72 = .ok (.if_icmp .ge 13, 3)) ∧ (decode cX4_accepts 75 = .ok (.aload_n 0, 1)) ∧ (decode cX4_accepts 76 = .ok (.iconst 4, 1)) ∧ (decode cX4_accepts 77 = .ok (.aload_n 1, 1)) ∧ (decode cX4_accepts 78 = .ok (.getfield 30, 3)) ∧ (decode cX4_accepts 81 = .ok (.invokevirtual 35, 3)) := by decide +kernel
theorem dX4_accepts_54 : decode cX4_accepts 54 = .ok (.if_icmp .eq 10, 3) := dq_X4_accepts_54.1
theorem dX4_accepts_57 : decode cX4_accepts 57 = .ok (.aload_n 0, 1) := dq_X4_accepts_54.2.1
theorem dX4_accepts_58 : decode cX4_accepts 58 = .ok (.iconst 3, 1) := dq_X4_accepts_54.2.2.1
theorem dX4_accepts_59 : decode cX4_accepts 59 = .ok (.iload_n 2, 1) := dq_X4_accepts_54.2.2.2.1
theorem dX4_accepts_60 : decode cX4_accepts 60 = .ok (.invokevirtual 35, 3) := dq_X4_accepts_54.2.2.2.2.1
theorem dX4_accepts_63 : decode cX4_accepts 63 = .ok (.ireturn, 1) := dq_X4_accepts_54.2.2.2.2.2.1
theorem dX4_accepts_64 : decode cX4_accepts 64 = .ok (.aload_n 1, 1) := dq_X4_accepts_54.2.2.2.2.2.2.1
theorem dX4_accepts_65 : decode cX4_accepts 65 = .ok (.getfield 30, 3) := dq_X4_accepts_54.2.2.2.2.2.2.2.1
theorem dX4_accepts_68 : decode cX4_accepts 68 = .ok (.aload_n 1, 1) := dq_X4_accepts_54.2.2.2.2.2.2.2.2.1
theorem dX4_accepts_69 : decode cX4_accepts 69 = .ok (.invokestatic 48, 3) := dq_X4_accepts_54.2.2.2.2.2.2.2.2.2.1
theorem dX4_accepts_72 : decode cX4_accepts 72 = .ok (.if_icmp .ge 13, 3) := dq_X4_accepts_54.2.2.2.2.2.2.2.2.2.2.1
theorem dX4_accepts_75 : decode cX4_accepts 75 = .ok (.aload_n 0, 1) := dq_X4_accepts_54.2.2.2.2.2.2.2.2.2.2.2.1
theorem dX4_accepts_76 : decode cX4_accepts 76 = .ok (.iconst 4, 1) := dq_X4_accepts_54.2.2.2.2.2.2.2.2.2.2.2.2.1
theorem dX4_accepts_77 : decode cX4_accepts 77 = .ok (.aload_n 1, 1) := dq_X4_accepts_54.2.2.2.2.2.2.2.2.2.2.2.2.2.1
theorem dX4_accepts_78 : decode cX4_accepts 78 = .ok (.getfield 30, 3) := dq_X4_accepts_54.2.2.2.2.2.2.2.2.2.2.2.2.2.2.1
theorem dX4_accepts_81 : decode cX4_accepts 81 = .ok (.invokevirtual 35, 3) := dq_X4_accepts_54.2.2.2.2.2.2.2.2.2.2.2.2.2.2.2
theorem dq_X4_accepts_84 : (decode cX4_accepts 84 = .ok (.ireturn, 1)) ∧ (decode cX4_accepts 85 = .ok (.aload_n 0, 1)) ∧ (decode cX4_accepts 86 = .ok (.iconst 0, 1)) ∧ (decode cX4_accepts 87 = .ok (.putfield 11, 3)) ∧ (decode cX4_accepts 90 = .ok (.aload_n 0, 1)) ∧ (decode cX4_accepts 91 = .ok (.iconst (-1), 1)) ∧ (decode cX4_accepts 92 = .ok (.putfield 15, 3)) ∧ (decode cX4_accepts 95 = .ok (.iconst 1, 1)) ∧ (decode cX4_accepts 96 = .ok (.ireturn, 1)) := by decide +kernel
theorem dX4_accepts_84 : decode cX4_accepts 84 = .ok (.ireturn, 1) := dq_X4_accepts_84.1
theorem dX4_accepts_85 : decode cX4_accepts 85 = .ok (.aload_n 0, 1) := dq_X4_accepts_84.2.1
theorem dX4_accepts_86 : decode cX4_accepts 86 = .ok (.iconst 0, 1) := dq_X4_accepts_84.2.2.1
theorem dX4_accepts_87 : decode cX4_accepts 87 = .ok (.putfield 11, 3) := dq_X4_accepts_84.2.2.2.1
theorem dX4_accepts_90 : decode cX4_accepts 90 = .ok (.aload_n 0, 1) := dq_X4_accepts_84.2.2.2.2.1
theorem dX4_accepts_91 : decode cX4_accepts 91 = .ok (.iconst (-1), 1) := dq_X4_accepts_84.2.2.2.2.2.1
theorem dX4_accepts_92 : decode cX4_accepts 92 = .ok (.putfield 15, 3) := dq_X4_accepts_84.2.2.2.2.2.2.1
theorem dX4_accepts_95 : decode cX4_accepts 95 = .ok (.iconst 1, 1) := dq_X4_accepts_84.2.2.2.2.2.2.2.1
theorem dX4_accepts_96 : decode cX4_accepts 96 = .ok (.ireturn, 1) := dq_X4_accepts_84.2.2.2.2.2.2.2.2
theorem dq_X4_refuse_0 : (decode cX4_refuse 0 = .ok (.aload_n 0, 1)) ∧ (decode cX4_refuse 1 = .ok (.iload_n 1, 1)) ∧ (decode cX4_refuse 2 = .ok (.putfield 11, 3)) ∧ (decode cX4_refuse 5 = .ok (.aload_n 0, 1)) ∧ (decode cX4_refuse 6 = .ok (.iload_n 2, 1)) ∧ (decode cX4_refuse 7 = .ok (.putfield 15, 3)) ∧ (decode cX4_refuse 10 = .ok (.iconst 0, 1)) ∧ (decode cX4_refuse 11 = .ok (.ireturn, 1)) := by decide +kernel
theorem dX4_refuse_0 : decode cX4_refuse 0 = .ok (.aload_n 0, 1) := dq_X4_refuse_0.1
theorem dX4_refuse_1 : decode cX4_refuse 1 = .ok (.iload_n 1, 1) := dq_X4_refuse_0.2.1
theorem dX4_refuse_2 : decode cX4_refuse 2 = .ok (.putfield 11, 3) := dq_X4_refuse_0.2.2.1
theorem dX4_refuse_5 : decode cX4_refuse 5 = .ok (.aload_n 0, 1) := dq_X4_refuse_0.2.2.2.1
theorem dX4_refuse_6 : decode cX4_refuse 6 = .ok (.iload_n 2, 1) := dq_X4_refuse_0.2.2.2.2.1
theorem dX4_refuse_7 : decode cX4_refuse 7 = .ok (.putfield 15, 3) := dq_X4_refuse_0.2.2.2.2.2.1
theorem dX4_refuse_10 : decode cX4_refuse 10 = .ok (.iconst 0, 1) := dq_X4_refuse_0.2.2.2.2.2.2.1
theorem dX4_refuse_11 : decode cX4_refuse 11 = .ok (.ireturn, 1) := dq_X4_refuse_0.2.2.2.2.2.2.2
theorem dq_X4_wrongMark_0 : (decode cX4_wrongMark 0 = .ok (.iconst 0, 1)) ∧ (decode cX4_wrongMark 1 = .ok (.istore_n 1, 1)) ∧ (decode cX4_wrongMark 2 = .ok (.iload_n 1, 1)) ∧ (decode cX4_wrongMark 3 = .ok (.iconst 4, 1)) ∧ (decode cX4_wrongMark 4 = .ok (.if_icmp .ge 31, 3)) ∧ (decode cX4_wrongMark 7 = .ok (.aload_n 0, 1)) ∧ (decode cX4_wrongMark 8 = .ok (.sipush 1080, 3)) ∧ (decode cX4_wrongMark 11 = .ok (.iload_n 1, 1)) ∧ (decode cX4_wrongMark 12 = .ok (.iadd, 1)) ∧ (decode cX4_wrongMark 13 = .ok (.invokevirtual 51, 3)) ∧ (decode cX4_wrongMark 16 = .ok (.iload_n 1, 1)) ∧ (decode cX4_wrongMark 17 = .ok (.invokestatic 54, 3)) ∧ (decode cX4_wrongMark 20 = .ok (.if_icmp .eq 9, 3)) ∧ (decode cX4_wrongMark 23 = .ok (.sipush 1080, 3)) ∧ (decode cX4_wrongMark 26 = .ok (.iload_n 1, 1)) ∧ (decode cX4_wrongMark 27 = .ok (.iadd, 1)) := by decide +kernel
theorem dX4_wrongMark_0 : decode cX4_wrongMark 0 = .ok (.iconst 0, 1) := dq_X4_wrongMark_0.1
theorem dX4_wrongMark_1 : decode cX4_wrongMark 1 = .ok (.istore_n 1, 1) := dq_X4_wrongMark_0.2.1
theorem dX4_wrongMark_2 : decode cX4_wrongMark 2 = .ok (.iload_n 1, 1) := dq_X4_wrongMark_0.2.2.1
theorem dX4_wrongMark_3 : decode cX4_wrongMark 3 = .ok (.iconst 4, 1) := dq_X4_wrongMark_0.2.2.2.1
theorem dX4_wrongMark_4 : decode cX4_wrongMark 4 = .ok (.if_icmp .ge 31, 3) := dq_X4_wrongMark_0.2.2.2.2.1
theorem dX4_wrongMark_7 : decode cX4_wrongMark 7 = .ok (.aload_n 0, 1) := dq_X4_wrongMark_0.2.2.2.2.2.1
theorem dX4_wrongMark_8 : decode cX4_wrongMark 8 = .ok (.sipush 1080, 3) := dq_X4_wrongMark_0.2.2.2.2.2.2.1
theorem dX4_wrongMark_11 : decode cX4_wrongMark 11 = .ok (.iload_n 1, 1) := dq_X4_wrongMark_0.2.2.2.2.2.2.2.1
theorem dX4_wrongMark_12 : decode cX4_wrongMark 12 = .ok (.iadd, 1) := dq_X4_wrongMark_0.2.2.2.2.2.2.2.2.1
theorem dX4_wrongMark_13 : decode cX4_wrongMark 13 = .ok (.invokevirtual 51, 3) := dq_X4_wrongMark_0.2.2.2.2.2.2.2.2.2.1
theorem dX4_wrongMark_16 : decode cX4_wrongMark 16 = .ok (.iload_n 1, 1) := dq_X4_wrongMark_0.2.2.2.2.2.2.2.2.2.2.1
theorem dX4_wrongMark_17 : decode cX4_wrongMark 17 = .ok (.invokestatic 54, 3) := dq_X4_wrongMark_0.2.2.2.2.2.2.2.2.2.2.2.1
theorem dX4_wrongMark_20 : decode cX4_wrongMark 20 = .ok (.if_icmp .eq 9, 3) := dq_X4_wrongMark_0.2.2.2.2.2.2.2.2.2.2.2.2.1
theorem dX4_wrongMark_23 : decode cX4_wrongMark 23 = .ok (.sipush 1080, 3) := dq_X4_wrongMark_0.2.2.2.2.2.2.2.2.2.2.2.2.2.1
theorem dX4_wrongMark_26 : decode cX4_wrongMark 26 = .ok (.iload_n 1, 1) := dq_X4_wrongMark_0.2.2.2.2.2.2.2.2.2.2.2.2.2.2.1
theorem dX4_wrongMark_27 : decode cX4_wrongMark 27 = .ok (.iadd, 1) := dq_X4_wrongMark_0.2.2.2.2.2.2.2.2.2.2.2.2.2.2.2
theorem dq_X4_wrongMark_28 : (decode cX4_wrongMark 28 = .ok (.ireturn, 1)) ∧ (decode cX4_wrongMark 29 = .ok (.iinc 1 1, 3)) ∧ (decode cX4_wrongMark 32 = .ok (.goto (-30), 3)) ∧ (decode cX4_wrongMark 35 = .ok (.iconst (-1), 1)) ∧ (decode cX4_wrongMark 36 = .ok (.ireturn, 1)) := by decide +kernel
theorem dX4_wrongMark_28 : decode cX4_wrongMark 28 = .ok (.ireturn, 1) := dq_X4_wrongMark_28.1
theorem dX4_wrongMark_29 : decode cX4_wrongMark 29 = .ok (.iinc 1 1, 3) := dq_X4_wrongMark_28.2.1
theorem dX4_wrongMark_32 : decode cX4_wrongMark 32 = .ok (.goto (-30), 3) := dq_X4_wrongMark_28.2.2.1
theorem dX4_wrongMark_35 : decode cX4_wrongMark 35 = .ok (.iconst (-1), 1) := dq_X4_wrongMark_28.2.2.2.1
theorem dX4_wrongMark_36 : decode cX4_wrongMark 36 = .ok (.ireturn, 1) := dq_X4_wrongMark_28.2.2.2.2
theorem dq_X4_wrongSample_0 : (decode cX4_wrongSample 0 = .ok (.iconst 0, 1)) ∧ (decode cX4_wrongSample 1 = .ok (.istore_n 1, 1)) ∧ (decode cX4_wrongSample 2 = .ok (.iconst 1, 1)) ∧ (decode cX4_wrongSample 3 = .ok (.istore_n 2, 1)) ∧ (decode cX4_wrongSample 4 = .ok (.iload_n 2, 1)) ∧ (decode cX4_wrongSample 5 = .ok (.bipush 31, 2)) ∧ (decode cX4_wrongSample 7 = .ok (.if_icmp .gt 122, 3)) ∧ (decode cX4_wrongSample 10 = .ok (.iload_n 2, 1)) ∧ (decode cX4_wrongSample 11 = .ok (.invokestatic 57, 3)) ∧ (decode cX4_wrongSample 14 = .ok (.istore_n 3, 1)) ∧ (decode cX4_wrongSample 15 = .ok (.iconst 2, 1)) ∧ (decode cX4_wrongSample 16 = .ok (.aload_n 0, 1)) ∧ (decode cX4_wrongSample 17 = .ok (.iload_n 3, 1)) ∧ (decode cX4_wrongSample 18 = .ok (.bipush 22, 2)) ∧ (decode cX4_wrongSample 20 = .ok (.iadd, 1)) ∧ (decode cX4_wrongSample 21 = .ok (.invokevirtual 60, 3)) := by decide +kernel
theorem dX4_wrongSample_0 : decode cX4_wrongSample 0 = .ok (.iconst 0, 1) := dq_X4_wrongSample_0.1
theorem dX4_wrongSample_1 : decode cX4_wrongSample 1 = .ok (.istore_n 1, 1) := dq_X4_wrongSample_0.2.1
theorem dX4_wrongSample_2 : decode cX4_wrongSample 2 = .ok (.iconst 1, 1) := dq_X4_wrongSample_0.2.2.1
theorem dX4_wrongSample_3 : decode cX4_wrongSample 3 = .ok (.istore_n 2, 1) := dq_X4_wrongSample_0.2.2.2.1
theorem dX4_wrongSample_4 : decode cX4_wrongSample 4 = .ok (.iload_n 2, 1) := dq_X4_wrongSample_0.2.2.2.2.1
theorem dX4_wrongSample_5 : decode cX4_wrongSample 5 = .ok (.bipush 31, 2) := dq_X4_wrongSample_0.2.2.2.2.2.1
theorem dX4_wrongSample_7 : decode cX4_wrongSample 7 = .ok (.if_icmp .gt 122, 3) := dq_X4_wrongSample_0.2.2.2.2.2.2.1
theorem dX4_wrongSample_10 : decode cX4_wrongSample 10 = .ok (.iload_n 2, 1) := dq_X4_wrongSample_0.2.2.2.2.2.2.2.1
theorem dX4_wrongSample_11 : decode cX4_wrongSample 11 = .ok (.invokestatic 57, 3) := dq_X4_wrongSample_0.2.2.2.2.2.2.2.2.1
theorem dX4_wrongSample_14 : decode cX4_wrongSample 14 = .ok (.istore_n 3, 1) := dq_X4_wrongSample_0.2.2.2.2.2.2.2.2.2.1
theorem dX4_wrongSample_15 : decode cX4_wrongSample 15 = .ok (.iconst 2, 1) := dq_X4_wrongSample_0.2.2.2.2.2.2.2.2.2.2.1
theorem dX4_wrongSample_16 : decode cX4_wrongSample 16 = .ok (.aload_n 0, 1) := dq_X4_wrongSample_0.2.2.2.2.2.2.2.2.2.2.2.1
theorem dX4_wrongSample_17 : decode cX4_wrongSample 17 = .ok (.iload_n 3, 1) := dq_X4_wrongSample_0.2.2.2.2.2.2.2.2.2.2.2.2.1
theorem dX4_wrongSample_18 : decode cX4_wrongSample 18 = .ok (.bipush 22, 2) := dq_X4_wrongSample_0.2.2.2.2.2.2.2.2.2.2.2.2.2.1
theorem dX4_wrongSample_20 : decode cX4_wrongSample 20 = .ok (.iadd, 1) := dq_X4_wrongSample_0.2.2.2.2.2.2.2.2.2.2.2.2.2.2.1
theorem dX4_wrongSample_21 : decode cX4_wrongSample 21 = .ok (.invokevirtual 60, 3) := dq_X4_wrongSample_0.2.2.2.2.2.2.2.2.2.2.2.2.2.2.2
theorem dq_X4_wrongSample_24 : (decode cX4_wrongSample 24 = .ok (.imul, 1)) ∧ (decode cX4_wrongSample 25 = .ok (.istore 4, 2)) ∧ (decode cX4_wrongSample 27 = .ok (.iload 4, 2)) ∧ (decode cX4_wrongSample 29 = .ok (.iload_n 1, 1)) ∧ (decode cX4_wrongSample 30 = .ok (.invokestatic 63, 3)) ∧ (decode cX4_wrongSample 33 = .ok (.ifCond .ne 8, 3)) ∧ (decode cX4_wrongSample 36 = .ok (.iload_n 3, 1)) ∧ (decode cX4_wrongSample 37 = .ok (.bipush 22, 2)) ∧ (decode cX4_wrongSample 39 = .ok (.iadd, 1)) ∧ (decode cX4_wrongSample 40 = .ok (.ireturn, 1)) ∧ (decode cX4_wrongSample 41 = .ok (.iload_n 1, 1)) ∧ (decode cX4_wrongSample 42 = .ok (.iload 4, 2)) ∧ (decode cX4_wrongSample 44 = .ok (.iadd, 1)) ∧ (decode cX4_wrongSample 45 = .ok (.istore_n 1, 1)) ∧ (decode cX4_wrongSample 46 = .ok (.aload_n 0, 1)) ∧ (decode cX4_wrongSample 47 = .ok (.iload_n 3, 1)) := by decide +kernel
theorem dX4_wrongSample_24 : decode cX4_wrongSample 24 = .ok (.imul, 1) := dq_X4_wrongSample_24.1
theorem dX4_wrongSample_25 : decode cX4_wrongSample 25 = .ok (.istore 4, 2) := dq_X4_wrongSample_24.2.1
theorem dX4_wrongSample_27 : decode cX4_wrongSample 27 = .ok (.iload 4, 2) := dq_X4_wrongSample_24.2.2.1
theorem dX4_wrongSample_29 : decode cX4_wrongSample 29 = .ok (.iload_n 1, 1) := dq_X4_wrongSample_24.2.2.2.1
theorem dX4_wrongSample_30 : decode cX4_wrongSample 30 = .ok (.invokestatic 63, 3) := dq_X4_wrongSample_24.2.2.2.2.1
theorem dX4_wrongSample_33 : decode cX4_wrongSample 33 = .ok (.ifCond .ne 8, 3) := dq_X4_wrongSample_24.2.2.2.2.2.1
theorem dX4_wrongSample_36 : decode cX4_wrongSample 36 = .ok (.iload_n 3, 1) := dq_X4_wrongSample_24.2.2.2.2.2.2.1
theorem dX4_wrongSample_37 : decode cX4_wrongSample 37 = .ok (.bipush 22, 2) := dq_X4_wrongSample_24.2.2.2.2.2.2.2.1
theorem dX4_wrongSample_39 : decode cX4_wrongSample 39 = .ok (.iadd, 1) := dq_X4_wrongSample_24.2.2.2.2.2.2.2.2.1
theorem dX4_wrongSample_40 : decode cX4_wrongSample 40 = .ok (.ireturn, 1) := dq_X4_wrongSample_24.2.2.2.2.2.2.2.2.2.1
theorem dX4_wrongSample_41 : decode cX4_wrongSample 41 = .ok (.iload_n 1, 1) := dq_X4_wrongSample_24.2.2.2.2.2.2.2.2.2.2.1
theorem dX4_wrongSample_42 : decode cX4_wrongSample 42 = .ok (.iload 4, 2) := dq_X4_wrongSample_24.2.2.2.2.2.2.2.2.2.2.2.1
theorem dX4_wrongSample_44 : decode cX4_wrongSample 44 = .ok (.iadd, 1) := dq_X4_wrongSample_24.2.2.2.2.2.2.2.2.2.2.2.2.1
theorem dX4_wrongSample_45 : decode cX4_wrongSample 45 = .ok (.istore_n 1, 1) := dq_X4_wrongSample_24.2.2.2.2.2.2.2.2.2.2.2.2.2.1
theorem dX4_wrongSample_46 : decode cX4_wrongSample 46 = .ok (.aload_n 0, 1) := dq_X4_wrongSample_24.2.2.2.2.2.2.2.2.2.2.2.2.2.2.1
theorem dX4_wrongSample_47 : decode cX4_wrongSample 47 = .ok (.iload_n 3, 1) := dq_X4_wrongSample_24.2.2.2.2.2.2.2.2.2.2.2.2.2.2.2
theorem dq_X4_wrongSample_48 : (decode cX4_wrongSample 48 = .ok (.bipush 24, 2)) ∧ (decode cX4_wrongSample 50 = .ok (.iadd, 1)) ∧ (decode cX4_wrongSample 51 = .ok (.invokevirtual 51, 3)) ∧ (decode cX4_wrongSample 54 = .ok (.bipush 15, 2)) ∧ (decode cX4_wrongSample 56 = .ok (.if_icmp .le 8, 3)) ∧ (decode cX4_wrongSample 59 = .ok (.iload_n 3, 1)) ∧ (decode cX4_wrongSample 60 = .ok (.bipush 24, 2)) ∧ (decode cX4_wrongSample 62 = .ok (.iadd, 1)) ∧ (decode cX4_wrongSample 63 = .ok (.ireturn, 1)) ∧ (decode cX4_wrongSample 64 = .ok (.aload_n 0, 1)) ∧ (decode cX4_wrongSample 65 = .ok (.iload_n 3, 1)) ∧ (decode cX4_wrongSample 66 = .ok (.bipush 25, 2)) ∧ (decode cX4_wrongSample 68 = .ok (.iadd, 1)) ∧ (decode cX4_wrongSample 69 = .ok (.invokevirtual 51, 3)) ∧ (decode cX4_wrongSample 72 = .ok (.bipush 64, 2)) ∧ (decode cX4_wrongSample 74 = .ok (.if_icmp .le 8, 3)) := by decide +kernel
theorem dX4_wrongSample_48 : decode cX4_wrongSample 48 = .ok (.bipush 24, 2) := dq_X4_wrongSample_48.1
theorem dX4_wrongSample_50 : decode cX4_wrongSample 50 = .ok (.iadd, 1) := dq_X4_wrongSample_48.2.1
theorem dX4_wrongSample_51 : decode cX4_wrongSample 51 = .ok (.invokevirtual 51, 3) := dq_X4_wrongSample_48.2.2.1
theorem dX4_wrongSample_54 : decode cX4_wrongSample 54 = .ok (.bipush 15, 2) := dq_X4_wrongSample_48.2.2.2.1
theorem dX4_wrongSample_56 : decode cX4_wrongSample 56 = .ok (.if_icmp .le 8, 3) := dq_X4_wrongSample_48.2.2.2.2.1
theorem dX4_wrongSample_59 : decode cX4_wrongSample 59 = .ok (.iload_n 3, 1) := dq_X4_wrongSample_48.2.2.2.2.2.1
theorem dX4_wrongSample_60 : decode cX4_wrongSample 60 = .ok (.bipush 24, 2) := dq_X4_wrongSample_48.2.2.2.2.2.2.1
theorem dX4_wrongSample_62 : decode cX4_wrongSample 62 = .ok (.iadd, 1) := dq_X4_wrongSample_48.2.2.2.2.2.2.2.1
theorem dX4_wrongSample_63 : decode cX4_wrongSample 63 = .ok (.ireturn, 1) := dq_X4_wrongSample_48.2.2.2.2.2.2.2.2.1
theorem dX4_wrongSample_64 : decode cX4_wrongSample 64 = .ok (.aload_n 0, 1) := dq_X4_wrongSample_48.2.2.2.2.2.2.2.2.2.1
theorem dX4_wrongSample_65 : decode cX4_wrongSample 65 = .ok (.iload_n 3, 1) := dq_X4_wrongSample_48.2.2.2.2.2.2.2.2.2.2.1
theorem dX4_wrongSample_66 : decode cX4_wrongSample 66 = .ok (.bipush 25, 2) := dq_X4_wrongSample_48.2.2.2.2.2.2.2.2.2.2.2.1
theorem dX4_wrongSample_68 : decode cX4_wrongSample 68 = .ok (.iadd, 1) := dq_X4_wrongSample_48.2.2.2.2.2.2.2.2.2.2.2.2.1
theorem dX4_wrongSample_69 : decode cX4_wrongSample 69 = .ok (.invokevirtual 51, 3) := dq_X4_wrongSample_48.2.2.2.2.2.2.2.2.2.2.2.2.2.1
theorem dX4_wrongSample_72 : decode cX4_wrongSample 72 = .ok (.bipush 64, 2) := dq_X4_wrongSample_48.2.2.2.2.2.2.2.2.2.2.2.2.2.2.1
theorem dX4_wrongSample_74 : decode cX4_wrongSample 74 = .ok (.if_icmp .le 8, 3) := dq_X4_wrongSample_48.2.2.2.2.2.2.2.2.2.2.2.2.2.2.2
theorem dq_X4_wrongSample_77 : (decode cX4_wrongSample 77 = .ok (.iload_n 3, 1)) ∧ (decode cX4_wrongSample 78 = .ok (.bipush 25, 2)) ∧ (decode cX4_wrongSample 80 = .ok (.iadd, 1)) ∧ (decode cX4_wrongSample 81 = .ok (.ireturn, 1)) ∧ (decode cX4_wrongSample 82 = .ok (.iconst 2, 1)) ∧ (decode cX4_wrongSample 83 = .ok (.aload_n 0, 1)) ∧ (decode cX4_wrongSample 84 = .ok (.iload_n 3, 1)) ∧ (decode cX4_wrongSample 85 = .ok (.bipush 26, 2)) ∧ (decode cX4_wrongSample 87 = .ok (.iadd, 1)) ∧ (decode cX4_wrongSample 88 = .ok (.invokevirtual 60, 3)) ∧ (decode cX4_wrongSample 91 = .ok (.imul, 1)) ∧ (decode cX4_wrongSample 92 = .ok (.istore 5, 2)) ∧ (decode cX4_wrongSample 94 = .ok (.iconst 2, 1)) ∧ (decode cX4_wrongSample 95 = .ok (.aload_n 0, 1)) ∧ (decode cX4_wrongSample 96 = .ok (.iload_n 3, 1)) ∧ (decode cX4_wrongSample 97 = .ok (.bipush 28, 2)) := by decide +kernel
theorem dX4_wrongSample_77 : decode cX4_wrongSample 77 = .ok (.iload_n 3, 1) := dq_X4_wrongSample_77.1
theorem dX4_wrongSample_78 : decode cX4_wrongSample 78 = .ok (.bipush 25, 2) := dq_X4_wrongSample_77.2.1
theorem dX4_wrongSample_80 : decode cX4_wrongSample 80 = .ok (.iadd, 1) := dq_X4_wrongSample_77.2.2.1
theorem dX4_wrongSample_81 : decode cX4_wrongSample 81 = .ok (.ireturn, 1) := dq_X4_wrongSample_77.2.2.2.1
theorem dX4_wrongSample_82 : decode cX4_wrongSample 82 = .ok (.iconst 2, 1) := dq_X4_wrongSample_77.2.2.2.2.1
theorem dX4_wrongSample_83 : decode cX4_wrongSample 83 = .ok (.aload_n 0, 1) := dq_X4_wrongSample_77.2.2.2.2.2.1
theorem dX4_wrongSample_84 : decode cX4_wrongSample 84 = .ok (.iload_n 3, 1) := dq_X4_wrongSample_77.2.2.2.2.2.2.1
theorem dX4_wrongSample_85 : decode cX4_wrongSample 85 = .ok (.bipush 26, 2) := dq_X4_wrongSample_77.2.2.2.2.2.2.2.1
theorem dX4_wrongSample_87 : decode cX4_wrongSample 87 = .ok (.iadd, 1) := dq_X4_wrongSample_77.2.2.2.2.2.2.2.2.1
theorem dX4_wrongSample_88 : decode cX4_wrongSample 88 = .ok (.invokevirtual 60, 3) := dq_X4_wrongSample_77.2.2.2.2.2.2.2.2.2.1
theorem dX4_wrongSample_91 : decode cX4_wrongSample 91 = .ok (.imul, 1) := dq_X4_wrongSample_77.2.2.2.2.2.2.2.2.2.2.1
theorem dX4_wrongSample_92 : decode cX4_wrongSample 92 = .ok (.istore 5, 2) := dq_X4_wrongSample_77.2.2.2.2.2.2.2.2.2.2.2.1
theorem dX4_wrongSample_94 : decode cX4_wrongSample 94 = .ok (.iconst 2, 1) := dq_X4_wrongSample_77.2.2.2.2.2.2.2.2.2.2.2.2.1
theorem dX4_wrongSample_95 : decode cX4_wrongSample 95 = .ok (.aload_n 0, 1) := dq_X4_wrongSample_77.2.2.2.2.2.2.2.2.2.2.2.2.2.1
theorem dX4_wrongSample_96 : decode cX4_wrongSample 96 = .ok (.iload_n 3, 1) := dq_X4_wrongSample_77.2.2.2.2.2.2.2.2.2.2.2.2.2.2.1
theorem dX4_wrongSample_97 : decode cX4_wrongSample 97 = .ok (.bipush 28, 2) := dq_X4_wrongSample_77.2.2.2.2.2.2.2.2.2.2.2.2.2.2.2
theorem dq_X4_wrongSample_99 : (decode cX4_wrongSample 99 = .ok (.iadd, 1)) ∧ (decode cX4_wrongSample 100 = .ok (.invokevirtual 60, 3)) ∧ (decode cX4_wrongSample 103 = .ok (.imul, 1)) ∧ (decode cX4_wrongSample 104 = .ok (.istore 6, 2)) ∧ (decode cX4_wrongSample 106 = .ok (.iload 4, 2)) ∧ (decode cX4_wrongSample 108 = .ok (.iload 5, 2)) ∧ (decode cX4_wrongSample 110 = .ok (.iload 6, 2)) ∧ (decode cX4_wrongSample 112 = .ok (.invokestatic 68, 3)) ∧ (decode cX4_wrongSample 115 = .ok (.ifCond .ne 8, 3)) ∧ (decode cX4_wrongSample 118 = .ok (.iload_n 3, 1)) ∧ (decode cX4_wrongSample 119 = .ok (.bipush 26, 2)) ∧ (decode cX4_wrongSample 121 = .ok (.iadd, 1)) ∧ (decode cX4_wrongSample 122 = .ok (.ireturn, 1)) ∧ (decode cX4_wrongSample 123 = .ok (.iinc 2 1, 3)) ∧ (decode cX4_wrongSample 126 = .ok (.goto (-122), 3)) ∧ (decode cX4_wrongSample 129 = .ok (.iconst (-1), 1)) := by decide +kernel
theorem dX4_wrongSample_99 : decode cX4_wrongSample 99 = .ok (.iadd, 1) := dq_X4_wrongSample_99.1
theorem dX4_wrongSample_100 : decode cX4_wrongSample 100 = .ok (.invokevirtual 60, 3) := dq_X4_wrongSample_99.2.1
theorem dX4_wrongSample_103 : decode cX4_wrongSample 103 = .ok (.imul, 1) := dq_X4_wrongSample_99.2.2.1
theorem dX4_wrongSample_104 : decode cX4_wrongSample 104 = .ok (.istore 6, 2) := dq_X4_wrongSample_99.2.2.2.1
theorem dX4_wrongSample_106 : decode cX4_wrongSample 106 = .ok (.iload 4, 2) := dq_X4_wrongSample_99.2.2.2.2.1
theorem dX4_wrongSample_108 : decode cX4_wrongSample 108 = .ok (.iload 5, 2) := dq_X4_wrongSample_99.2.2.2.2.2.1
theorem dX4_wrongSample_110 : decode cX4_wrongSample 110 = .ok (.iload 6, 2) := dq_X4_wrongSample_99.2.2.2.2.2.2.1
theorem dX4_wrongSample_112 : decode cX4_wrongSample 112 = .ok (.invokestatic 68, 3) := dq_X4_wrongSample_99.2.2.2.2.2.2.2.1
theorem dX4_wrongSample_115 : decode cX4_wrongSample 115 = .ok (.ifCond .ne 8, 3) := dq_X4_wrongSample_99.2.2.2.2.2.2.2.2.1
theorem dX4_wrongSample_118 : decode cX4_wrongSample 118 = .ok (.iload_n 3, 1) := dq_X4_wrongSample_99.2.2.2.2.2.2.2.2.2.1
theorem dX4_wrongSample_119 : decode cX4_wrongSample 119 = .ok (.bipush 26, 2) := dq_X4_wrongSample_99.2.2.2.2.2.2.2.2.2.2.1
theorem dX4_wrongSample_121 : decode cX4_wrongSample 121 = .ok (.iadd, 1) := dq_X4_wrongSample_99.2.2.2.2.2.2.2.2.2.2.2.1
theorem dX4_wrongSample_122 : decode cX4_wrongSample 122 = .ok (.ireturn, 1) := dq_X4_wrongSample_99.2.2.2.2.2.2.2.2.2.2.2.2.1
theorem dX4_wrongSample_123 : decode cX4_wrongSample 123 = .ok (.iinc 2 1, 3) := dq_X4_wrongSample_99.2.2.2.2.2.2.2.2.2.2.2.2.2.1
theorem dX4_wrongSample_126 : decode cX4_wrongSample 126 = .ok (.goto (-122), 3) := dq_X4_wrongSample_99.2.2.2.2.2.2.2.2.2.2.2.2.2.2.1
theorem dX4_wrongSample_129 : decode cX4_wrongSample 129 = .ok (.iconst (-1), 1) := dq_X4_wrongSample_99.2.2.2.2.2.2.2.2.2.2.2.2.2.2.2
theorem dX4_wrongSample_130 : decode cX4_wrongSample 130 = .ok (.ireturn, 1) := by decide +kernel
theorem dq_X4_wrongSong_0 : (decode cX4_wrongSong 0 = .ok (.aload_n 0, 1)) ∧ (decode cX4_wrongSong 1 = .ok (.sipush 950, 3)) ∧ (decode cX4_wrongSong 4 = .ok (.invokevirtual 51, 3)) ∧ (decode cX4_wrongSong 7 = .ok (.istore_n 1, 1)) ∧ (decode cX4_wrongSong 8 = .ok (.iload_n 1, 1)) ∧ (decode cX4_wrongSong 9 = .ok (.iconst 1, 1)) ∧ (decode cX4_wrongSong 10 = .ok (.if_icmp .lt 10, 3)) ∧ (decode cX4_wrongSong 13 = .ok (.iload_n 1, 1)) ∧ (decode cX4_wrongSong 14 = .ok (.sipush 128, 3)) ∧ (decode cX4_wrongSong 17 = .ok (.if_icmp .le 7, 3)) ∧ (decode cX4_wrongSong 20 = .ok (.sipush 950, 3)) ∧ (decode cX4_wrongSong 23 = .ok (.ireturn, 1)) ∧ (decode cX4_wrongSong 24 = .ok (.iconst 0, 1)) ∧ (decode cX4_wrongSong 25 = .ok (.istore_n 2, 1)) ∧ (decode cX4_wrongSong 26 = .ok (.iload_n 2, 1)) ∧ (decode cX4_wrongSong 27 = .ok (.iload_n 1, 1)) := by decide +kernel
theorem dX4_wrongSong_0 : decode cX4_wrongSong 0 = .ok (.aload_n 0, 1) := dq_X4_wrongSong_0.1
theorem dX4_wrongSong_1 : decode cX4_wrongSong 1 = .ok (.sipush 950, 3) := dq_X4_wrongSong_0.2.1
theorem dX4_wrongSong_4 : decode cX4_wrongSong 4 = .ok (.invokevirtual 51, 3) := dq_X4_wrongSong_0.2.2.1
theorem dX4_wrongSong_7 : decode cX4_wrongSong 7 = .ok (.istore_n 1, 1) := dq_X4_wrongSong_0.2.2.2.1
theorem dX4_wrongSong_8 : decode cX4_wrongSong 8 = .ok (.iload_n 1, 1) := dq_X4_wrongSong_0.2.2.2.2.1
theorem dX4_wrongSong_9 : decode cX4_wrongSong 9 = .ok (.iconst 1, 1) := dq_X4_wrongSong_0.2.2.2.2.2.1
theorem dX4_wrongSong_10 : decode cX4_wrongSong 10 = .ok (.if_icmp .lt 10, 3) := dq_X4_wrongSong_0.2.2.2.2.2.2.1
theorem dX4_wrongSong_13 : decode cX4_wrongSong 13 = .ok (.iload_n 1, 1) := dq_X4_wrongSong_0.2.2.2.2.2.2.2.1
theorem dX4_wrongSong_14 : decode cX4_wrongSong 14 = .ok (.sipush 128, 3) := dq_X4_wrongSong_0.2.2.2.2.2.2.2.2.1
theorem dX4_wrongSong_17 : decode cX4_wrongSong 17 = .ok (.if_icmp .le 7, 3) := dq_X4_wrongSong_0.2.2.2.2.2.2.2.2.2.1
theorem dX4_wrongSong_20 : decode cX4_wrongSong 20 = .ok (.sipush 950, 3) := dq_X4_wrongSong_0.2.2.2.2.2.2.2.2.2.2.1
theorem dX4_wrongSong_23 : decode cX4_wrongSong 23 = .ok (.ireturn, 1) := dq_X4_wrongSong_0.2.2.2.2.2.2.2.2.2.2.2.1
theorem dX4_wrongSong_24 : decode cX4_wrongSong 24 = .ok (.iconst 0, 1) := dq_X4_wrongSong_0.2.2.2.2.2.2.2.2.2.2.2.2.1
theorem dX4_wrongSong_25 : decode cX4_wrongSong 25 = .ok (.istore_n 2, 1) := dq_X4_wrongSong_0.2.2.2.2.2.2.2.2.2.2.2.2.2.1
theorem dX4_wrongSong_26 : decode cX4_wrongSong 26 = .ok (.iload_n 2, 1) := dq_X4_wrongSong_0.2.2.2.2.2.2.2.2.2.2.2.2.2.2.1
theorem dX4_wrongSong_27 : decode cX4_wrongSong 27 = .ok (.iload_n 1, 1) := dq_X4_wrongSong_0.2.2.2.2.2.2.2.2.2.2.2.2.2.2.2
theorem dq_X4_wrongSong_28 : (decode cX4_wrongSong 28 = .ok (.if_icmp .ge 29, 3)) ∧ (decode cX4_wrongSong 31 = .ok (.aload_n 0, 1)) ∧ (decode cX4_wrongSong 32 = .ok (.sipush 952, 3)) ∧ (decode cX4_wrongSong 35 = .ok (.iload_n 2, 1)) ∧ (decode cX4_wrongSong 36 = .ok (.iadd, 1)) ∧ (decode cX4_wrongSong 37 = .ok (.invokevirtual 51, 3)) ∧ (decode cX4_wrongSong 40 = .ok (.bipush 8, 2)) ∧ (decode cX4_wrongSong 42 = .ok (.if_icmp .lt 9, 3)) ∧ (decode cX4_wrongSong 45 = .ok (.sipush 952, 3)) ∧ (decode cX4_wrongSong 48 = .ok (.iload_n 2, 1)) ∧ (decode cX4_wrongSong 49 = .ok (.iadd, 1)) ∧ (decode cX4_wrongSong 50 = .ok (.ireturn, 1)) ∧ (decode cX4_wrongSong 51 = .ok (.iinc 2 1, 3)) ∧ (decode cX4_wrongSong 54 = .ok (.goto (-28), 3)) ∧ (decode cX4_wrongSong 57 = .ok (.iconst (-1), 1)) ∧ (decode cX4_wrongSong 58 = .ok (.ireturn, 1)) := by decide +kernel
theorem dX4_wrongSong_28 : decode cX4_wrongSong 28 = .ok (.if_icmp .ge 29, 3) := dq_X4_wrongSong_28.1
theorem dX4_wrongSong_31 : decode cX4_wrongSong 31 = .ok (.aload_n 0, 1) := dq_X4_wrongSong_28.2.1
theorem dX4_wrongSong_32 : decode cX4_wrongSong 32 = .ok (.sipush 952, 3) := dq_X4_wrongSong_28.2.2.1
theorem dX4_wrongSong_35 : decode cX4_wrongSong 35 = .ok (.iload_n 2, 1) := dq_X4_wrongSong_28.2.2.2.1
theorem dX4_wrongSong_36 : decode cX4_wrongSong 36 = .ok (.iadd, 1) := dq_X4_wrongSong_28.2.2.2.2.1
theorem dX4_wrongSong_37 : decode cX4_wrongSong 37 = .ok (.invokevirtual 51, 3) := dq_X4_wrongSong_28.2.2.2.2.2.1
theorem dX4_wrongSong_40 : decode cX4_wrongSong 40 = .ok (.bipush 8, 2) := dq_X4_wrongSong_28.2.2.2.2.2.2.1
theorem dX4_wrongSong_42 : decode cX4_wrongSong 42 = .ok (.if_icmp .lt 9, 3) := dq_X4_wrongSong_28.2.2.2.2.2.2.2.1
theorem dX4_wrongSong_45 : decode cX4_wrongSong 45 = .ok (.sipush 952, 3) := dq_X4_wrongSong_28.2.2.2.2.2.2.2.2.1
theorem dX4_wrongSong_48 : decode cX4_wrongSong 48 = .ok (.iload_n 2, 1) := dq_X4_wrongSong_28.2.2.2.2.2.2.2.2.2.1
theorem dX4_wrongSong_49 : decode cX4_wrongSong 49 = .ok (.iadd, 1) := dq_X4_wrongSong_28.2.2.2.2.2.2.2.2.2.2.1
theorem dX4_wrongSong_50 : decode cX4_wrongSong 50 = .ok (.ireturn, 1) := dq_X4_wrongSong_28.2.2.2.2.2.2.2.2.2.2.2.1
theorem dX4_wrongSong_51 : decode cX4_wrongSong 51 = .ok (.iinc 2 1, 3) := dq_X4_wrongSong_28.2.2.2.2.2.2.2.2.2.2.2.2.1
theorem dX4_wrongSong_54 : decode cX4_wrongSong 54 = .ok (.goto (-28), 3) := dq_X4_wrongSong_28.2.2.2.2.2.2.2.2.2.2.2.2.2.1
theorem dX4_wrongSong_57 : decode cX4_wrongSong 57 = .ok (.iconst (-1), 1) := dq_X4_wrongSong_28.2.2.2.2.2.2.2.2.2.2.2.2.2.2.1
theorem dX4_wrongSong_58 : decode cX4_wrongSong 58 = .ok (.ireturn, 1) := dq_X4_wrongSong_28.2.2.2.2.2.2.2.2.2.2.2.2.2.2.2
theorem dq_X4_bytesNeeded_0 : (decode cX4_bytesNeeded 0 = .ok (.aload_n 0, 1)) ∧ (decode cX4_bytesNeeded 1 = .ok (.sipush 950, 3)) ∧ (decode cX4_bytesNeeded 4 = .ok (.invokevirtual 51, 3)) ∧ (decode cX4_bytesNeeded 7 = .ok (.istore_n 1, 1)) ∧ (decode cX4_bytesNeeded 8 = .ok (.iconst 0, 1)) ∧ (decode cX4_bytesNeeded 9 = .ok (.istore_n 2, 1)) ∧ (decode cX4_bytesNeeded 10 = .ok (.iconst 0, 1)) ∧ (decode cX4_bytesNeeded 11 = .ok (.istore_n 3, 1)) ∧ (decode cX4_bytesNeeded 12 = .ok (.iload_n 3, 1)) ∧ (decode cX4_bytesNeeded 13 = .ok (.iload_n 1, 1)) ∧ (decode cX4_bytesNeeded 14 = .ok (.if_icmp .ge 30, 3)) ∧ (decode cX4_bytesNeeded 17 = .ok (.iload_n 3, 1)) ∧ (decode cX4_bytesNeeded 18 = .ok (.sipush 128, 3)) ∧ (decode cX4_bytesNeeded 21 = .ok (.if_icmp .ge 23, 3)) ∧ (decode cX4_bytesNeeded 24 = .ok (.iload_n 2, 1)) ∧ (decode cX4_bytesNeeded 25 = .ok (.aload_n 0, 1)) := by decide +kernel
theorem dX4_bytesNeeded_0 : decode cX4_bytesNeeded 0 = .ok (.aload_n 0, 1) := dq_X4_bytesNeeded_0.1
theorem dX4_bytesNeeded_1 : decode cX4_bytesNeeded 1 = .ok (.sipush 950, 3) := dq_X4_bytesNeeded_0.2.1
theorem dX4_bytesNeeded_4 : decode cX4_bytesNeeded 4 = .ok (.invokevirtual 51, 3) := dq_X4_bytesNeeded_0.2.2.1
theorem dX4_bytesNeeded_7 : decode cX4_bytesNeeded 7 = .ok (.istore_n 1, 1) := dq_X4_bytesNeeded_0.2.2.2.1
theorem dX4_bytesNeeded_8 : decode cX4_bytesNeeded 8 = .ok (.iconst 0, 1) := dq_X4_bytesNeeded_0.2.2.2.2.1
theorem dX4_bytesNeeded_9 : decode cX4_bytesNeeded 9 = .ok (.istore_n 2, 1) := dq_X4_bytesNeeded_0.2.2.2.2.2.1
theorem dX4_bytesNeeded_10 : decode cX4_bytesNeeded 10 = .ok (.iconst 0, 1) := dq_X4_bytesNeeded_0.2.2.2.2.2.2.1
theorem dX4_bytesNeeded_11 : decode cX4_bytesNeeded 11 = .ok (.istore_n 3, 1) := dq_X4_bytesNeeded_0.2.2.2.2.2.2.2.1
theorem dX4_bytesNeeded_12 : decode cX4_bytesNeeded 12 = .ok (.iload_n 3, 1) := dq_X4_bytesNeeded_0.2.2.2.2.2.2.2.2.1
theorem dX4_bytesNeeded_13 : decode cX4_bytesNeeded 13 = .ok (.iload_n 1, 1) := dq_X4_bytesNeeded_0.2.2.2.2.2.2.2.2.2.1
theorem dX4_bytesNeeded_14 : decode cX4_bytesNeeded 14 = .ok (.if_icmp .ge 30, 3) := dq_X4_bytesNeeded_0.2.2.2.2.2.2.2.2.2.2.1
theorem dX4_bytesNeeded_17 : decode cX4_bytesNeeded 17 = .ok (.iload_n 3, 1) := dq_X4_bytesNeeded_0.2.2.2.2.2.2.2.2.2.2.2.1
theorem dX4_bytesNeeded_18 : decode cX4_bytesNeeded 18 = .ok (.sipush 128, 3) := dq_X4_bytesNeeded_0.2.2.2.2.2.2.2.2.2.2.2.2.1
theorem dX4_bytesNeeded_21 : decode cX4_bytesNeeded 21 = .ok (.if_icmp .ge 23, 3) := dq_X4_bytesNeeded_0.2.2.2.2.2.2.2.2.2.2.2.2.2.1
theorem dX4_bytesNeeded_24 : decode cX4_bytesNeeded 24 = .ok (.iload_n 2, 1) := dq_X4_bytesNeeded_0.2.2.2.2.2.2.2.2.2.2.2.2.2.2.1
theorem dX4_bytesNeeded_25 : decode cX4_bytesNeeded 25 = .ok (.aload_n 0, 1) := dq_X4_bytesNeeded_0.2.2.2.2.2.2.2.2.2.2.2.2.2.2.2
theorem dq_X4_bytesNeeded_26 : (decode cX4_bytesNeeded 26 = .ok (.sipush 952, 3)) ∧ (decode cX4_bytesNeeded 29 = .ok (.iload_n 3, 1)) ∧ (decode cX4_bytesNeeded 30 = .ok (.iadd, 1)) ∧ (decode cX4_bytesNeeded 31 = .ok (.invokevirtual 51, 3)) ∧ (decode cX4_bytesNeeded 34 = .ok (.invokestatic 74, 3)) ∧ (decode cX4_bytesNeeded 37 = .ok (.istore_n 2, 1)) ∧ (decode cX4_bytesNeeded 38 = .ok (.iinc 3 1, 3)) ∧ (decode cX4_bytesNeeded 41 = .ok (.goto (-29), 3)) ∧ (decode cX4_bytesNeeded 44 = .ok (.iload_n 2, 1)) ∧ (decode cX4_bytesNeeded 45 = .ok (.iconst 1, 1)) ∧ (decode cX4_bytesNeeded 46 = .ok (.iadd, 1)) ∧ (decode cX4_bytesNeeded 47 = .ok (.invokestatic 26, 3)) ∧ (decode cX4_bytesNeeded 50 = .ok (.istore_n 3, 1)) ∧ (decode cX4_bytesNeeded 51 = .ok (.iconst 1, 1)) ∧ (decode cX4_bytesNeeded 52 = .ok (.istore 4, 2)) ∧ (decode cX4_bytesNeeded 54 = .ok (.iload 4, 2)) := by decide +kernel
theorem dX4_bytesNeeded_26 : decode cX4_bytesNeeded 26 = .ok (.sipush 952, 3) := dq_X4_bytesNeeded_26.1
theorem dX4_bytesNeeded_29 : decode cX4_bytesNeeded 29 = .ok (.iload_n 3, 1) := dq_X4_bytesNeeded_26.2.1
theorem dX4_bytesNeeded_30 : decode cX4_bytesNeeded 30 = .ok (.iadd, 1) := dq_X4_bytesNeeded_26.2.2.1
theorem dX4_bytesNeeded_31 : decode cX4_bytesNeeded 31 = .ok (.invokevirtual 51, 3) := dq_X4_bytesNeeded_26.2.2.2.1
theorem dX4_bytesNeeded_34 : decode cX4_bytesNeeded 34 = .ok (.invokestatic 74, 3) := dq_X4_bytesNeeded_26.2.2.2.2.1
theorem dX4_bytesNeeded_37 : decode cX4_bytesNeeded 37 = .ok (.istore_n 2, 1) := dq_X4_bytesNeeded_26.2.2.2.2.2.1
theorem dX4_bytesNeeded_38 : decode cX4_bytesNeeded 38 = .ok (.iinc 3 1, 3) := dq_X4_bytesNeeded_26.2.2.2.2.2.2.1
theorem dX4_bytesNeeded_41 : decode cX4_bytesNeeded 41 = .ok (.goto (-29), 3) := dq_X4_bytesNeeded_26.2.2.2.2.2.2.2.1
theorem dX4_bytesNeeded_44 : decode cX4_bytesNeeded 44 = .ok (.iload_n 2, 1) := dq_X4_bytesNeeded_26.2.2.2.2.2.2.2.2.1
theorem dX4_bytesNeeded_45 : decode cX4_bytesNeeded 45 = .ok (.iconst 1, 1) := dq_X4_bytesNeeded_26.2.2.2.2.2.2.2.2.2.1
theorem dX4_bytesNeeded_46 : decode cX4_bytesNeeded 46 = .ok (.iadd, 1) := dq_X4_bytesNeeded_26.2.2.2.2.2.2.2.2.2.2.1
theorem dX4_bytesNeeded_47 : decode cX4_bytesNeeded 47 = .ok (.invokestatic 26, 3) := dq_X4_bytesNeeded_26.2.2.2.2.2.2.2.2.2.2.2.1
theorem dX4_bytesNeeded_50 : decode cX4_bytesNeeded 50 = .ok (.istore_n 3, 1) := dq_X4_bytesNeeded_26.2.2.2.2.2.2.2.2.2.2.2.2.1
theorem dX4_bytesNeeded_51 : decode cX4_bytesNeeded 51 = .ok (.iconst 1, 1) := dq_X4_bytesNeeded_26.2.2.2.2.2.2.2.2.2.2.2.2.2.1
theorem dX4_bytesNeeded_52 : decode cX4_bytesNeeded 52 = .ok (.istore 4, 2) := dq_X4_bytesNeeded_26.2.2.2.2.2.2.2.2.2.2.2.2.2.2.1
theorem dX4_bytesNeeded_54 : decode cX4_bytesNeeded 54 = .ok (.iload 4, 2) := dq_X4_bytesNeeded_26.2.2.2.2.2.2.2.2.2.2.2.2.2.2.2
theorem dq_X4_bytesNeeded_56 : (decode cX4_bytesNeeded 56 = .ok (.bipush 31, 2)) ∧ (decode cX4_bytesNeeded 58 = .ok (.if_icmp .gt 26, 3)) ∧ (decode cX4_bytesNeeded 61 = .ok (.iload_n 3, 1)) ∧ (decode cX4_bytesNeeded 62 = .ok (.iconst 2, 1)) ∧ (decode cX4_bytesNeeded 63 = .ok (.aload_n 0, 1)) ∧ (decode cX4_bytesNeeded 64 = .ok (.iload 4, 2)) ∧ (decode cX4_bytesNeeded 66 = .ok (.invokestatic 57, 3)) ∧ (decode cX4_bytesNeeded 69 = .ok (.bipush 22, 2)) ∧ (decode cX4_bytesNeeded 71 = .ok (.iadd, 1)) ∧ (decode cX4_bytesNeeded 72 = .ok (.invokevirtual 60, 3)) ∧ (decode cX4_bytesNeeded 75 = .ok (.imul, 1)) ∧ (decode cX4_bytesNeeded 76 = .ok (.iadd, 1)) ∧ (decode cX4_bytesNeeded 77 = .ok (.istore_n 3, 1)) ∧ (decode cX4_bytesNeeded 78 = .ok (.iinc 4 1, 3)) ∧ (decode cX4_bytesNeeded 81 = .ok (.goto (-27), 3)) ∧ (decode cX4_bytesNeeded 84 = .ok (.iload_n 3, 1)) := by decide +kernel
theorem dX4_bytesNeeded_56 : decode cX4_bytesNeeded 56 = .ok (.bipush 31, 2) := dq_X4_bytesNeeded_56.1
theorem dX4_bytesNeeded_58 : decode cX4_bytesNeeded 58 = .ok (.if_icmp .gt 26, 3) := dq_X4_bytesNeeded_56.2.1
theorem dX4_bytesNeeded_61 : decode cX4_bytesNeeded 61 = .ok (.iload_n 3, 1) := dq_X4_bytesNeeded_56.2.2.1
theorem dX4_bytesNeeded_62 : decode cX4_bytesNeeded 62 = .ok (.iconst 2, 1) := dq_X4_bytesNeeded_56.2.2.2.1
theorem dX4_bytesNeeded_63 : decode cX4_bytesNeeded 63 = .ok (.aload_n 0, 1) := dq_X4_bytesNeeded_56.2.2.2.2.1
theorem dX4_bytesNeeded_64 : decode cX4_bytesNeeded 64 = .ok (.iload 4, 2) := dq_X4_bytesNeeded_56.2.2.2.2.2.1
theorem dX4_bytesNeeded_66 : decode cX4_bytesNeeded 66 = .ok (.invokestatic 57, 3) := dq_X4_bytesNeeded_56.2.2.2.2.2.2.1
theorem dX4_bytesNeeded_69 : decode cX4_bytesNeeded 69 = .ok (.bipush 22, 2) := dq_X4_bytesNeeded_56.2.2.2.2.2.2.2.1
theorem dX4_bytesNeeded_71 : decode cX4_bytesNeeded 71 = .ok (.iadd, 1) := dq_X4_bytesNeeded_56.2.2.2.2.2.2.2.2.1
theorem dX4_bytesNeeded_72 : decode cX4_bytesNeeded 72 = .ok (.invokevirtual 60, 3) := dq_X4_bytesNeeded_56.2.2.2.2.2.2.2.2.2.1
theorem dX4_bytesNeeded_75 : decode cX4_bytesNeeded 75 = .ok (.imul, 1) := dq_X4_bytesNeeded_56.2.2.2.2.2.2.2.2.2.2.1
theorem dX4_bytesNeeded_76 : decode cX4_bytesNeeded 76 = .ok (.iadd, 1) := dq_X4_bytesNeeded_56.2.2.2.2.2.2.2.2.2.2.2.1
theorem dX4_bytesNeeded_77 : decode cX4_bytesNeeded 77 = .ok (.istore_n 3, 1) := dq_X4_bytesNeeded_56.2.2.2.2.2.2.2.2.2.2.2.2.1
theorem dX4_bytesNeeded_78 : decode cX4_bytesNeeded 78 = .ok (.iinc 4 1, 3) := dq_X4_bytesNeeded_56.2.2.2.2.2.2.2.2.2.2.2.2.2.1
theorem dX4_bytesNeeded_81 : decode cX4_bytesNeeded 81 = .ok (.goto (-27), 3) := dq_X4_bytesNeeded_56.2.2.2.2.2.2.2.2.2.2.2.2.2.2.1
theorem dX4_bytesNeeded_84 : decode cX4_bytesNeeded 84 = .ok (.iload_n 3, 1) := dq_X4_bytesNeeded_56.2.2.2.2.2.2.2.2.2.2.2.2.2.2.2
theorem dX4_bytesNeeded_85 : decode cX4_bytesNeeded 85 = .ok (.ireturn, 1) := by decide +kernel
theorem dq_X4_readSong_0 : (decode cX4_readSong 0 = .ok (.aload_n 1, 1)) ∧ (decode cX4_readSong 1 = .ok (.invokevirtual 80, 3)) ∧ (decode cX4_readSong 4 = .ok (.aload_n 1, 1)) ∧ (decode cX4_readSong 5 = .ok (.aload_n 0, 1)) ∧ (decode cX4_readSong 6 = .ok (.sipush 950, 3)) ∧ (decode cX4_readSong 9 = .ok (.invokevirtual 51, 3)) ∧ (decode cX4_readSong 12 = .ok (.putfield 85, 3)) ∧ (decode cX4_readSong 15 = .ok (.aload_n 1, 1)) ∧ (decode cX4_readSong 16 = .ok (.aload_n 0, 1)) ∧ (decode cX4_readSong 17 = .ok (.sipush 951, 3)) ∧ (decode cX4_readSong 20 = .ok (.invokevirtual 51, 3)) ∧ (decode cX4_readSong 23 = .ok (.putfield 86, 3)) ∧ (decode cX4_readSong 26 = .ok (.iconst 0, 1)) ∧ (decode cX4_readSong 27 = .ok (.istore_n 2, 1)) ∧ (decode cX4_readSong 28 = .ok (.iload_n 2, 1)) ∧ (decode cX4_readSong 29 = .ok (.aload_n 1, 1)) := by decide +kernel
theorem dX4_readSong_0 : decode cX4_readSong 0 = .ok (.aload_n 1, 1) := dq_X4_readSong_0.1
theorem dX4_readSong_1 : decode cX4_readSong 1 = .ok (.invokevirtual 80, 3) := dq_X4_readSong_0.2.1
theorem dX4_readSong_4 : decode cX4_readSong 4 = .ok (.aload_n 1, 1) := dq_X4_readSong_0.2.2.1
theorem dX4_readSong_5 : decode cX4_readSong 5 = .ok (.aload_n 0, 1) := dq_X4_readSong_0.2.2.2.1
theorem dX4_readSong_6 : decode cX4_readSong 6 = .ok (.sipush 950, 3) := dq_X4_readSong_0.2.2.2.2.1
theorem dX4_readSong_9 : decode cX4_readSong 9 = .ok (.invokevirtual 51, 3) := dq_X4_readSong_0.2.2.2.2.2.1
theorem dX4_readSong_12 : decode cX4_readSong 12 = .ok (.putfield 85, 3) := dq_X4_readSong_0.2.2.2.2.2.2.1
theorem dX4_readSong_15 : decode cX4_readSong 15 = .ok (.aload_n 1, 1) := dq_X4_readSong_0.2.2.2.2.2.2.2.1
theorem dX4_readSong_16 : decode cX4_readSong 16 = .ok (.aload_n 0, 1) := dq_X4_readSong_0.2.2.2.2.2.2.2.2.1
theorem dX4_readSong_17 : decode cX4_readSong 17 = .ok (.sipush 951, 3) := dq_X4_readSong_0.2.2.2.2.2.2.2.2.2.1
theorem dX4_readSong_20 : decode cX4_readSong 20 = .ok (.invokevirtual 51, 3) := dq_X4_readSong_0.2.2.2.2.2.2.2.2.2.2.1
theorem dX4_readSong_23 : decode cX4_readSong 23 = .ok (.putfield 86, 3) := dq_X4_readSong_0.2.2.2.2.2.2.2.2.2.2.2.1
theorem dX4_readSong_26 : decode cX4_readSong 26 = .ok (.iconst 0, 1) := dq_X4_readSong_0.2.2.2.2.2.2.2.2.2.2.2.2.1
theorem dX4_readSong_27 : decode cX4_readSong 27 = .ok (.istore_n 2, 1) := dq_X4_readSong_0.2.2.2.2.2.2.2.2.2.2.2.2.2.1
theorem dX4_readSong_28 : decode cX4_readSong 28 = .ok (.iload_n 2, 1) := dq_X4_readSong_0.2.2.2.2.2.2.2.2.2.2.2.2.2.2.1
theorem dX4_readSong_29 : decode cX4_readSong 29 = .ok (.aload_n 1, 1) := dq_X4_readSong_0.2.2.2.2.2.2.2.2.2.2.2.2.2.2.2
theorem dq_X4_readSong_30 : (decode cX4_readSong 30 = .ok (.getfield 85, 3)) ∧ (decode cX4_readSong 33 = .ok (.if_icmp .ge 31, 3)) ∧ (decode cX4_readSong 36 = .ok (.iload_n 2, 1)) ∧ (decode cX4_readSong 37 = .ok (.sipush 128, 3)) ∧ (decode cX4_readSong 40 = .ok (.if_icmp .ge 24, 3)) ∧ (decode cX4_readSong 43 = .ok (.aload_n 1, 1)) ∧ (decode cX4_readSong 44 = .ok (.getfield 89, 3)) ∧ (decode cX4_readSong 47 = .ok (.iload_n 2, 1)) ∧ (decode cX4_readSong 48 = .ok (.aload_n 0, 1)) ∧ (decode cX4_readSong 49 = .ok (.sipush 952, 3)) ∧ (decode cX4_readSong 52 = .ok (.iload_n 2, 1)) ∧ (decode cX4_readSong 53 = .ok (.iadd, 1)) ∧ (decode cX4_readSong 54 = .ok (.invokevirtual 51, 3)) ∧ (decode cX4_readSong 57 = .ok (.iastore, 1)) ∧ (decode cX4_readSong 58 = .ok (.iinc 2 1, 3)) ∧ (decode cX4_readSong 61 = .ok (.goto (-33), 3)) := by decide +kernel
theorem dX4_readSong_30 : decode cX4_readSong 30 = .ok (.getfield 85, 3) := dq_X4_readSong_30.1
theorem dX4_readSong_33 : decode cX4_readSong 33 = .ok (.if_icmp .ge 31, 3) := dq_X4_readSong_30.2.1
theorem dX4_readSong_36 : decode cX4_readSong 36 = .ok (.iload_n 2, 1) := dq_X4_readSong_30.2.2.1
theorem dX4_readSong_37 : decode cX4_readSong 37 = .ok (.sipush 128, 3) := dq_X4_readSong_30.2.2.2.1
theorem dX4_readSong_40 : decode cX4_readSong 40 = .ok (.if_icmp .ge 24, 3) := dq_X4_readSong_30.2.2.2.2.1
theorem dX4_readSong_43 : decode cX4_readSong 43 = .ok (.aload_n 1, 1) := dq_X4_readSong_30.2.2.2.2.2.1
theorem dX4_readSong_44 : decode cX4_readSong 44 = .ok (.getfield 89, 3) := dq_X4_readSong_30.2.2.2.2.2.2.1
theorem dX4_readSong_47 : decode cX4_readSong 47 = .ok (.iload_n 2, 1) := dq_X4_readSong_30.2.2.2.2.2.2.2.1
theorem dX4_readSong_48 : decode cX4_readSong 48 = .ok (.aload_n 0, 1) := dq_X4_readSong_30.2.2.2.2.2.2.2.2.1
theorem dX4_readSong_49 : decode cX4_readSong 49 = .ok (.sipush 952, 3) := dq_X4_readSong_30.2.2.2.2.2.2.2.2.2.1
theorem dX4_readSong_52 : decode cX4_readSong 52 = .ok (.iload_n 2, 1) := dq_X4_readSong_30.2.2.2.2.2.2.2.2.2.2.1
theorem dX4_readSong_53 : decode cX4_readSong 53 = .ok (.iadd, 1) := dq_X4_readSong_30.2.2.2.2.2.2.2.2.2.2.2.1
theorem dX4_readSong_54 : decode cX4_readSong 54 = .ok (.invokevirtual 51, 3) := dq_X4_readSong_30.2.2.2.2.2.2.2.2.2.2.2.2.1
theorem dX4_readSong_57 : decode cX4_readSong 57 = .ok (.iastore, 1) := dq_X4_readSong_30.2.2.2.2.2.2.2.2.2.2.2.2.2.1
theorem dX4_readSong_58 : decode cX4_readSong 58 = .ok (.iinc 2 1, 3) := dq_X4_readSong_30.2.2.2.2.2.2.2.2.2.2.2.2.2.2.1
theorem dX4_readSong_61 : decode cX4_readSong 61 = .ok (.goto (-33), 3) := dq_X4_readSong_30.2.2.2.2.2.2.2.2.2.2.2.2.2.2.2
theorem dq_X4_readSong_64 : (decode cX4_readSong 64 = .ok (.aload_n 1, 1)) ∧ (decode cX4_readSong 65 = .ok (.invokevirtual 92, 3)) ∧ (decode cX4_readSong 68 = .ok (.istore_n 2, 1)) ∧ (decode cX4_readSong 69 = .ok (.iconst 0, 1)) ∧ (decode cX4_readSong 70 = .ok (.istore_n 3, 1)) ∧ (decode cX4_readSong 71 = .ok (.iload_n 3, 1)) ∧ (decode cX4_readSong 72 = .ok (.iload_n 2, 1)) ∧ (decode cX4_readSong 73 = .ok (.if_icmp .ge 15, 3)) ∧ (decode cX4_readSong 76 = .ok (.aload_n 0, 1)) ∧ (decode cX4_readSong 77 = .ok (.aload_n 1, 1)) ∧ (decode cX4_readSong 78 = .ok (.iload_n 3, 1)) ∧ (decode cX4_readSong 79 = .ok (.invokestatic 96, 3)) ∧ (decode cX4_readSong 82 = .ok (.iinc 3 1, 3)) ∧ (decode cX4_readSong 85 = .ok (.goto (-14), 3)) ∧ (decode cX4_readSong 88 = .ok (.return_, 1)) := by decide +kernel
theorem dX4_readSong_64 : decode cX4_readSong 64 = .ok (.aload_n 1, 1) := dq_X4_readSong_64.1
theorem dX4_readSong_65 : decode cX4_readSong 65 = .ok (.invokevirtual 92, 3) := dq_X4_readSong_64.2.1
theorem dX4_readSong_68 : decode cX4_readSong 68 = .ok (.istore_n 2, 1) := dq_X4_readSong_64.2.2.1
theorem dX4_readSong_69 : decode cX4_readSong 69 = .ok (.iconst 0, 1) := dq_X4_readSong_64.2.2.2.1
theorem dX4_readSong_70 : decode cX4_readSong 70 = .ok (.istore_n 3, 1) := dq_X4_readSong_64.2.2.2.2.1
theorem dX4_readSong_71 : decode cX4_readSong 71 = .ok (.iload_n 3, 1) := dq_X4_readSong_64.2.2.2.2.2.1
theorem dX4_readSong_72 : decode cX4_readSong 72 = .ok (.iload_n 2, 1) := dq_X4_readSong_64.2.2.2.2.2.2.1
theorem dX4_readSong_73 : decode cX4_readSong 73 = .ok (.if_icmp .ge 15, 3) := dq_X4_readSong_64.2.2.2.2.2.2.2.1
theorem dX4_readSong_76 : decode cX4_readSong 76 = .ok (.aload_n 0, 1) := dq_X4_readSong_64.2.2.2.2.2.2.2.2.1
theorem dX4_readSong_77 : decode cX4_readSong 77 = .ok (.aload_n 1, 1) := dq_X4_readSong_64.2.2.2.2.2.2.2.2.2.1
theorem dX4_readSong_78 : decode cX4_readSong 78 = .ok (.iload_n 3, 1) := dq_X4_readSong_64.2.2.2.2.2.2.2.2.2.2.1
theorem dX4_readSong_79 : decode cX4_readSong 79 = .ok (.invokestatic 96, 3) := dq_X4_readSong_64.2.2.2.2.2.2.2.2.2.2.2.1
theorem dX4_readSong_82 : decode cX4_readSong 82 = .ok (.iinc 3 1, 3) := dq_X4_readSong_64.2.2.2.2.2.2.2.2.2.2.2.2.1
theorem dX4_readSong_85 : decode cX4_readSong 85 = .ok (.goto (-14), 3) := dq_X4_readSong_64.2.2.2.2.2.2.2.2.2.2.2.2.2.1
theorem dX4_readSong_88 : decode cX4_readSong 88 = .ok (.return_, 1) := dq_X4_readSong_64.2.2.2.2.2.2.2.2.2.2.2.2.2.2
theorem dq_X4_readPattern_0 : (decode cX4_readPattern 0 = .ok (.iconst 0, 1)) ∧ (decode cX4_readPattern 1 = .ok (.istore_n 3, 1)) ∧ (decode cX4_readPattern 2 = .ok (.iload_n 3, 1)) ∧ (decode cX4_readPattern 3 = .ok (.bipush 64, 2)) ∧ (decode cX4_readPattern 5 = .ok (.if_icmp .ge 47, 3)) ∧ (decode cX4_readPattern 8 = .ok (.iconst 0, 1)) ∧ (decode cX4_readPattern 9 = .ok (.istore 4, 2)) ∧ (decode cX4_readPattern 11 = .ok (.iload 4, 2)) ∧ (decode cX4_readPattern 13 = .ok (.iconst 4, 1)) ∧ (decode cX4_readPattern 14 = .ok (.if_icmp .ge 32, 3)) ∧ (decode cX4_readPattern 17 = .ok (.iload_n 2, 1)) ∧ (decode cX4_readPattern 18 = .ok (.iload_n 3, 1)) ∧ (decode cX4_readPattern 19 = .ok (.iload 4, 2)) ∧ (decode cX4_readPattern 21 = .ok (.invokestatic 100, 3)) ∧ (decode cX4_readPattern 24 = .ok (.istore 5, 2)) ∧ (decode cX4_readPattern 26 = .ok (.aload_n 1, 1)) := by decide +kernel
theorem dX4_readPattern_0 : decode cX4_readPattern 0 = .ok (.iconst 0, 1) := dq_X4_readPattern_0.1
theorem dX4_readPattern_1 : decode cX4_readPattern 1 = .ok (.istore_n 3, 1) := dq_X4_readPattern_0.2.1
theorem dX4_readPattern_2 : decode cX4_readPattern 2 = .ok (.iload_n 3, 1) := dq_X4_readPattern_0.2.2.1
theorem dX4_readPattern_3 : decode cX4_readPattern 3 = .ok (.bipush 64, 2) := dq_X4_readPattern_0.2.2.2.1
theorem dX4_readPattern_5 : decode cX4_readPattern 5 = .ok (.if_icmp .ge 47, 3) := dq_X4_readPattern_0.2.2.2.2.1
theorem dX4_readPattern_8 : decode cX4_readPattern 8 = .ok (.iconst 0, 1) := dq_X4_readPattern_0.2.2.2.2.2.1
theorem dX4_readPattern_9 : decode cX4_readPattern 9 = .ok (.istore 4, 2) := dq_X4_readPattern_0.2.2.2.2.2.2.1
theorem dX4_readPattern_11 : decode cX4_readPattern 11 = .ok (.iload 4, 2) := dq_X4_readPattern_0.2.2.2.2.2.2.2.1
theorem dX4_readPattern_13 : decode cX4_readPattern 13 = .ok (.iconst 4, 1) := dq_X4_readPattern_0.2.2.2.2.2.2.2.2.1
theorem dX4_readPattern_14 : decode cX4_readPattern 14 = .ok (.if_icmp .ge 32, 3) := dq_X4_readPattern_0.2.2.2.2.2.2.2.2.2.1
theorem dX4_readPattern_17 : decode cX4_readPattern 17 = .ok (.iload_n 2, 1) := dq_X4_readPattern_0.2.2.2.2.2.2.2.2.2.2.1
theorem dX4_readPattern_18 : decode cX4_readPattern 18 = .ok (.iload_n 3, 1) := dq_X4_readPattern_0.2.2.2.2.2.2.2.2.2.2.2.1
theorem dX4_readPattern_19 : decode cX4_readPattern 19 = .ok (.iload 4, 2) := dq_X4_readPattern_0.2.2.2.2.2.2.2.2.2.2.2.2.1
theorem dX4_readPattern_21 : decode cX4_readPattern 21 = .ok (.invokestatic 100, 3) := dq_X4_readPattern_0.2.2.2.2.2.2.2.2.2.2.2.2.2.1
theorem dX4_readPattern_24 : decode cX4_readPattern 24 = .ok (.istore 5, 2) := dq_X4_readPattern_0.2.2.2.2.2.2.2.2.2.2.2.2.2.2.1
theorem dX4_readPattern_26 : decode cX4_readPattern 26 = .ok (.aload_n 1, 1) := dq_X4_readPattern_0.2.2.2.2.2.2.2.2.2.2.2.2.2.2.2
theorem dq_X4_readPattern_27 : (decode cX4_readPattern 27 = .ok (.iload_n 2, 1)) ∧ (decode cX4_readPattern 28 = .ok (.iload_n 3, 1)) ∧ (decode cX4_readPattern 29 = .ok (.iload 4, 2)) ∧ (decode cX4_readPattern 31 = .ok (.aload_n 0, 1)) ∧ (decode cX4_readPattern 32 = .ok (.iload 5, 2)) ∧ (decode cX4_readPattern 34 = .ok (.invokestatic 104, 3)) ∧ (decode cX4_readPattern 37 = .ok (.invokevirtual 108, 3)) ∧ (decode cX4_readPattern 40 = .ok (.iinc 4 1, 3)) ∧ (decode cX4_readPattern 43 = .ok (.goto (-32), 3)) ∧ (decode cX4_readPattern 46 = .ok (.iinc 3 1, 3)) ∧ (decode cX4_readPattern 49 = .ok (.goto (-47), 3)) ∧ (decode cX4_readPattern 52 = .ok (.return_, 1)) := by decide +kernel
theorem dX4_readPattern_27 : decode cX4_readPattern 27 = .ok (.iload_n 2, 1) := dq_X4_readPattern_27.1
theorem dX4_readPattern_28 : decode cX4_readPattern 28 = .ok (.iload_n 3, 1) := dq_X4_readPattern_27.2.1
theorem dX4_readPattern_29 : decode cX4_readPattern 29 = .ok (.iload 4, 2) := dq_X4_readPattern_27.2.2.1
theorem dX4_readPattern_31 : decode cX4_readPattern 31 = .ok (.aload_n 0, 1) := dq_X4_readPattern_27.2.2.2.1
theorem dX4_readPattern_32 : decode cX4_readPattern 32 = .ok (.iload 5, 2) := dq_X4_readPattern_27.2.2.2.2.1
theorem dX4_readPattern_34 : decode cX4_readPattern 34 = .ok (.invokestatic 104, 3) := dq_X4_readPattern_27.2.2.2.2.2.1
theorem dX4_readPattern_37 : decode cX4_readPattern 37 = .ok (.invokevirtual 108, 3) := dq_X4_readPattern_27.2.2.2.2.2.2.1
theorem dX4_readPattern_40 : decode cX4_readPattern 40 = .ok (.iinc 4 1, 3) := dq_X4_readPattern_27.2.2.2.2.2.2.2.1
theorem dX4_readPattern_43 : decode cX4_readPattern 43 = .ok (.goto (-32), 3) := dq_X4_readPattern_27.2.2.2.2.2.2.2.2.1
theorem dX4_readPattern_46 : decode cX4_readPattern 46 = .ok (.iinc 3 1, 3) := dq_X4_readPattern_27.2.2.2.2.2.2.2.2.2.1
theorem dX4_readPattern_49 : decode cX4_readPattern 49 = .ok (.goto (-47), 3) := dq_X4_readPattern_27.2.2.2.2.2.2.2.2.2.2.1
theorem dX4_readPattern_52 : decode cX4_readPattern 52 = .ok (.return_, 1) := dq_X4_readPattern_27.2.2.2.2.2.2.2.2.2.2.2
theorem dq_X4_readCell_0 : (decode cX4_readCell 0 = .ok (.aload_n 0, 1)) ∧ (decode cX4_readCell 1 = .ok (.iload_n 1, 1)) ∧ (decode cX4_readCell 2 = .ok (.invokevirtual 51, 3)) ∧ (decode cX4_readCell 5 = .ok (.istore_n 2, 1)) ∧ (decode cX4_readCell 6 = .ok (.aload_n 0, 1)) ∧ (decode cX4_readCell 7 = .ok (.iload_n 1, 1)) ∧ (decode cX4_readCell 8 = .ok (.iconst 2, 1)) ∧ (decode cX4_readCell 9 = .ok (.iadd, 1)) ∧ (decode cX4_readCell 10 = .ok (.invokevirtual 51, 3)) ∧ (decode cX4_readCell 13 = .ok (.istore_n 3, 1)) ∧ (decode cX4_readCell 14 = .ok (.iload_n 2, 1)) ∧ (decode cX4_readCell 15 = .ok (.bipush 15, 2)) ∧ (decode cX4_readCell 17 = .ok (.iand, 1)) ∧ (decode cX4_readCell 18 = .ok (.bipush 8, 2)) ∧ (decode cX4_readCell 20 = .ok (.ishl, 1)) ∧ (decode cX4_readCell 21 = .ok (.aload_n 0, 1)) := by decide +kernel
theorem dX4_readCell_0 : decode cX4_readCell 0 = .ok (.aload_n 0, 1) := dq_X4_readCell_0.1
theorem dX4_readCell_1 : decode cX4_readCell 1 = .ok (.iload_n 1, 1) := dq_X4_readCell_0.2.1
theorem dX4_readCell_2 : decode cX4_readCell 2 = .ok (.invokevirtual 51, 3) := dq_X4_readCell_0.2.2.1
theorem dX4_readCell_5 : decode cX4_readCell 5 = .ok (.istore_n 2, 1) := dq_X4_readCell_0.2.2.2.1
theorem dX4_readCell_6 : decode cX4_readCell 6 = .ok (.aload_n 0, 1) := dq_X4_readCell_0.2.2.2.2.1
theorem dX4_readCell_7 : decode cX4_readCell 7 = .ok (.iload_n 1, 1) := dq_X4_readCell_0.2.2.2.2.2.1
theorem dX4_readCell_8 : decode cX4_readCell 8 = .ok (.iconst 2, 1) := dq_X4_readCell_0.2.2.2.2.2.2.1
theorem dX4_readCell_9 : decode cX4_readCell 9 = .ok (.iadd, 1) := dq_X4_readCell_0.2.2.2.2.2.2.2.1
theorem dX4_readCell_10 : decode cX4_readCell 10 = .ok (.invokevirtual 51, 3) := dq_X4_readCell_0.2.2.2.2.2.2.2.2.1
theorem dX4_readCell_13 : decode cX4_readCell 13 = .ok (.istore_n 3, 1) := dq_X4_readCell_0.2.2.2.2.2.2.2.2.2.1
theorem dX4_readCell_14 : decode cX4_readCell 14 = .ok (.iload_n 2, 1) := dq_X4_readCell_0.2.2.2.2.2.2.2.2.2.2.1
theorem dX4_readCell_15 : decode cX4_readCell 15 = .ok (.bipush 15, 2) := dq_X4_readCell_0.2.2.2.2.2.2.2.2.2.2.2.1
theorem dX4_readCell_17 : decode cX4_readCell 17 = .ok (.iand, 1) := dq_X4_readCell_0.2.2.2.2.2.2.2.2.2.2.2.2.1
theorem dX4_readCell_18 : decode cX4_readCell 18 = .ok (.bipush 8, 2) := dq_X4_readCell_0.2.2.2.2.2.2.2.2.2.2.2.2.2.1
theorem dX4_readCell_20 : decode cX4_readCell 20 = .ok (.ishl, 1) := dq_X4_readCell_0.2.2.2.2.2.2.2.2.2.2.2.2.2.2.1
theorem dX4_readCell_21 : decode cX4_readCell 21 = .ok (.aload_n 0, 1) := dq_X4_readCell_0.2.2.2.2.2.2.2.2.2.2.2.2.2.2.2
theorem dq_X4_readCell_22 : (decode cX4_readCell 22 = .ok (.iload_n 1, 1)) ∧ (decode cX4_readCell 23 = .ok (.iconst 1, 1)) ∧ (decode cX4_readCell 24 = .ok (.iadd, 1)) ∧ (decode cX4_readCell 25 = .ok (.invokevirtual 51, 3)) ∧ (decode cX4_readCell 28 = .ok (.ior, 1)) ∧ (decode cX4_readCell 29 = .ok (.istore 4, 2)) ∧ (decode cX4_readCell 31 = .ok (.iload_n 2, 1)) ∧ (decode cX4_readCell 32 = .ok (.sipush 240, 3)) ∧ (decode cX4_readCell 35 = .ok (.iand, 1)) ∧ (decode cX4_readCell 36 = .ok (.iload_n 3, 1)) ∧ (decode cX4_readCell 37 = .ok (.iconst 4, 1)) ∧ (decode cX4_readCell 38 = .ok (.ishr, 1)) ∧ (decode cX4_readCell 39 = .ok (.ior, 1)) ∧ (decode cX4_readCell 40 = .ok (.bipush 31, 2)) ∧ (decode cX4_readCell 42 = .ok (.iand, 1)) ∧ (decode cX4_readCell 43 = .ok (.istore 5, 2)) := by decide +kernel
theorem dX4_readCell_22 : decode cX4_readCell 22 = .ok (.iload_n 1, 1) := dq_X4_readCell_22.1
theorem dX4_readCell_23 : decode cX4_readCell 23 = .ok (.iconst 1, 1) := dq_X4_readCell_22.2.1
theorem dX4_readCell_24 : decode cX4_readCell 24 = .ok (.iadd, 1) := dq_X4_readCell_22.2.2.1
theorem dX4_readCell_25 : decode cX4_readCell 25 = .ok (.invokevirtual 51, 3) := dq_X4_readCell_22.2.2.2.1
theorem dX4_readCell_28 : decode cX4_readCell 28 = .ok (.ior, 1) := dq_X4_readCell_22.2.2.2.2.1
theorem dX4_readCell_29 : decode cX4_readCell 29 = .ok (.istore 4, 2) := dq_X4_readCell_22.2.2.2.2.2.1
theorem dX4_readCell_31 : decode cX4_readCell 31 = .ok (.iload_n 2, 1) := dq_X4_readCell_22.2.2.2.2.2.2.1
theorem dX4_readCell_32 : decode cX4_readCell 32 = .ok (.sipush 240, 3) := dq_X4_readCell_22.2.2.2.2.2.2.2.1
theorem dX4_readCell_35 : decode cX4_readCell 35 = .ok (.iand, 1) := dq_X4_readCell_22.2.2.2.2.2.2.2.2.1
theorem dX4_readCell_36 : decode cX4_readCell 36 = .ok (.iload_n 3, 1) := dq_X4_readCell_22.2.2.2.2.2.2.2.2.2.1
theorem dX4_readCell_37 : decode cX4_readCell 37 = .ok (.iconst 4, 1) := dq_X4_readCell_22.2.2.2.2.2.2.2.2.2.2.1
theorem dX4_readCell_38 : decode cX4_readCell 38 = .ok (.ishr, 1) := dq_X4_readCell_22.2.2.2.2.2.2.2.2.2.2.2.1
theorem dX4_readCell_39 : decode cX4_readCell 39 = .ok (.ior, 1) := dq_X4_readCell_22.2.2.2.2.2.2.2.2.2.2.2.2.1
theorem dX4_readCell_40 : decode cX4_readCell 40 = .ok (.bipush 31, 2) := dq_X4_readCell_22.2.2.2.2.2.2.2.2.2.2.2.2.2.1
theorem dX4_readCell_42 : decode cX4_readCell 42 = .ok (.iand, 1) := dq_X4_readCell_22.2.2.2.2.2.2.2.2.2.2.2.2.2.2.1
theorem dX4_readCell_43 : decode cX4_readCell 43 = .ok (.istore 5, 2) := dq_X4_readCell_22.2.2.2.2.2.2.2.2.2.2.2.2.2.2.2
theorem dq_X4_readCell_45 : (decode cX4_readCell 45 = .ok (.iload 4, 2)) ∧ (decode cX4_readCell 47 = .ok (.bipush 17, 2)) ∧ (decode cX4_readCell 49 = .ok (.ishl, 1)) ∧ (decode cX4_readCell 50 = .ok (.iload 5, 2)) ∧ (decode cX4_readCell 52 = .ok (.bipush 12, 2)) ∧ (decode cX4_readCell 54 = .ok (.ishl, 1)) ∧ (decode cX4_readCell 55 = .ok (.ior, 1)) ∧ (decode cX4_readCell 56 = .ok (.iload_n 3, 1)) ∧ (decode cX4_readCell 57 = .ok (.bipush 15, 2)) ∧ (decode cX4_readCell 59 = .ok (.iand, 1)) ∧ (decode cX4_readCell 60 = .ok (.bipush 8, 2)) ∧ (decode cX4_readCell 62 = .ok (.ishl, 1)) ∧ (decode cX4_readCell 63 = .ok (.ior, 1)) ∧ (decode cX4_readCell 64 = .ok (.aload_n 0, 1)) ∧ (decode cX4_readCell 65 = .ok (.iload_n 1, 1)) ∧ (decode cX4_readCell 66 = .ok (.iconst 3, 1)) := by decide +kernel
theorem dX4_readCell_45 : decode cX4_readCell 45 = .ok (.iload 4, 2) := dq_X4_readCell_45.1
theorem dX4_readCell_47 : decode cX4_readCell 47 = .ok (.bipush 17, 2) := dq_X4_readCell_45.2.1
theorem dX4_readCell_49 : decode cX4_readCell 49 = .ok (.ishl, 1) := dq_X4_readCell_45.2.2.1
theorem dX4_readCell_50 : decode cX4_readCell 50 = .ok (.iload 5, 2) := dq_X4_readCell_45.2.2.2.1
theorem dX4_readCell_52 : decode cX4_readCell 52 = .ok (.bipush 12, 2) := dq_X4_readCell_45.2.2.2.2.1
theorem dX4_readCell_54 : decode cX4_readCell 54 = .ok (.ishl, 1) := dq_X4_readCell_45.2.2.2.2.2.1
theorem dX4_readCell_55 : decode cX4_readCell 55 = .ok (.ior, 1) := dq_X4_readCell_45.2.2.2.2.2.2.1
theorem dX4_readCell_56 : decode cX4_readCell 56 = .ok (.iload_n 3, 1) := dq_X4_readCell_45.2.2.2.2.2.2.2.1
theorem dX4_readCell_57 : decode cX4_readCell 57 = .ok (.bipush 15, 2) := dq_X4_readCell_45.2.2.2.2.2.2.2.2.1
theorem dX4_readCell_59 : decode cX4_readCell 59 = .ok (.iand, 1) := dq_X4_readCell_45.2.2.2.2.2.2.2.2.2.1
theorem dX4_readCell_60 : decode cX4_readCell 60 = .ok (.bipush 8, 2) := dq_X4_readCell_45.2.2.2.2.2.2.2.2.2.2.1
theorem dX4_readCell_62 : decode cX4_readCell 62 = .ok (.ishl, 1) := dq_X4_readCell_45.2.2.2.2.2.2.2.2.2.2.2.1
theorem dX4_readCell_63 : decode cX4_readCell 63 = .ok (.ior, 1) := dq_X4_readCell_45.2.2.2.2.2.2.2.2.2.2.2.2.1
theorem dX4_readCell_64 : decode cX4_readCell 64 = .ok (.aload_n 0, 1) := dq_X4_readCell_45.2.2.2.2.2.2.2.2.2.2.2.2.2.1
theorem dX4_readCell_65 : decode cX4_readCell 65 = .ok (.iload_n 1, 1) := dq_X4_readCell_45.2.2.2.2.2.2.2.2.2.2.2.2.2.2.1
theorem dX4_readCell_66 : decode cX4_readCell 66 = .ok (.iconst 3, 1) := dq_X4_readCell_45.2.2.2.2.2.2.2.2.2.2.2.2.2.2.2
theorem dq_X4_readCell_67 : (decode cX4_readCell 67 = .ok (.iadd, 1)) ∧ (decode cX4_readCell 68 = .ok (.invokevirtual 51, 3)) ∧ (decode cX4_readCell 71 = .ok (.ior, 1)) ∧ (decode cX4_readCell 72 = .ok (.ireturn, 1)) := by decide +kernel
theorem dX4_readCell_67 : decode cX4_readCell 67 = .ok (.iadd, 1) := dq_X4_readCell_67.1
theorem dX4_readCell_68 : decode cX4_readCell 68 = .ok (.invokevirtual 51, 3) := dq_X4_readCell_67.2.1
theorem dX4_readCell_71 : decode cX4_readCell 71 = .ok (.ior, 1) := dq_X4_readCell_67.2.2.1
theorem dX4_readCell_72 : decode cX4_readCell 72 = .ok (.ireturn, 1) := dq_X4_readCell_67.2.2.2
theorem dq_X4_readSamples_0 : (decode cX4_readSamples 0 = .ok (.aload_n 1, 1)) ∧ (decode cX4_readSamples 1 = .ok (.invokevirtual 112, 3)) ∧ (decode cX4_readSamples 4 = .ok (.iload_n 2, 1)) ∧ (decode cX4_readSamples 5 = .ok (.istore_n 3, 1)) ∧ (decode cX4_readSamples 6 = .ok (.iconst 1, 1)) ∧ (decode cX4_readSamples 7 = .ok (.istore 4, 2)) ∧ (decode cX4_readSamples 9 = .ok (.iload 4, 2)) ∧ (decode cX4_readSamples 11 = .ok (.bipush 31, 2)) ∧ (decode cX4_readSamples 13 = .ok (.if_icmp .gt 151, 3)) ∧ (decode cX4_readSamples 16 = .ok (.iload 4, 2)) ∧ (decode cX4_readSamples 18 = .ok (.invokestatic 57, 3)) ∧ (decode cX4_readSamples 21 = .ok (.istore 5, 2)) ∧ (decode cX4_readSamples 23 = .ok (.iconst 2, 1)) ∧ (decode cX4_readSamples 24 = .ok (.aload_n 0, 1)) ∧ (decode cX4_readSamples 25 = .ok (.iload 5, 2)) ∧ (decode cX4_readSamples 27 = .ok (.bipush 22, 2)) := by decide +kernel
theorem dX4_readSamples_0 : decode cX4_readSamples 0 = .ok (.aload_n 1, 1) := dq_X4_readSamples_0.1
theorem dX4_readSamples_1 : decode cX4_readSamples 1 = .ok (.invokevirtual 112, 3) := dq_X4_readSamples_0.2.1
theorem dX4_readSamples_4 : decode cX4_readSamples 4 = .ok (.iload_n 2, 1) := dq_X4_readSamples_0.2.2.1
theorem dX4_readSamples_5 : decode cX4_readSamples 5 = .ok (.istore_n 3, 1) := dq_X4_readSamples_0.2.2.2.1
theorem dX4_readSamples_6 : decode cX4_readSamples 6 = .ok (.iconst 1, 1) := dq_X4_readSamples_0.2.2.2.2.1
theorem dX4_readSamples_7 : decode cX4_readSamples 7 = .ok (.istore 4, 2) := dq_X4_readSamples_0.2.2.2.2.2.1
theorem dX4_readSamples_9 : decode cX4_readSamples 9 = .ok (.iload 4, 2) := dq_X4_readSamples_0.2.2.2.2.2.2.1
theorem dX4_readSamples_11 : decode cX4_readSamples 11 = .ok (.bipush 31, 2) := dq_X4_readSamples_0.2.2.2.2.2.2.2.1
theorem dX4_readSamples_13 : decode cX4_readSamples 13 = .ok (.if_icmp .gt 151, 3) := dq_X4_readSamples_0.2.2.2.2.2.2.2.2.1
theorem dX4_readSamples_16 : decode cX4_readSamples 16 = .ok (.iload 4, 2) := dq_X4_readSamples_0.2.2.2.2.2.2.2.2.2.1
theorem dX4_readSamples_18 : decode cX4_readSamples 18 = .ok (.invokestatic 57, 3) := dq_X4_readSamples_0.2.2.2.2.2.2.2.2.2.2.1
theorem dX4_readSamples_21 : decode cX4_readSamples 21 = .ok (.istore 5, 2) := dq_X4_readSamples_0.2.2.2.2.2.2.2.2.2.2.2.1
theorem dX4_readSamples_23 : decode cX4_readSamples 23 = .ok (.iconst 2, 1) := dq_X4_readSamples_0.2.2.2.2.2.2.2.2.2.2.2.2.1
theorem dX4_readSamples_24 : decode cX4_readSamples 24 = .ok (.aload_n 0, 1) := dq_X4_readSamples_0.2.2.2.2.2.2.2.2.2.2.2.2.2.1
theorem dX4_readSamples_25 : decode cX4_readSamples 25 = .ok (.iload 5, 2) := dq_X4_readSamples_0.2.2.2.2.2.2.2.2.2.2.2.2.2.2.1
theorem dX4_readSamples_27 : decode cX4_readSamples 27 = .ok (.bipush 22, 2) := dq_X4_readSamples_0.2.2.2.2.2.2.2.2.2.2.2.2.2.2.2
theorem dq_X4_readSamples_29 : (decode cX4_readSamples 29 = .ok (.iadd, 1)) ∧ (decode cX4_readSamples 30 = .ok (.invokevirtual 60, 3)) ∧ (decode cX4_readSamples 33 = .ok (.imul, 1)) ∧ (decode cX4_readSamples 34 = .ok (.istore 6, 2)) ∧ (decode cX4_readSamples 36 = .ok (.aload_n 0, 1)) ∧ (decode cX4_readSamples 37 = .ok (.iload 5, 2)) ∧ (decode cX4_readSamples 39 = .ok (.bipush 24, 2)) ∧ (decode cX4_readSamples 41 = .ok (.iadd, 1)) ∧ (decode cX4_readSamples 42 = .ok (.invokevirtual 51, 3)) ∧ (decode cX4_readSamples 45 = .ok (.istore 7, 2)) ∧ (decode cX4_readSamples 47 = .ok (.aload_n 1, 1)) ∧ (decode cX4_readSamples 48 = .ok (.iload 4, 2)) ∧ (decode cX4_readSamples 50 = .ok (.iload 6, 2)) ∧ (decode cX4_readSamples 52 = .ok (.iload 7, 2)) ∧ (decode cX4_readSamples 54 = .ok (.bipush 7, 2)) ∧ (decode cX4_readSamples 56 = .ok (.if_icmp .le 11, 3)) := by decide +kernel
theorem dX4_readSamples_29 : decode cX4_readSamples 29 = .ok (.iadd, 1) := dq_X4_readSamples_29.1
theorem dX4_readSamples_30 : decode cX4_readSamples 30 = .ok (.invokevirtual 60, 3) := dq_X4_readSamples_29.2.1
theorem dX4_readSamples_33 : decode cX4_readSamples 33 = .ok (.imul, 1) := dq_X4_readSamples_29.2.2.1
theorem dX4_readSamples_34 : decode cX4_readSamples 34 = .ok (.istore 6, 2) := dq_X4_readSamples_29.2.2.2.1
theorem dX4_readSamples_36 : decode cX4_readSamples 36 = .ok (.aload_n 0, 1) := dq_X4_readSamples_29.2.2.2.2.1
theorem dX4_readSamples_37 : decode cX4_readSamples 37 = .ok (.iload 5, 2) := dq_X4_readSamples_29.2.2.2.2.2.1
theorem dX4_readSamples_39 : decode cX4_readSamples 39 = .ok (.bipush 24, 2) := dq_X4_readSamples_29.2.2.2.2.2.2.1
theorem dX4_readSamples_41 : decode cX4_readSamples 41 = .ok (.iadd, 1) := dq_X4_readSamples_29.2.2.2.2.2.2.2.1
theorem dX4_readSamples_42 : decode cX4_readSamples 42 = .ok (.invokevirtual 51, 3) := dq_X4_readSamples_29.2.2.2.2.2.2.2.2.1
theorem dX4_readSamples_45 : decode cX4_readSamples 45 = .ok (.istore 7, 2) := dq_X4_readSamples_29.2.2.2.2.2.2.2.2.2.1
theorem dX4_readSamples_47 : decode cX4_readSamples 47 = .ok (.aload_n 1, 1) := dq_X4_readSamples_29.2.2.2.2.2.2.2.2.2.2.1
theorem dX4_readSamples_48 : decode cX4_readSamples 48 = .ok (.iload 4, 2) := dq_X4_readSamples_29.2.2.2.2.2.2.2.2.2.2.2.1
theorem dX4_readSamples_50 : decode cX4_readSamples 50 = .ok (.iload 6, 2) := dq_X4_readSamples_29.2.2.2.2.2.2.2.2.2.2.2.2.1
theorem dX4_readSamples_52 : decode cX4_readSamples 52 = .ok (.iload 7, 2) := dq_X4_readSamples_29.2.2.2.2.2.2.2.2.2.2.2.2.2.1
theorem dX4_readSamples_54 : decode cX4_readSamples 54 = .ok (.bipush 7, 2) := dq_X4_readSamples_29.2.2.2.2.2.2.2.2.2.2.2.2.2.2.1
theorem dX4_readSamples_56 : decode cX4_readSamples 56 = .ok (.if_icmp .le 11, 3) := dq_X4_readSamples_29.2.2.2.2.2.2.2.2.2.2.2.2.2.2.2
theorem dq_X4_readSamples_59 : (decode cX4_readSamples 59 = .ok (.iload 7, 2)) ∧ (decode cX4_readSamples 61 = .ok (.bipush 16, 2)) ∧ (decode cX4_readSamples 63 = .ok (.isub, 1)) ∧ (decode cX4_readSamples 64 = .ok (.goto 5, 3)) ∧ (decode cX4_readSamples 67 = .ok (.iload 7, 2)) ∧ (decode cX4_readSamples 69 = .ok (.aload_n 0, 1)) ∧ (decode cX4_readSamples 70 = .ok (.iload 5, 2)) ∧ (decode cX4_readSamples 72 = .ok (.bipush 25, 2)) ∧ (decode cX4_readSamples 74 = .ok (.iadd, 1)) ∧ (decode cX4_readSamples 75 = .ok (.invokevirtual 51, 3)) ∧ (decode cX4_readSamples 78 = .ok (.invokevirtual 113, 3)) ∧ (decode cX4_readSamples 81 = .ok (.aload_n 1, 1)) ∧ (decode cX4_readSamples 82 = .ok (.iload 4, 2)) ∧ (decode cX4_readSamples 84 = .ok (.invokevirtual 116, 3)) ∧ (decode cX4_readSamples 87 = .ok (.astore 8, 2)) ∧ (decode cX4_readSamples 89 = .ok (.aload 8, 2)) := by decide +kernel
theorem dX4_readSamples_59 : decode cX4_readSamples 59 = .ok (.iload 7, 2) := dq_X4_readSamples_59.1
theorem dX4_readSamples_61 : decode cX4_readSamples 61 = .ok (.bipush 16, 2) := dq_X4_readSamples_59.2.1
theorem dX4_readSamples_63 : decode cX4_readSamples 63 = .ok (.isub, 1) := dq_X4_readSamples_59.2.2.1
theorem dX4_readSamples_64 : decode cX4_readSamples 64 = .ok (.goto 5, 3) := dq_X4_readSamples_59.2.2.2.1
theorem dX4_readSamples_67 : decode cX4_readSamples 67 = .ok (.iload 7, 2) := dq_X4_readSamples_59.2.2.2.2.1
theorem dX4_readSamples_69 : decode cX4_readSamples 69 = .ok (.aload_n 0, 1) := dq_X4_readSamples_59.2.2.2.2.2.1
theorem dX4_readSamples_70 : decode cX4_readSamples 70 = .ok (.iload 5, 2) := dq_X4_readSamples_59.2.2.2.2.2.2.1
theorem dX4_readSamples_72 : decode cX4_readSamples 72 = .ok (.bipush 25, 2) := dq_X4_readSamples_59.2.2.2.2.2.2.2.1
theorem dX4_readSamples_74 : decode cX4_readSamples 74 = .ok (.iadd, 1) := dq_X4_readSamples_59.2.2.2.2.2.2.2.2.1
theorem dX4_readSamples_75 : decode cX4_readSamples 75 = .ok (.invokevirtual 51, 3) := dq_X4_readSamples_59.2.2.2.2.2.2.2.2.2.1
theorem dX4_readSamples_78 : decode cX4_readSamples 78 = .ok (.invokevirtual 113, 3) := dq_X4_readSamples_59.2.2.2.2.2.2.2.2.2.2.1
theorem dX4_readSamples_81 : decode cX4_readSamples 81 = .ok (.aload_n 1, 1) := dq_X4_readSamples_59.2.2.2.2.2.2.2.2.2.2.2.1
theorem dX4_readSamples_82 : decode cX4_readSamples 82 = .ok (.iload 4, 2) := dq_X4_readSamples_59.2.2.2.2.2.2.2.2.2.2.2.2.1
theorem dX4_readSamples_84 : decode cX4_readSamples 84 = .ok (.invokevirtual 116, 3) := dq_X4_readSamples_59.2.2.2.2.2.2.2.2.2.2.2.2.2.1
theorem dX4_readSamples_87 : decode cX4_readSamples 87 = .ok (.astore 8, 2) := dq_X4_readSamples_59.2.2.2.2.2.2.2.2.2.2.2.2.2.2.1
theorem dX4_readSamples_89 : decode cX4_readSamples 89 = .ok (.aload 8, 2) := dq_X4_readSamples_59.2.2.2.2.2.2.2.2.2.2.2.2.2.2.2
theorem dq_X4_readSamples_91 : (decode cX4_readSamples 91 = .ok (.iconst 2, 1)) ∧ (decode cX4_readSamples 92 = .ok (.aload_n 0, 1)) ∧ (decode cX4_readSamples 93 = .ok (.iload 5, 2)) ∧ (decode cX4_readSamples 95 = .ok (.bipush 26, 2)) ∧ (decode cX4_readSamples 97 = .ok (.iadd, 1)) ∧ (decode cX4_readSamples 98 = .ok (.invokevirtual 60, 3)) ∧ (decode cX4_readSamples 101 = .ok (.imul, 1)) ∧ (decode cX4_readSamples 102 = .ok (.putfield 120, 3)) ∧ (decode cX4_readSamples 105 = .ok (.aload 8, 2)) ∧ (decode cX4_readSamples 107 = .ok (.iconst 2, 1)) ∧ (decode cX4_readSamples 108 = .ok (.aload_n 0, 1)) ∧ (decode cX4_readSamples 109 = .ok (.iload 5, 2)) ∧ (decode cX4_readSamples 111 = .ok (.bipush 28, 2)) ∧ (decode cX4_readSamples 113 = .ok (.iadd, 1)) ∧ (decode cX4_readSamples 114 = .ok (.invokevirtual 60, 3)) ∧ (decode cX4_readSamples 117 = .ok (.imul, 1)) := by decide +kernel
theorem dX4_readSamples_91 : decode cX4_readSamples 91 = .ok (.iconst 2, 1) := dq_X4_readSamples_91.1
theorem dX4_readSamples_92 : decode cX4_readSamples 92 = .ok (.aload_n 0, 1) := dq_X4_readSamples_91.2.1
theorem dX4_readSamples_93 : decode cX4_readSamples 93 = .ok (.iload 5, 2) := dq_X4_readSamples_91.2.2.1
theorem dX4_readSamples_95 : decode cX4_readSamples 95 = .ok (.bipush 26, 2) := dq_X4_readSamples_91.2.2.2.1
theorem dX4_readSamples_97 : decode cX4_readSamples 97 = .ok (.iadd, 1) := dq_X4_readSamples_91.2.2.2.2.1
theorem dX4_readSamples_98 : decode cX4_readSamples 98 = .ok (.invokevirtual 60, 3) := dq_X4_readSamples_91.2.2.2.2.2.1
theorem dX4_readSamples_101 : decode cX4_readSamples 101 = .ok (.imul, 1) := dq_X4_readSamples_91.2.2.2.2.2.2.1
theorem dX4_readSamples_102 : decode cX4_readSamples 102 = .ok (.putfield 120, 3) := dq_X4_readSamples_91.2.2.2.2.2.2.2.1
theorem dX4_readSamples_105 : decode cX4_readSamples 105 = .ok (.aload 8, 2) := dq_X4_readSamples_91.2.2.2.2.2.2.2.2.1
theorem dX4_readSamples_107 : decode cX4_readSamples 107 = .ok (.iconst 2, 1) := dq_X4_readSamples_91.2.2.2.2.2.2.2.2.2.1
theorem dX4_readSamples_108 : decode cX4_readSamples 108 = .ok (.aload_n 0, 1) := dq_X4_readSamples_91.2.2.2.2.2.2.2.2.2.2.1
theorem dX4_readSamples_109 : decode cX4_readSamples 109 = .ok (.iload 5, 2) := dq_X4_readSamples_91.2.2.2.2.2.2.2.2.2.2.2.1
theorem dX4_readSamples_111 : decode cX4_readSamples 111 = .ok (.bipush 28, 2) := dq_X4_readSamples_91.2.2.2.2.2.2.2.2.2.2.2.2.1
theorem dX4_readSamples_113 : decode cX4_readSamples 113 = .ok (.iadd, 1) := dq_X4_readSamples_91.2.2.2.2.2.2.2.2.2.2.2.2.2.1
theorem dX4_readSamples_114 : decode cX4_readSamples 114 = .ok (.invokevirtual 60, 3) := dq_X4_readSamples_91.2.2.2.2.2.2.2.2.2.2.2.2.2.2.1
theorem dX4_readSamples_117 : decode cX4_readSamples 117 = .ok (.imul, 1) := dq_X4_readSamples_91.2.2.2.2.2.2.2.2.2.2.2.2.2.2.2
theorem dq_X4_readSamples_118 : (decode cX4_readSamples 118 = .ok (.putfield 123, 3)) ∧ (decode cX4_readSamples 121 = .ok (.iconst 0, 1)) ∧ (decode cX4_readSamples 122 = .ok (.istore 9, 2)) ∧ (decode cX4_readSamples 124 = .ok (.iload 9, 2)) ∧ (decode cX4_readSamples 126 = .ok (.iload 6, 2)) ∧ (decode cX4_readSamples 128 = .ok (.if_icmp .ge 25, 3)) ∧ (decode cX4_readSamples 131 = .ok (.aload_n 1, 1)) ∧ (decode cX4_readSamples 132 = .ok (.aload 8, 2)) ∧ (decode cX4_readSamples 134 = .ok (.iload 9, 2)) ∧ (decode cX4_readSamples 136 = .ok (.aload_n 0, 1)) ∧ (decode cX4_readSamples 137 = .ok (.iload_n 3, 1)) ∧ (decode cX4_readSamples 138 = .ok (.iload 9, 2)) ∧ (decode cX4_readSamples 140 = .ok (.iadd, 1)) ∧ (decode cX4_readSamples 141 = .ok (.invokevirtual 51, 3)) ∧ (decode cX4_readSamples 144 = .ok (.invokevirtual 126, 3)) ∧ (decode cX4_readSamples 147 = .ok (.iinc 9 1, 3)) := by decide +kernel
theorem dX4_readSamples_118 : decode cX4_readSamples 118 = .ok (.putfield 123, 3) := dq_X4_readSamples_118.1
theorem dX4_readSamples_121 : decode cX4_readSamples 121 = .ok (.iconst 0, 1) := dq_X4_readSamples_118.2.1
theorem dX4_readSamples_122 : decode cX4_readSamples 122 = .ok (.istore 9, 2) := dq_X4_readSamples_118.2.2.1
theorem dX4_readSamples_124 : decode cX4_readSamples 124 = .ok (.iload 9, 2) := dq_X4_readSamples_118.2.2.2.1
theorem dX4_readSamples_126 : decode cX4_readSamples 126 = .ok (.iload 6, 2) := dq_X4_readSamples_118.2.2.2.2.1
theorem dX4_readSamples_128 : decode cX4_readSamples 128 = .ok (.if_icmp .ge 25, 3) := dq_X4_readSamples_118.2.2.2.2.2.1
theorem dX4_readSamples_131 : decode cX4_readSamples 131 = .ok (.aload_n 1, 1) := dq_X4_readSamples_118.2.2.2.2.2.2.1
theorem dX4_readSamples_132 : decode cX4_readSamples 132 = .ok (.aload 8, 2) := dq_X4_readSamples_118.2.2.2.2.2.2.2.1
theorem dX4_readSamples_134 : decode cX4_readSamples 134 = .ok (.iload 9, 2) := dq_X4_readSamples_118.2.2.2.2.2.2.2.2.1
theorem dX4_readSamples_136 : decode cX4_readSamples 136 = .ok (.aload_n 0, 1) := dq_X4_readSamples_118.2.2.2.2.2.2.2.2.2.1
theorem dX4_readSamples_137 : decode cX4_readSamples 137 = .ok (.iload_n 3, 1) := dq_X4_readSamples_118.2.2.2.2.2.2.2.2.2.2.1
theorem dX4_readSamples_138 : decode cX4_readSamples 138 = .ok (.iload 9, 2) := dq_X4_readSamples_118.2.2.2.2.2.2.2.2.2.2.2.1
theorem dX4_readSamples_140 : decode cX4_readSamples 140 = .ok (.iadd, 1) := dq_X4_readSamples_118.2.2.2.2.2.2.2.2.2.2.2.2.1
theorem dX4_readSamples_141 : decode cX4_readSamples 141 = .ok (.invokevirtual 51, 3) := dq_X4_readSamples_118.2.2.2.2.2.2.2.2.2.2.2.2.2.1
theorem dX4_readSamples_144 : decode cX4_readSamples 144 = .ok (.invokevirtual 126, 3) := dq_X4_readSamples_118.2.2.2.2.2.2.2.2.2.2.2.2.2.2.1
theorem dX4_readSamples_147 : decode cX4_readSamples 147 = .ok (.iinc 9 1, 3) := dq_X4_readSamples_118.2.2.2.2.2.2.2.2.2.2.2.2.2.2.2
theorem dq_X4_readSamples_150 : (decode cX4_readSamples 150 = .ok (.goto (-26), 3)) ∧ (decode cX4_readSamples 153 = .ok (.iload_n 3, 1)) ∧ (decode cX4_readSamples 154 = .ok (.iload 6, 2)) ∧ (decode cX4_readSamples 156 = .ok (.iadd, 1)) ∧ (decode cX4_readSamples 157 = .ok (.istore_n 3, 1)) ∧ (decode cX4_readSamples 158 = .ok (.iinc 4 1, 3)) ∧ (decode cX4_readSamples 161 = .ok (.goto (-152), 3)) ∧ (decode cX4_readSamples 164 = .ok (.return_, 1)) := by decide +kernel
theorem dX4_readSamples_150 : decode cX4_readSamples 150 = .ok (.goto (-26), 3) := dq_X4_readSamples_150.1
theorem dX4_readSamples_153 : decode cX4_readSamples 153 = .ok (.iload_n 3, 1) := dq_X4_readSamples_150.2.1
theorem dX4_readSamples_154 : decode cX4_readSamples 154 = .ok (.iload 6, 2) := dq_X4_readSamples_150.2.2.1
theorem dX4_readSamples_156 : decode cX4_readSamples 156 = .ok (.iadd, 1) := dq_X4_readSamples_150.2.2.2.1
theorem dX4_readSamples_157 : decode cX4_readSamples 157 = .ok (.istore_n 3, 1) := dq_X4_readSamples_150.2.2.2.2.1
theorem dX4_readSamples_158 : decode cX4_readSamples 158 = .ok (.iinc 4 1, 3) := dq_X4_readSamples_150.2.2.2.2.2.1
theorem dX4_readSamples_161 : decode cX4_readSamples 161 = .ok (.goto (-152), 3) := dq_X4_readSamples_150.2.2.2.2.2.2.1
theorem dX4_readSamples_164 : decode cX4_readSamples 164 = .ok (.return_, 1) := dq_X4_readSamples_150.2.2.2.2.2.2.2
theorem dq_X5_init_0 : (decode cX5_init 0 = .ok (.aload_n 0, 1)) ∧ (decode cX5_init 1 = .ok (.invokespecial 1, 3)) ∧ (decode cX5_init 4 = .ok (.return_, 1)) := by decide +kernel
theorem dX5_init_0 : decode cX5_init 0 = .ok (.aload_n 0, 1) := dq_X5_init_0.1
theorem dX5_init_1 : decode cX5_init 1 = .ok (.invokespecial 1, 3) := dq_X5_init_0.2.1
theorem dX5_init_4 : decode cX5_init 4 = .ok (.return_, 1) := dq_X5_init_0.2.2
theorem dq_X5_loopFits_0 : (decode cX5_loopFits 0 = .ok (.iload_n 1, 1)) ∧ (decode cX5_loopFits 1 = .ok (.ifCond .lt 19, 3)) ∧ (decode cX5_loopFits 4 = .ok (.iload_n 2, 1)) ∧ (decode cX5_loopFits 5 = .ok (.ifCond .lt 15, 3)) ∧ (decode cX5_loopFits 8 = .ok (.iload_n 1, 1)) ∧ (decode cX5_loopFits 9 = .ok (.iconst 2, 1)) ∧ (decode cX5_loopFits 10 = .ok (.irem, 1)) ∧ (decode cX5_loopFits 11 = .ok (.ifCond .ne 9, 3)) ∧ (decode cX5_loopFits 14 = .ok (.iload_n 2, 1)) ∧ (decode cX5_loopFits 15 = .ok (.iconst 2, 1)) ∧ (decode cX5_loopFits 16 = .ok (.irem, 1)) ∧ (decode cX5_loopFits 17 = .ok (.ifCond .eq 5, 3)) ∧ (decode cX5_loopFits 20 = .ok (.iconst 0, 1)) ∧ (decode cX5_loopFits 21 = .ok (.ireturn, 1)) ∧ (decode cX5_loopFits 22 = .ok (.iload_n 2, 1)) ∧ (decode cX5_loopFits 23 = .ok (.invokestatic 7, 3)) := by decide +kernel
theorem dX5_loopFits_0 : decode cX5_loopFits 0 = .ok (.iload_n 1, 1) := dq_X5_loopFits_0.1
theorem dX5_loopFits_1 : decode cX5_loopFits 1 = .ok (.ifCond .lt 19, 3) := dq_X5_loopFits_0.2.1
theorem dX5_loopFits_4 : decode cX5_loopFits 4 = .ok (.iload_n 2, 1) := dq_X5_loopFits_0.2.2.1
theorem dX5_loopFits_5 : decode cX5_loopFits 5 = .ok (.ifCond .lt 15, 3) := dq_X5_loopFits_0.2.2.2.1
theorem dX5_loopFits_8 : decode cX5_loopFits 8 = .ok (.iload_n 1, 1) := dq_X5_loopFits_0.2.2.2.2.1
theorem dX5_loopFits_9 : decode cX5_loopFits 9 = .ok (.iconst 2, 1) := dq_X5_loopFits_0.2.2.2.2.2.1
theorem dX5_loopFits_10 : decode cX5_loopFits 10 = .ok (.irem, 1) := dq_X5_loopFits_0.2.2.2.2.2.2.1
theorem dX5_loopFits_11 : decode cX5_loopFits 11 = .ok (.ifCond .ne 9, 3) := dq_X5_loopFits_0.2.2.2.2.2.2.2.1
theorem dX5_loopFits_14 : decode cX5_loopFits 14 = .ok (.iload_n 2, 1) := dq_X5_loopFits_0.2.2.2.2.2.2.2.2.1
theorem dX5_loopFits_15 : decode cX5_loopFits 15 = .ok (.iconst 2, 1) := dq_X5_loopFits_0.2.2.2.2.2.2.2.2.2.1
theorem dX5_loopFits_16 : decode cX5_loopFits 16 = .ok (.irem, 1) := dq_X5_loopFits_0.2.2.2.2.2.2.2.2.2.2.1
theorem dX5_loopFits_17 : decode cX5_loopFits 17 = .ok (.ifCond .eq 5, 3) := dq_X5_loopFits_0.2.2.2.2.2.2.2.2.2.2.2.1
theorem dX5_loopFits_20 : decode cX5_loopFits 20 = .ok (.iconst 0, 1) := dq_X5_loopFits_0.2.2.2.2.2.2.2.2.2.2.2.2.1
theorem dX5_loopFits_21 : decode cX5_loopFits 21 = .ok (.ireturn, 1) := dq_X5_loopFits_0.2.2.2.2.2.2.2.2.2.2.2.2.2.1
theorem dX5_loopFits_22 : decode cX5_loopFits 22 = .ok (.iload_n 2, 1) := dq_X5_loopFits_0.2.2.2.2.2.2.2.2.2.2.2.2.2.2.1
theorem dX5_loopFits_23 : decode cX5_loopFits 23 = .ok (.invokestatic 7, 3) := dq_X5_loopFits_0.2.2.2.2.2.2.2.2.2.2.2.2.2.2.2
theorem dq_X5_loopFits_26 : (decode cX5_loopFits 26 = .ok (.ifCond .eq 11, 3)) ∧ (decode cX5_loopFits 29 = .ok (.iload_n 1, 1)) ∧ (decode cX5_loopFits 30 = .ok (.i2l, 1)) ∧ (decode cX5_loopFits 31 = .ok (.iload_n 2, 1)) ∧ (decode cX5_loopFits 32 = .ok (.i2l, 1)) ∧ (decode cX5_loopFits 33 = .ok (.ladd, 1)) ∧ (decode cX5_loopFits 34 = .ok (.goto 5, 3)) ∧ (decode cX5_loopFits 37 = .ok (.iload_n 1, 1)) ∧ (decode cX5_loopFits 38 = .ok (.i2l, 1)) ∧ (decode cX5_loopFits 39 = .ok (.lstore_n 3, 1)) ∧ (decode cX5_loopFits 40 = .ok (.lload_n 3, 1)) ∧ (decode cX5_loopFits 41 = .ok (.iload_n 0, 1)) ∧ (decode cX5_loopFits 42 = .ok (.i2l, 1)) ∧ (decode cX5_loopFits 43 = .ok (.lcmp, 1)) ∧ (decode cX5_loopFits 44 = .ok (.ifCond .gt 7, 3)) ∧ (decode cX5_loopFits 47 = .ok (.iconst 1, 1)) := by decide +kernel
theorem dX5_loopFits_26 : decode cX5_loopFits 26 = .ok (.ifCond .eq 11, 3) := dq_X5_loopFits_26.1
theorem dX5_loopFits_29 : decode cX5_loopFits 29 = .ok (.iload_n 1, 1) := dq_X5_loopFits_26.2.1
theorem dX5_loopFits_30 : decode cX5_loopFits 30 = .ok (.i2l, 1) := dq_X5_loopFits_26.2.2.1
theorem dX5_loopFits_31 : decode cX5_loopFits 31 = .ok (.iload_n 2, 1) := dq_X5_loopFits_26.2.2.2.1
theorem dX5_loopFits_32 : decode cX5_loopFits 32 = .ok (.i2l, 1) := dq_X5_loopFits_26.2.2.2.2.1
theorem dX5_loopFits_33 : decode cX5_loopFits 33 = .ok (.ladd, 1) := dq_X5_loopFits_26.2.2.2.2.2.1
theorem dX5_loopFits_34 : decode cX5_loopFits 34 = .ok (.goto 5, 3) := dq_X5_loopFits_26.2.2.2.2.2.2.1
theorem dX5_loopFits_37 : decode cX5_loopFits 37 = .ok (.iload_n 1, 1) := dq_X5_loopFits_26.2.2.2.2.2.2.2.1
theorem dX5_loopFits_38 : decode cX5_loopFits 38 = .ok (.i2l, 1) := dq_X5_loopFits_26.2.2.2.2.2.2.2.2.1
theorem dX5_loopFits_39 : decode cX5_loopFits 39 = .ok (.lstore_n 3, 1) := dq_X5_loopFits_26.2.2.2.2.2.2.2.2.2.1
theorem dX5_loopFits_40 : decode cX5_loopFits 40 = .ok (.lload_n 3, 1) := dq_X5_loopFits_26.2.2.2.2.2.2.2.2.2.2.1
theorem dX5_loopFits_41 : decode cX5_loopFits 41 = .ok (.iload_n 0, 1) := dq_X5_loopFits_26.2.2.2.2.2.2.2.2.2.2.2.1
theorem dX5_loopFits_42 : decode cX5_loopFits 42 = .ok (.i2l, 1) := dq_X5_loopFits_26.2.2.2.2.2.2.2.2.2.2.2.2.1
theorem dX5_loopFits_43 : decode cX5_loopFits 43 = .ok (.lcmp, 1) := dq_X5_loopFits_26.2.2.2.2.2.2.2.2.2.2.2.2.2.1
theorem dX5_loopFits_44 : decode cX5_loopFits 44 = .ok (.ifCond .gt 7, 3) := dq_X5_loopFits_26.2.2.2.2.2.2.2.2.2.2.2.2.2.2.1
theorem dX5_loopFits_47 : decode cX5_loopFits 47 = .ok (.iconst 1, 1) := dq_X5_loopFits_26.2.2.2.2.2.2.2.2.2.2.2.2.2.2.2
theorem dq_X5_loopFits_48 : (decode cX5_loopFits 48 = .ok (.goto 4, 3)) ∧ (decode cX5_loopFits 51 = .ok (.iconst 0, 1)) ∧ (decode cX5_loopFits 52 = .ok (.ireturn, 1)) := by decide +kernel
theorem dX5_loopFits_48 : decode cX5_loopFits 48 = .ok (.goto 4, 3) := dq_X5_loopFits_48.1
theorem dX5_loopFits_51 : decode cX5_loopFits 51 = .ok (.iconst 0, 1) := dq_X5_loopFits_48.2.1
theorem dX5_loopFits_52 : decode cX5_loopFits 52 = .ok (.ireturn, 1) := dq_X5_loopFits_48.2.2
theorem dq_X5_loops_0 : (decode cX5_loops 0 = .ok (.iload_n 0, 1)) ∧ (decode cX5_loops 1 = .ok (.iconst 2, 1)) ∧ (decode cX5_loops 2 = .ok (.if_icmp .le 7, 3)) ∧ (decode cX5_loops 5 = .ok (.iconst 1, 1)) ∧ (decode cX5_loops 6 = .ok (.goto 4, 3)) ∧ (decode cX5_loops 9 = .ok (.iconst 0, 1)) ∧ (decode cX5_loops 10 = .ok (.ireturn, 1)) := by decide +kernel
theorem dX5_loops_0 : decode cX5_loops 0 = .ok (.iload_n 0, 1) := dq_X5_loops_0.1
theorem dX5_loops_1 : decode cX5_loops 1 = .ok (.iconst 2, 1) := dq_X5_loops_0.2.1
theorem dX5_loops_2 : decode cX5_loops 2 = .ok (.if_icmp .le 7, 3) := dq_X5_loops_0.2.2.1
theorem dX5_loops_5 : decode cX5_loops 5 = .ok (.iconst 1, 1) := dq_X5_loops_0.2.2.2.1
theorem dX5_loops_6 : decode cX5_loops 6 = .ok (.goto 4, 3) := dq_X5_loops_0.2.2.2.2.1
theorem dX5_loops_9 : decode cX5_loops 9 = .ok (.iconst 0, 1) := dq_X5_loops_0.2.2.2.2.2.1
theorem dX5_loops_10 : decode cX5_loops 10 = .ok (.ireturn, 1) := dq_X5_loops_0.2.2.2.2.2.2
theorem dq_X6_init_0 : (decode cX6_init 0 = .ok (.aload_n 0, 1)) ∧ (decode cX6_init 1 = .ok (.invokespecial 3, 3)) ∧ (decode cX6_init 4 = .ok (.aload_n 0, 1)) ∧ (decode cX6_init 5 = .ok (.sipush 2048, 3)) ∧ (decode cX6_init 8 = .ok (.newarray .int, 2)) ∧ (decode cX6_init 10 = .ok (.putfield 9, 3)) ∧ (decode cX6_init 13 = .ok (.aload_n 0, 1)) ∧ (decode cX6_init 14 = .ok (.sipush 128, 3)) ∧ (decode cX6_init 17 = .ok (.newarray .int, 2)) ∧ (decode cX6_init 19 = .ok (.putfield 15, 3)) ∧ (decode cX6_init 22 = .ok (.aload_n 0, 1)) ∧ (decode cX6_init 23 = .ok (.iconst 1, 1)) ∧ (decode cX6_init 24 = .ok (.putfield 18, 3)) ∧ (decode cX6_init 27 = .ok (.return_, 1)) := by decide +kernel
theorem dX6_init_0 : decode cX6_init 0 = .ok (.aload_n 0, 1) := dq_X6_init_0.1
theorem dX6_init_1 : decode cX6_init 1 = .ok (.invokespecial 3, 3) := dq_X6_init_0.2.1
theorem dX6_init_4 : decode cX6_init 4 = .ok (.aload_n 0, 1) := dq_X6_init_0.2.2.1
theorem dX6_init_5 : decode cX6_init 5 = .ok (.sipush 2048, 3) := dq_X6_init_0.2.2.2.1
theorem dX6_init_8 : decode cX6_init 8 = .ok (.newarray .int, 2) := dq_X6_init_0.2.2.2.2.1
theorem dX6_init_10 : decode cX6_init 10 = .ok (.putfield 9, 3) := dq_X6_init_0.2.2.2.2.2.1
theorem dX6_init_13 : decode cX6_init 13 = .ok (.aload_n 0, 1) := dq_X6_init_0.2.2.2.2.2.2.1
theorem dX6_init_14 : decode cX6_init 14 = .ok (.sipush 128, 3) := dq_X6_init_0.2.2.2.2.2.2.2.1
theorem dX6_init_17 : decode cX6_init 17 = .ok (.newarray .int, 2) := dq_X6_init_0.2.2.2.2.2.2.2.2.1
theorem dX6_init_19 : decode cX6_init 19 = .ok (.putfield 15, 3) := dq_X6_init_0.2.2.2.2.2.2.2.2.2.1
theorem dX6_init_22 : decode cX6_init 22 = .ok (.aload_n 0, 1) := dq_X6_init_0.2.2.2.2.2.2.2.2.2.2.1
theorem dX6_init_23 : decode cX6_init 23 = .ok (.iconst 1, 1) := dq_X6_init_0.2.2.2.2.2.2.2.2.2.2.2.1
theorem dX6_init_24 : decode cX6_init 24 = .ok (.putfield 18, 3) := dq_X6_init_0.2.2.2.2.2.2.2.2.2.2.2.2.1
theorem dX6_init_27 : decode cX6_init 27 = .ok (.return_, 1) := dq_X6_init_0.2.2.2.2.2.2.2.2.2.2.2.2.2
theorem dq_X6_hasCell_0 : (decode cX6_hasCell 0 = .ok (.iload_n 0, 1)) ∧ (decode cX6_hasCell 1 = .ok (.bipush 8, 2)) ∧ (decode cX6_hasCell 3 = .ok (.invokestatic 22, 3)) ∧ (decode cX6_hasCell 6 = .ok (.ifCond .eq 24, 3)) ∧ (decode cX6_hasCell 9 = .ok (.iload_n 1, 1)) ∧ (decode cX6_hasCell 10 = .ok (.bipush 64, 2)) ∧ (decode cX6_hasCell 12 = .ok (.invokestatic 22, 3)) ∧ (decode cX6_hasCell 15 = .ok (.ifCond .eq 15, 3)) ∧ (decode cX6_hasCell 18 = .ok (.iload_n 2, 1)) ∧ (decode cX6_hasCell 19 = .ok (.iconst 4, 1)) ∧ (decode cX6_hasCell 20 = .ok (.invokestatic 22, 3)) ∧ (decode cX6_hasCell 23 = .ok (.ifCond .eq 7, 3)) ∧ (decode cX6_hasCell 26 = .ok (.iconst 1, 1)) ∧ (decode cX6_hasCell 27 = .ok (.goto 4, 3)) ∧ (decode cX6_hasCell 30 = .ok (.iconst 0, 1)) ∧ (decode cX6_hasCell 31 = .ok (.ireturn, 1)) := by decide +kernel
theorem dX6_hasCell_0 : decode cX6_hasCell 0 = .ok (.iload_n 0, 1) := dq_X6_hasCell_0.1
theorem dX6_hasCell_1 : decode cX6_hasCell 1 = .ok (.bipush 8, 2) := dq_X6_hasCell_0.2.1
theorem dX6_hasCell_3 : decode cX6_hasCell 3 = .ok (.invokestatic 22, 3) := dq_X6_hasCell_0.2.2.1
theorem dX6_hasCell_6 : decode cX6_hasCell 6 = .ok (.ifCond .eq 24, 3) := dq_X6_hasCell_0.2.2.2.1
theorem dX6_hasCell_9 : decode cX6_hasCell 9 = .ok (.iload_n 1, 1) := dq_X6_hasCell_0.2.2.2.2.1
theorem dX6_hasCell_10 : decode cX6_hasCell 10 = .ok (.bipush 64, 2) := dq_X6_hasCell_0.2.2.2.2.2.1
theorem dX6_hasCell_12 : decode cX6_hasCell 12 = .ok (.invokestatic 22, 3) := dq_X6_hasCell_0.2.2.2.2.2.2.1
theorem dX6_hasCell_15 : decode cX6_hasCell 15 = .ok (.ifCond .eq 15, 3) := dq_X6_hasCell_0.2.2.2.2.2.2.2.1
theorem dX6_hasCell_18 : decode cX6_hasCell 18 = .ok (.iload_n 2, 1) := dq_X6_hasCell_0.2.2.2.2.2.2.2.2.1
theorem dX6_hasCell_19 : decode cX6_hasCell 19 = .ok (.iconst 4, 1) := dq_X6_hasCell_0.2.2.2.2.2.2.2.2.2.1
theorem dX6_hasCell_20 : decode cX6_hasCell 20 = .ok (.invokestatic 22, 3) := dq_X6_hasCell_0.2.2.2.2.2.2.2.2.2.2.1
theorem dX6_hasCell_23 : decode cX6_hasCell 23 = .ok (.ifCond .eq 7, 3) := dq_X6_hasCell_0.2.2.2.2.2.2.2.2.2.2.2.1
theorem dX6_hasCell_26 : decode cX6_hasCell 26 = .ok (.iconst 1, 1) := dq_X6_hasCell_0.2.2.2.2.2.2.2.2.2.2.2.2.1
theorem dX6_hasCell_27 : decode cX6_hasCell 27 = .ok (.goto 4, 3) := dq_X6_hasCell_0.2.2.2.2.2.2.2.2.2.2.2.2.2.1
theorem dX6_hasCell_30 : decode cX6_hasCell 30 = .ok (.iconst 0, 1) := dq_X6_hasCell_0.2.2.2.2.2.2.2.2.2.2.2.2.2.2.1
theorem dX6_hasCell_31 : decode cX6_hasCell 31 = .ok (.ireturn, 1) := dq_X6_hasCell_0.2.2.2.2.2.2.2.2.2.2.2.2.2.2.2
theorem dq_X6_getCell_0 : (decode cX6_getCell 0 = .ok (.iload_n 1, 1)) ∧ (decode cX6_getCell 1 = .ok (.iload_n 2, 1)) ∧ (decode cX6_getCell 2 = .ok (.iload_n 3, 1)) ∧ (decode cX6_getCell 3 = .ok (.invokestatic 26, 3)) ∧ (decode cX6_getCell 6 = .ok (.ifCond .eq 17, 3)) ∧ (decode cX6_getCell 9 = .ok (.aload_n 0, 1)) ∧ (decode cX6_getCell 10 = .ok (.getfield 9, 3)) ∧ (decode cX6_getCell 13 = .ok (.iload_n 1, 1)) ∧ (decode cX6_getCell 14 = .ok (.iload_n 2, 1)) ∧ (decode cX6_getCell 15 = .ok (.iload_n 3, 1)) ∧ (decode cX6_getCell 16 = .ok (.invokestatic 30, 3)) ∧ (decode cX6_getCell 19 = .ok (.iaload, 1)) ∧ (decode cX6_getCell 20 = .ok (.goto 4, 3)) ∧ (decode cX6_getCell 23 = .ok (.iconst 0, 1)) ∧ (decode cX6_getCell 24 = .ok (.ireturn, 1)) := by decide +kernel
theorem dX6_getCell_0 : decode cX6_getCell 0 = .ok (.iload_n 1, 1) := dq_X6_getCell_0.1
theorem dX6_getCell_1 : decode cX6_getCell 1 = .ok (.iload_n 2, 1) := dq_X6_getCell_0.2.1
theorem dX6_getCell_2 : decode cX6_getCell 2 = .ok (.iload_n 3, 1) := dq_X6_getCell_0.2.2.1
theorem dX6_getCell_3 : decode cX6_getCell 3 = .ok (.invokestatic 26, 3) := dq_X6_getCell_0.2.2.2.1
theorem dX6_getCell_6 : decode cX6_getCell 6 = .ok (.ifCond .eq 17, 3) := dq_X6_getCell_0.2.2.2.2.1
theorem dX6_getCell_9 : decode cX6_getCell 9 = .ok (.aload_n 0, 1) := dq_X6_getCell_0.2.2.2.2.2.1
theorem dX6_getCell_10 : decode cX6_getCell 10 = .ok (.getfield 9, 3) := dq_X6_getCell_0.2.2.2.2.2.2.1
theorem dX6_getCell_13 : decode cX6_getCell 13 = .ok (.iload_n 1, 1) := dq_X6_getCell_0.2.2.2.2.2.2.2.1
theorem dX6_getCell_14 : decode cX6_getCell 14 = .ok (.iload_n 2, 1) := dq_X6_getCell_0.2.2.2.2.2.2.2.2.1
theorem dX6_getCell_15 : decode cX6_getCell 15 = .ok (.iload_n 3, 1) := dq_X6_getCell_0.2.2.2.2.2.2.2.2.2.1
theorem dX6_getCell_16 : decode cX6_getCell 16 = .ok (.invokestatic 30, 3) := dq_X6_getCell_0.2.2.2.2.2.2.2.2.2.2.1
theorem dX6_getCell_19 : decode cX6_getCell 19 = .ok (.iaload, 1) := dq_X6_getCell_0.2.2.2.2.2.2.2.2.2.2.2.1
theorem dX6_getCell_20 : decode cX6_getCell 20 = .ok (.goto 4, 3) := dq_X6_getCell_0.2.2.2.2.2.2.2.2.2.2.2.2.1
theorem dX6_getCell_23 : decode cX6_getCell 23 = .ok (.iconst 0, 1) := dq_X6_getCell_0.2.2.2.2.2.2.2.2.2.2.2.2.2.1
theorem dX6_getCell_24 : decode cX6_getCell 24 = .ok (.ireturn, 1) := dq_X6_getCell_0.2.2.2.2.2.2.2.2.2.2.2.2.2.2
theorem dq_X6_putCell_0 : (decode cX6_putCell 0 = .ok (.iload_n 1, 1)) ∧ (decode cX6_putCell 1 = .ok (.iload_n 2, 1)) ∧ (decode cX6_putCell 2 = .ok (.iload_n 3, 1)) ∧ (decode cX6_putCell 3 = .ok (.invokestatic 26, 3)) ∧ (decode cX6_putCell 6 = .ok (.ifCond .eq 16, 3)) ∧ (decode cX6_putCell 9 = .ok (.aload_n 0, 1)) ∧ (decode cX6_putCell 10 = .ok (.getfield 9, 3)) ∧ (decode cX6_putCell 13 = .ok (.iload_n 1, 1)) ∧ (decode cX6_putCell 14 = .ok (.iload_n 2, 1)) ∧ (decode cX6_putCell 15 = .ok (.iload_n 3, 1)) ∧ (decode cX6_putCell 16 = .ok (.invokestatic 30, 3)) ∧ (decode cX6_putCell 19 = .ok (.iload 4, 2)) ∧ (decode cX6_putCell 21 = .ok (.iastore, 1)) ∧ (decode cX6_putCell 22 = .ok (.return_, 1)) := by decide +kernel
theorem dX6_putCell_0 : decode cX6_putCell 0 = .ok (.iload_n 1, 1) := dq_X6_putCell_0.1
theorem dX6_putCell_1 : decode cX6_putCell 1 = .ok (.iload_n 2, 1) := dq_X6_putCell_0.2.1
theorem dX6_putCell_2 : decode cX6_putCell 2 = .ok (.iload_n 3, 1) := dq_X6_putCell_0.2.2.1
theorem dX6_putCell_3 : decode cX6_putCell 3 = .ok (.invokestatic 26, 3) := dq_X6_putCell_0.2.2.2.1
theorem dX6_putCell_6 : decode cX6_putCell 6 = .ok (.ifCond .eq 16, 3) := dq_X6_putCell_0.2.2.2.2.1
theorem dX6_putCell_9 : decode cX6_putCell 9 = .ok (.aload_n 0, 1) := dq_X6_putCell_0.2.2.2.2.2.1
theorem dX6_putCell_10 : decode cX6_putCell 10 = .ok (.getfield 9, 3) := dq_X6_putCell_0.2.2.2.2.2.2.1
theorem dX6_putCell_13 : decode cX6_putCell 13 = .ok (.iload_n 1, 1) := dq_X6_putCell_0.2.2.2.2.2.2.2.1
theorem dX6_putCell_14 : decode cX6_putCell 14 = .ok (.iload_n 2, 1) := dq_X6_putCell_0.2.2.2.2.2.2.2.2.1
theorem dX6_putCell_15 : decode cX6_putCell 15 = .ok (.iload_n 3, 1) := dq_X6_putCell_0.2.2.2.2.2.2.2.2.2.1
theorem dX6_putCell_16 : decode cX6_putCell 16 = .ok (.invokestatic 30, 3) := dq_X6_putCell_0.2.2.2.2.2.2.2.2.2.2.1
theorem dX6_putCell_19 : decode cX6_putCell 19 = .ok (.iload 4, 2) := dq_X6_putCell_0.2.2.2.2.2.2.2.2.2.2.2.1
theorem dX6_putCell_21 : decode cX6_putCell 21 = .ok (.iastore, 1) := dq_X6_putCell_0.2.2.2.2.2.2.2.2.2.2.2.2.1
theorem dX6_putCell_22 : decode cX6_putCell 22 = .ok (.return_, 1) := dq_X6_putCell_0.2.2.2.2.2.2.2.2.2.2.2.2.2
theorem dq_X6_indexOf_0 : (decode cX6_indexOf 0 = .ok (.iload_n 0, 1)) ∧ (decode cX6_indexOf 1 = .ok (.bipush 64, 2)) ∧ (decode cX6_indexOf 3 = .ok (.imul, 1)) ∧ (decode cX6_indexOf 4 = .ok (.iload_n 1, 1)) ∧ (decode cX6_indexOf 5 = .ok (.iadd, 1)) ∧ (decode cX6_indexOf 6 = .ok (.iconst 4, 1)) ∧ (decode cX6_indexOf 7 = .ok (.imul, 1)) ∧ (decode cX6_indexOf 8 = .ok (.iload_n 2, 1)) ∧ (decode cX6_indexOf 9 = .ok (.iadd, 1)) ∧ (decode cX6_indexOf 10 = .ok (.ireturn, 1)) := by decide +kernel
theorem dX6_indexOf_0 : decode cX6_indexOf 0 = .ok (.iload_n 0, 1) := dq_X6_indexOf_0.1
theorem dX6_indexOf_1 : decode cX6_indexOf 1 = .ok (.bipush 64, 2) := dq_X6_indexOf_0.2.1
theorem dX6_indexOf_3 : decode cX6_indexOf 3 = .ok (.imul, 1) := dq_X6_indexOf_0.2.2.1
theorem dX6_indexOf_4 : decode cX6_indexOf 4 = .ok (.iload_n 1, 1) := dq_X6_indexOf_0.2.2.2.1
theorem dX6_indexOf_5 : decode cX6_indexOf 5 = .ok (.iadd, 1) := dq_X6_indexOf_0.2.2.2.2.1
theorem dX6_indexOf_6 : decode cX6_indexOf 6 = .ok (.iconst 4, 1) := dq_X6_indexOf_0.2.2.2.2.2.1
theorem dX6_indexOf_7 : decode cX6_indexOf 7 = .ok (.imul, 1) := dq_X6_indexOf_0.2.2.2.2.2.2.1
theorem dX6_indexOf_8 : decode cX6_indexOf 8 = .ok (.iload_n 2, 1) := dq_X6_indexOf_0.2.2.2.2.2.2.2.1
theorem dX6_indexOf_9 : decode cX6_indexOf 9 = .ok (.iadd, 1) := dq_X6_indexOf_0.2.2.2.2.2.2.2.2.1
theorem dX6_indexOf_10 : decode cX6_indexOf 10 = .ok (.ireturn, 1) := dq_X6_indexOf_0.2.2.2.2.2.2.2.2.2
theorem dq_X6_patternAt_0 : (decode cX6_patternAt 0 = .ok (.iload_n 1, 1)) ∧ (decode cX6_patternAt 1 = .ok (.sipush 128, 3)) ∧ (decode cX6_patternAt 4 = .ok (.invokestatic 22, 3)) ∧ (decode cX6_patternAt 7 = .ok (.ifCond .eq 12, 3)) ∧ (decode cX6_patternAt 10 = .ok (.aload_n 0, 1)) ∧ (decode cX6_patternAt 11 = .ok (.getfield 15, 3)) ∧ (decode cX6_patternAt 14 = .ok (.iload_n 1, 1)) ∧ (decode cX6_patternAt 15 = .ok (.iaload, 1)) ∧ (decode cX6_patternAt 16 = .ok (.goto 4, 3)) ∧ (decode cX6_patternAt 19 = .ok (.iconst 0, 1)) ∧ (decode cX6_patternAt 20 = .ok (.ireturn, 1)) := by decide +kernel
theorem dX6_patternAt_0 : decode cX6_patternAt 0 = .ok (.iload_n 1, 1) := dq_X6_patternAt_0.1
theorem dX6_patternAt_1 : decode cX6_patternAt 1 = .ok (.sipush 128, 3) := dq_X6_patternAt_0.2.1
theorem dX6_patternAt_4 : decode cX6_patternAt 4 = .ok (.invokestatic 22, 3) := dq_X6_patternAt_0.2.2.1
theorem dX6_patternAt_7 : decode cX6_patternAt 7 = .ok (.ifCond .eq 12, 3) := dq_X6_patternAt_0.2.2.2.1
theorem dX6_patternAt_10 : decode cX6_patternAt 10 = .ok (.aload_n 0, 1) := dq_X6_patternAt_0.2.2.2.2.1
theorem dX6_patternAt_11 : decode cX6_patternAt 11 = .ok (.getfield 15, 3) := dq_X6_patternAt_0.2.2.2.2.2.1
theorem dX6_patternAt_14 : decode cX6_patternAt 14 = .ok (.iload_n 1, 1) := dq_X6_patternAt_0.2.2.2.2.2.2.1
theorem dX6_patternAt_15 : decode cX6_patternAt 15 = .ok (.iaload, 1) := dq_X6_patternAt_0.2.2.2.2.2.2.2.1
theorem dX6_patternAt_16 : decode cX6_patternAt 16 = .ok (.goto 4, 3) := dq_X6_patternAt_0.2.2.2.2.2.2.2.2.1
theorem dX6_patternAt_19 : decode cX6_patternAt 19 = .ok (.iconst 0, 1) := dq_X6_patternAt_0.2.2.2.2.2.2.2.2.2.1
theorem dX6_patternAt_20 : decode cX6_patternAt 20 = .ok (.ireturn, 1) := dq_X6_patternAt_0.2.2.2.2.2.2.2.2.2.2
theorem dq_X6_countPatterns_0 : (decode cX6_countPatterns 0 = .ok (.iconst 0, 1)) ∧ (decode cX6_countPatterns 1 = .ok (.istore_n 1, 1)) ∧ (decode cX6_countPatterns 2 = .ok (.iconst 0, 1)) ∧ (decode cX6_countPatterns 3 = .ok (.istore_n 2, 1)) ∧ (decode cX6_countPatterns 4 = .ok (.iload_n 2, 1)) ∧ (decode cX6_countPatterns 5 = .ok (.aload_n 0, 1)) ∧ (decode cX6_countPatterns 6 = .ok (.getfield 18, 3)) ∧ (decode cX6_countPatterns 9 = .ok (.if_icmp .ge 27, 3)) ∧ (decode cX6_countPatterns 12 = .ok (.iload_n 2, 1)) ∧ (decode cX6_countPatterns 13 = .ok (.sipush 128, 3)) ∧ (decode cX6_countPatterns 16 = .ok (.if_icmp .ge 20, 3)) ∧ (decode cX6_countPatterns 19 = .ok (.iload_n 1, 1)) ∧ (decode cX6_countPatterns 20 = .ok (.aload_n 0, 1)) ∧ (decode cX6_countPatterns 21 = .ok (.getfield 15, 3)) ∧ (decode cX6_countPatterns 24 = .ok (.iload_n 2, 1)) ∧ (decode cX6_countPatterns 25 = .ok (.iaload, 1)) := by decide +kernel
theorem dX6_countPatterns_0 : decode cX6_countPatterns 0 = .ok (.iconst 0, 1) := dq_X6_countPatterns_0.1
theorem dX6_countPatterns_1 : decode cX6_countPatterns 1 = .ok (.istore_n 1, 1) := dq_X6_countPatterns_0.2.1
theorem dX6_countPatterns_2 : decode cX6_countPatterns 2 = .ok (.iconst 0, 1) := dq_X6_countPatterns_0.2.2.1
theorem dX6_countPatterns_3 : decode cX6_countPatterns 3 = .ok (.istore_n 2, 1) := dq_X6_countPatterns_0.2.2.2.1
theorem dX6_countPatterns_4 : decode cX6_countPatterns 4 = .ok (.iload_n 2, 1) := dq_X6_countPatterns_0.2.2.2.2.1
theorem dX6_countPatterns_5 : decode cX6_countPatterns 5 = .ok (.aload_n 0, 1) := dq_X6_countPatterns_0.2.2.2.2.2.1
theorem dX6_countPatterns_6 : decode cX6_countPatterns 6 = .ok (.getfield 18, 3) := dq_X6_countPatterns_0.2.2.2.2.2.2.1
theorem dX6_countPatterns_9 : decode cX6_countPatterns 9 = .ok (.if_icmp .ge 27, 3) := dq_X6_countPatterns_0.2.2.2.2.2.2.2.1
theorem dX6_countPatterns_12 : decode cX6_countPatterns 12 = .ok (.iload_n 2, 1) := dq_X6_countPatterns_0.2.2.2.2.2.2.2.2.1
theorem dX6_countPatterns_13 : decode cX6_countPatterns 13 = .ok (.sipush 128, 3) := dq_X6_countPatterns_0.2.2.2.2.2.2.2.2.2.1
theorem dX6_countPatterns_16 : decode cX6_countPatterns 16 = .ok (.if_icmp .ge 20, 3) := dq_X6_countPatterns_0.2.2.2.2.2.2.2.2.2.2.1
theorem dX6_countPatterns_19 : decode cX6_countPatterns 19 = .ok (.iload_n 1, 1) := dq_X6_countPatterns_0.2.2.2.2.2.2.2.2.2.2.2.1
theorem dX6_countPatterns_20 : decode cX6_countPatterns 20 = .ok (.aload_n 0, 1) := dq_X6_countPatterns_0.2.2.2.2.2.2.2.2.2.2.2.2.1
theorem dX6_countPatterns_21 : decode cX6_countPatterns 21 = .ok (.getfield 15, 3) := dq_X6_countPatterns_0.2.2.2.2.2.2.2.2.2.2.2.2.2.1
theorem dX6_countPatterns_24 : decode cX6_countPatterns 24 = .ok (.iload_n 2, 1) := dq_X6_countPatterns_0.2.2.2.2.2.2.2.2.2.2.2.2.2.2.1
theorem dX6_countPatterns_25 : decode cX6_countPatterns 25 = .ok (.iaload, 1) := dq_X6_countPatterns_0.2.2.2.2.2.2.2.2.2.2.2.2.2.2.2
theorem dq_X6_countPatterns_26 : (decode cX6_countPatterns 26 = .ok (.invokestatic 34, 3)) ∧ (decode cX6_countPatterns 29 = .ok (.istore_n 1, 1)) ∧ (decode cX6_countPatterns 30 = .ok (.iinc 2 1, 3)) ∧ (decode cX6_countPatterns 33 = .ok (.goto (-29), 3)) ∧ (decode cX6_countPatterns 36 = .ok (.iload_n 1, 1)) ∧ (decode cX6_countPatterns 37 = .ok (.iconst 1, 1)) ∧ (decode cX6_countPatterns 38 = .ok (.iadd, 1)) ∧ (decode cX6_countPatterns 39 = .ok (.ireturn, 1)) := by decide +kernel
theorem dX6_countPatterns_26 : decode cX6_countPatterns 26 = .ok (.invokestatic 34, 3) := dq_X6_countPatterns_26.1
theorem dX6_countPatterns_29 : decode cX6_countPatterns 29 = .ok (.istore_n 1, 1) := dq_X6_countPatterns_26.2.1
theorem dX6_countPatterns_30 : decode cX6_countPatterns 30 = .ok (.iinc 2 1, 3) := dq_X6_countPatterns_26.2.2.1
theorem dX6_countPatterns_33 : decode cX6_countPatterns 33 = .ok (.goto (-29), 3) := dq_X6_countPatterns_26.2.2.2.1
theorem dX6_countPatterns_36 : decode cX6_countPatterns 36 = .ok (.iload_n 1, 1) := dq_X6_countPatterns_26.2.2.2.2.1
theorem dX6_countPatterns_37 : decode cX6_countPatterns 37 = .ok (.iconst 1, 1) := dq_X6_countPatterns_26.2.2.2.2.2.1
theorem dX6_countPatterns_38 : decode cX6_countPatterns 38 = .ok (.iadd, 1) := dq_X6_countPatterns_26.2.2.2.2.2.2.1
theorem dX6_countPatterns_39 : decode cX6_countPatterns 39 = .ok (.ireturn, 1) := dq_X6_countPatterns_26.2.2.2.2.2.2.2
theorem dq_X6_clear_0 : (decode cX6_clear 0 = .ok (.aload_n 0, 1)) ∧ (decode cX6_clear 1 = .ok (.getfield 9, 3)) ∧ (decode cX6_clear 4 = .ok (.iconst 0, 1)) ∧ (decode cX6_clear 5 = .ok (.invokestatic 40, 3)) ∧ (decode cX6_clear 8 = .ok (.aload_n 0, 1)) ∧ (decode cX6_clear 9 = .ok (.getfield 15, 3)) ∧ (decode cX6_clear 12 = .ok (.iconst 0, 1)) ∧ (decode cX6_clear 13 = .ok (.invokestatic 40, 3)) ∧ (decode cX6_clear 16 = .ok (.return_, 1)) := by decide +kernel
theorem dX6_clear_0 : decode cX6_clear 0 = .ok (.aload_n 0, 1) := dq_X6_clear_0.1
theorem dX6_clear_1 : decode cX6_clear 1 = .ok (.getfield 9, 3) := dq_X6_clear_0.2.1
theorem dX6_clear_4 : decode cX6_clear 4 = .ok (.iconst 0, 1) := dq_X6_clear_0.2.2.1
theorem dX6_clear_5 : decode cX6_clear 5 = .ok (.invokestatic 40, 3) := dq_X6_clear_0.2.2.2.1
theorem dX6_clear_8 : decode cX6_clear 8 = .ok (.aload_n 0, 1) := dq_X6_clear_0.2.2.2.2.1
theorem dX6_clear_9 : decode cX6_clear 9 = .ok (.getfield 15, 3) := dq_X6_clear_0.2.2.2.2.2.1
theorem dX6_clear_12 : decode cX6_clear 12 = .ok (.iconst 0, 1) := dq_X6_clear_0.2.2.2.2.2.2.1
theorem dX6_clear_13 : decode cX6_clear 13 = .ok (.invokestatic 40, 3) := dq_X6_clear_0.2.2.2.2.2.2.2.1
theorem dX6_clear_16 : decode cX6_clear 16 = .ok (.return_, 1) := dq_X6_clear_0.2.2.2.2.2.2.2.2
theorem dq_X7_init_0 : (decode cX7_init 0 = .ok (.aload_n 0, 1)) ∧ (decode cX7_init 1 = .ok (.invokespecial 3, 3)) ∧ (decode cX7_init 4 = .ok (.aload_n 0, 1)) ∧ (decode cX7_init 5 = .ok (.sipush 9000, 3)) ∧ (decode cX7_init 8 = .ok (.newarray .byte, 2)) ∧ (decode cX7_init 10 = .ok (.putfield 9, 3)) ∧ (decode cX7_init 13 = .ok (.return_, 1)) := by decide +kernel
theorem dX7_init_0 : decode cX7_init 0 = .ok (.aload_n 0, 1) := dq_X7_init_0.1
theorem dX7_init_1 : decode cX7_init 1 = .ok (.invokespecial 3, 3) := dq_X7_init_0.2.1
theorem dX7_init_4 : decode cX7_init 4 = .ok (.aload_n 0, 1) := dq_X7_init_0.2.2.1
theorem dX7_init_5 : decode cX7_init 5 = .ok (.sipush 9000, 3) := dq_X7_init_0.2.2.2.1
theorem dX7_init_8 : decode cX7_init 8 = .ok (.newarray .byte, 2) := dq_X7_init_0.2.2.2.2.1
theorem dX7_init_10 : decode cX7_init 10 = .ok (.putfield 9, 3) := dq_X7_init_0.2.2.2.2.2.1
theorem dX7_init_13 : decode cX7_init 13 = .ok (.return_, 1) := dq_X7_init_0.2.2.2.2.2.2
theorem dq_X7_at_0 : (decode cX7_at 0 = .ok (.iload_n 1, 1)) ∧ (decode cX7_at 1 = .ok (.aload_n 0, 1)) ∧ (decode cX7_at 2 = .ok (.getfield 15, 3)) ∧ (decode cX7_at 5 = .ok (.invokestatic 19, 3)) ∧ (decode cX7_at 8 = .ok (.ifCond .eq 26, 3)) ∧ (decode cX7_at 11 = .ok (.iload_n 1, 1)) ∧ (decode cX7_at 12 = .ok (.sipush 9000, 3)) ∧ (decode cX7_at 15 = .ok (.invokestatic 19, 3)) ∧ (decode cX7_at 18 = .ok (.ifCond .eq 16, 3)) ∧ (decode cX7_at 21 = .ok (.aload_n 0, 1)) ∧ (decode cX7_at 22 = .ok (.getfield 9, 3)) ∧ (decode cX7_at 25 = .ok (.iload_n 1, 1)) ∧ (decode cX7_at 26 = .ok (.baload, 1)) ∧ (decode cX7_at 27 = .ok (.sipush 255, 3)) ∧ (decode cX7_at 30 = .ok (.iand, 1)) ∧ (decode cX7_at 31 = .ok (.goto 4, 3)) := by decide +kernel
theorem dX7_at_0 : decode cX7_at 0 = .ok (.iload_n 1, 1) := dq_X7_at_0.1
theorem dX7_at_1 : decode cX7_at 1 = .ok (.aload_n 0, 1) := dq_X7_at_0.2.1
theorem dX7_at_2 : decode cX7_at 2 = .ok (.getfield 15, 3) := dq_X7_at_0.2.2.1
theorem dX7_at_5 : decode cX7_at 5 = .ok (.invokestatic 19, 3) := dq_X7_at_0.2.2.2.1
theorem dX7_at_8 : decode cX7_at 8 = .ok (.ifCond .eq 26, 3) := dq_X7_at_0.2.2.2.2.1
theorem dX7_at_11 : decode cX7_at 11 = .ok (.iload_n 1, 1) := dq_X7_at_0.2.2.2.2.2.1
theorem dX7_at_12 : decode cX7_at 12 = .ok (.sipush 9000, 3) := dq_X7_at_0.2.2.2.2.2.2.1
theorem dX7_at_15 : decode cX7_at 15 = .ok (.invokestatic 19, 3) := dq_X7_at_0.2.2.2.2.2.2.2.1
theorem dX7_at_18 : decode cX7_at 18 = .ok (.ifCond .eq 16, 3) := dq_X7_at_0.2.2.2.2.2.2.2.2.1
theorem dX7_at_21 : decode cX7_at 21 = .ok (.aload_n 0, 1) := dq_X7_at_0.2.2.2.2.2.2.2.2.2.1
theorem dX7_at_22 : decode cX7_at 22 = .ok (.getfield 9, 3) := dq_X7_at_0.2.2.2.2.2.2.2.2.2.2.1
theorem dX7_at_25 : decode cX7_at 25 = .ok (.iload_n 1, 1) := dq_X7_at_0.2.2.2.2.2.2.2.2.2.2.2.1
theorem dX7_at_26 : decode cX7_at 26 = .ok (.baload, 1) := dq_X7_at_0.2.2.2.2.2.2.2.2.2.2.2.2.1
theorem dX7_at_27 : decode cX7_at 27 = .ok (.sipush 255, 3) := dq_X7_at_0.2.2.2.2.2.2.2.2.2.2.2.2.2.1
theorem dX7_at_30 : decode cX7_at 30 = .ok (.iand, 1) := dq_X7_at_0.2.2.2.2.2.2.2.2.2.2.2.2.2.2.1
theorem dX7_at_31 : decode cX7_at 31 = .ok (.goto 4, 3) := dq_X7_at_0.2.2.2.2.2.2.2.2.2.2.2.2.2.2.2
theorem dq_X7_at_34 : (decode cX7_at 34 = .ok (.iconst (-1), 1)) ∧ (decode cX7_at 35 = .ok (.ireturn, 1)) := by decide +kernel
theorem dX7_at_34 : decode cX7_at 34 = .ok (.iconst (-1), 1) := dq_X7_at_34.1
theorem dX7_at_35 : decode cX7_at 35 = .ok (.ireturn, 1) := dq_X7_at_34.2
theorem dq_X7_pairAt_0 : (decode cX7_pairAt 0 = .ok (.aload_n 0, 1)) ∧ (decode cX7_pairAt 1 = .ok (.iload_n 1, 1)) ∧ (decode cX7_pairAt 2 = .ok (.invokevirtual 23, 3)) ∧ (decode cX7_pairAt 5 = .ok (.sipush 256, 3)) ∧ (decode cX7_pairAt 8 = .ok (.imul, 1)) ∧ (decode cX7_pairAt 9 = .ok (.aload_n 0, 1)) ∧ (decode cX7_pairAt 10 = .ok (.iload_n 1, 1)) ∧ (decode cX7_pairAt 11 = .ok (.iconst 1, 1)) ∧ (decode cX7_pairAt 12 = .ok (.iadd, 1)) ∧ (decode cX7_pairAt 13 = .ok (.invokevirtual 23, 3)) ∧ (decode cX7_pairAt 16 = .ok (.iadd, 1)) ∧ (decode cX7_pairAt 17 = .ok (.ireturn, 1)) := by decide +kernel
theorem dX7_pairAt_0 : decode cX7_pairAt 0 = .ok (.aload_n 0, 1) := dq_X7_pairAt_0.1
theorem dX7_pairAt_1 : decode cX7_pairAt 1 = .ok (.iload_n 1, 1) := dq_X7_pairAt_0.2.1
theorem dX7_pairAt_2 : decode cX7_pairAt 2 = .ok (.invokevirtual 23, 3) := dq_X7_pairAt_0.2.2.1
theorem dX7_pairAt_5 : decode cX7_pairAt 5 = .ok (.sipush 256, 3) := dq_X7_pairAt_0.2.2.2.1
theorem dX7_pairAt_8 : decode cX7_pairAt 8 = .ok (.imul, 1) := dq_X7_pairAt_0.2.2.2.2.1
theorem dX7_pairAt_9 : decode cX7_pairAt 9 = .ok (.aload_n 0, 1) := dq_X7_pairAt_0.2.2.2.2.2.1
theorem dX7_pairAt_10 : decode cX7_pairAt 10 = .ok (.iload_n 1, 1) := dq_X7_pairAt_0.2.2.2.2.2.2.1
theorem dX7_pairAt_11 : decode cX7_pairAt 11 = .ok (.iconst 1, 1) := dq_X7_pairAt_0.2.2.2.2.2.2.2.1
theorem dX7_pairAt_12 : decode cX7_pairAt 12 = .ok (.iadd, 1) := dq_X7_pairAt_0.2.2.2.2.2.2.2.2.1
theorem dX7_pairAt_13 : decode cX7_pairAt 13 = .ok (.invokevirtual 23, 3) := dq_X7_pairAt_0.2.2.2.2.2.2.2.2.2.1
theorem dX7_pairAt_16 : decode cX7_pairAt 16 = .ok (.iadd, 1) := dq_X7_pairAt_0.2.2.2.2.2.2.2.2.2.2.1
theorem dX7_pairAt_17 : decode cX7_pairAt 17 = .ok (.ireturn, 1) := dq_X7_pairAt_0.2.2.2.2.2.2.2.2.2.2.2
theorem dq_X7_put_0 : (decode cX7_put 0 = .ok (.iload_n 1, 1)) ∧ (decode cX7_put 1 = .ok (.sipush 9000, 3)) ∧ (decode cX7_put 4 = .ok (.invokestatic 19, 3)) ∧ (decode cX7_put 7 = .ok (.ifCond .ne 4, 3)) ∧ (decode cX7_put 10 = .ok (.return_, 1)) ∧ (decode cX7_put 11 = .ok (.aload_n 0, 1)) ∧ (decode cX7_put 12 = .ok (.getfield 15, 3)) ∧ (decode cX7_put 15 = .ok (.istore_n 3, 1)) ∧ (decode cX7_put 16 = .ok (.iload_n 3, 1)) ∧ (decode cX7_put 17 = .ok (.iload_n 1, 1)) ∧ (decode cX7_put 18 = .ok (.if_icmp .ge 16, 3)) ∧ (decode cX7_put 21 = .ok (.aload_n 0, 1)) ∧ (decode cX7_put 22 = .ok (.getfield 9, 3)) ∧ (decode cX7_put 25 = .ok (.iload_n 3, 1)) ∧ (decode cX7_put 26 = .ok (.iconst 0, 1)) ∧ (decode cX7_put 27 = .ok (.bastore, 1)) := by decide +kernel
theorem dX7_put_0 : decode cX7_put 0 = .ok (.iload_n 1, 1) := dq_X7_put_0.1
theorem dX7_put_1 : decode cX7_put 1 = .ok (.sipush 9000, 3) := dq_X7_put_0.2.1
theorem dX7_put_4 : decode cX7_put 4 = .ok (.invokestatic 19, 3) := dq_X7_put_0.2.2.1
theorem dX7_put_7 : decode cX7_put 7 = .ok (.ifCond .ne 4, 3) := dq_X7_put_0.2.2.2.1
theorem dX7_put_10 : decode cX7_put 10 = .ok (.return_, 1) := dq_X7_put_0.2.2.2.2.1
theorem dX7_put_11 : decode cX7_put 11 = .ok (.aload_n 0, 1) := dq_X7_put_0.2.2.2.2.2.1
theorem dX7_put_12 : decode cX7_put 12 = .ok (.getfield 15, 3) := dq_X7_put_0.2.2.2.2.2.2.1
theorem dX7_put_15 : decode cX7_put 15 = .ok (.istore_n 3, 1) := dq_X7_put_0.2.2.2.2.2.2.2.1
theorem dX7_put_16 : decode cX7_put 16 = .ok (.iload_n 3, 1) := dq_X7_put_0.2.2.2.2.2.2.2.2.1
theorem dX7_put_17 : decode cX7_put 17 = .ok (.iload_n 1, 1) := dq_X7_put_0.2.2.2.2.2.2.2.2.2.1
theorem dX7_put_18 : decode cX7_put 18 = .ok (.if_icmp .ge 16, 3) := dq_X7_put_0.2.2.2.2.2.2.2.2.2.2.1
theorem dX7_put_21 : decode cX7_put 21 = .ok (.aload_n 0, 1) := dq_X7_put_0.2.2.2.2.2.2.2.2.2.2.2.1
theorem dX7_put_22 : decode cX7_put 22 = .ok (.getfield 9, 3) := dq_X7_put_0.2.2.2.2.2.2.2.2.2.2.2.2.1
theorem dX7_put_25 : decode cX7_put 25 = .ok (.iload_n 3, 1) := dq_X7_put_0.2.2.2.2.2.2.2.2.2.2.2.2.2.1
theorem dX7_put_26 : decode cX7_put 26 = .ok (.iconst 0, 1) := dq_X7_put_0.2.2.2.2.2.2.2.2.2.2.2.2.2.2.1
theorem dX7_put_27 : decode cX7_put 27 = .ok (.bastore, 1) := dq_X7_put_0.2.2.2.2.2.2.2.2.2.2.2.2.2.2.2
theorem dq_X7_put_28 : (decode cX7_put 28 = .ok (.iinc 3 1, 3)) ∧ (decode cX7_put 31 = .ok (.goto (-15), 3)) ∧ (decode cX7_put 34 = .ok (.aload_n 0, 1)) ∧ (decode cX7_put 35 = .ok (.getfield 9, 3)) ∧ (decode cX7_put 38 = .ok (.iload_n 1, 1)) ∧ (decode cX7_put 39 = .ok (.iload_n 2, 1)) ∧ (decode cX7_put 40 = .ok (.i2b, 1)) ∧ (decode cX7_put 41 = .ok (.bastore, 1)) ∧ (decode cX7_put 42 = .ok (.aload_n 0, 1)) ∧ (decode cX7_put 43 = .ok (.aload_n 0, 1)) ∧ (decode cX7_put 44 = .ok (.getfield 15, 3)) ∧ (decode cX7_put 47 = .ok (.iload_n 1, 1)) ∧ (decode cX7_put 48 = .ok (.iconst 1, 1)) ∧ (decode cX7_put 49 = .ok (.iadd, 1)) ∧ (decode cX7_put 50 = .ok (.invokestatic 27, 3)) ∧ (decode cX7_put 53 = .ok (.putfield 15, 3)) := by decide +kernel
theorem dX7_put_28 : decode cX7_put 28 = .ok (.iinc 3 1, 3) := dq_X7_put_28.1
theorem dX7_put_31 : decode cX7_put 31 = .ok (.goto (-15), 3) := dq_X7_put_28.2.1
theorem dX7_put_34 : decode cX7_put 34 = .ok (.aload_n 0, 1) := dq_X7_put_28.2.2.1
theorem dX7_put_35 : decode cX7_put 35 = .ok (.getfield 9, 3) := dq_X7_put_28.2.2.2.1
theorem dX7_put_38 : decode cX7_put 38 = .ok (.iload_n 1, 1) := dq_X7_put_28.2.2.2.2.1
theorem dX7_put_39 : decode cX7_put 39 = .ok (.iload_n 2, 1) := dq_X7_put_28.2.2.2.2.2.1
theorem dX7_put_40 : decode cX7_put 40 = .ok (.i2b, 1) := dq_X7_put_28.2.2.2.2.2.2.1
theorem dX7_put_41 : decode cX7_put 41 = .ok (.bastore, 1) := dq_X7_put_28.2.2.2.2.2.2.2.1
theorem dX7_put_42 : decode cX7_put 42 = .ok (.aload_n 0, 1) := dq_X7_put_28.2.2.2.2.2.2.2.2.1
theorem dX7_put_43 : decode cX7_put 43 = .ok (.aload_n 0, 1) := dq_X7_put_28.2.2.2.2.2.2.2.2.2.1
theorem dX7_put_44 : decode cX7_put 44 = .ok (.getfield 15, 3) := dq_X7_put_28.2.2.2.2.2.2.2.2.2.2.1
theorem dX7_put_47 : decode cX7_put 47 = .ok (.iload_n 1, 1) := dq_X7_put_28.2.2.2.2.2.2.2.2.2.2.2.1
theorem dX7_put_48 : decode cX7_put 48 = .ok (.iconst 1, 1) := dq_X7_put_28.2.2.2.2.2.2.2.2.2.2.2.2.1
theorem dX7_put_49 : decode cX7_put 49 = .ok (.iadd, 1) := dq_X7_put_28.2.2.2.2.2.2.2.2.2.2.2.2.2.1
theorem dX7_put_50 : decode cX7_put 50 = .ok (.invokestatic 27, 3) := dq_X7_put_28.2.2.2.2.2.2.2.2.2.2.2.2.2.2.1
theorem dX7_put_53 : decode cX7_put 53 = .ok (.putfield 15, 3) := dq_X7_put_28.2.2.2.2.2.2.2.2.2.2.2.2.2.2.2
theorem dX7_put_56 : decode cX7_put 56 = .ok (.return_, 1) := by decide +kernel
theorem dq_X7_putPair_0 : (decode cX7_putPair 0 = .ok (.aload_n 0, 1)) ∧ (decode cX7_putPair 1 = .ok (.iload_n 1, 1)) ∧ (decode cX7_putPair 2 = .ok (.iload_n 2, 1)) ∧ (decode cX7_putPair 3 = .ok (.bipush 8, 2)) ∧ (decode cX7_putPair 5 = .ok (.ishr, 1)) ∧ (decode cX7_putPair 6 = .ok (.invokevirtual 33, 3)) ∧ (decode cX7_putPair 9 = .ok (.aload_n 0, 1)) ∧ (decode cX7_putPair 10 = .ok (.iload_n 1, 1)) ∧ (decode cX7_putPair 11 = .ok (.iconst 1, 1)) ∧ (decode cX7_putPair 12 = .ok (.iadd, 1)) ∧ (decode cX7_putPair 13 = .ok (.iload_n 2, 1)) ∧ (decode cX7_putPair 14 = .ok (.invokevirtual 33, 3)) ∧ (decode cX7_putPair 17 = .ok (.return_, 1)) := by decide +kernel
theorem dX7_putPair_0 : decode cX7_putPair 0 = .ok (.aload_n 0, 1) := dq_X7_putPair_0.1
theorem dX7_putPair_1 : decode cX7_putPair 1 = .ok (.iload_n 1, 1) := dq_X7_putPair_0.2.1
theorem dX7_putPair_2 : decode cX7_putPair 2 = .ok (.iload_n 2, 1) := dq_X7_putPair_0.2.2.1
theorem dX7_putPair_3 : decode cX7_putPair 3 = .ok (.bipush 8, 2) := dq_X7_putPair_0.2.2.2.1
theorem dX7_putPair_5 : decode cX7_putPair 5 = .ok (.ishr, 1) := dq_X7_putPair_0.2.2.2.2.1
theorem dX7_putPair_6 : decode cX7_putPair 6 = .ok (.invokevirtual 33, 3) := dq_X7_putPair_0.2.2.2.2.2.1
theorem dX7_putPair_9 : decode cX7_putPair 9 = .ok (.aload_n 0, 1) := dq_X7_putPair_0.2.2.2.2.2.2.1
theorem dX7_putPair_10 : decode cX7_putPair 10 = .ok (.iload_n 1, 1) := dq_X7_putPair_0.2.2.2.2.2.2.2.1
theorem dX7_putPair_11 : decode cX7_putPair 11 = .ok (.iconst 1, 1) := dq_X7_putPair_0.2.2.2.2.2.2.2.2.1
theorem dX7_putPair_12 : decode cX7_putPair 12 = .ok (.iadd, 1) := dq_X7_putPair_0.2.2.2.2.2.2.2.2.2.1
theorem dX7_putPair_13 : decode cX7_putPair 13 = .ok (.iload_n 2, 1) := dq_X7_putPair_0.2.2.2.2.2.2.2.2.2.2.1
theorem dX7_putPair_14 : decode cX7_putPair 14 = .ok (.invokevirtual 33, 3) := dq_X7_putPair_0.2.2.2.2.2.2.2.2.2.2.2.1
theorem dX7_putPair_17 : decode cX7_putPair 17 = .ok (.return_, 1) := dq_X7_putPair_0.2.2.2.2.2.2.2.2.2.2.2.2
theorem dq_X7_append_0 : (decode cX7_append 0 = .ok (.bipush 24, 2)) ∧ (decode cX7_append 2 = .ok (.istore_n 2, 1)) ∧ (decode cX7_append 3 = .ok (.iload_n 2, 1)) ∧ (decode cX7_append 4 = .ok (.ifCond .lt 20, 3)) ∧ (decode cX7_append 7 = .ok (.aload_n 0, 1)) ∧ (decode cX7_append 8 = .ok (.aload_n 0, 1)) ∧ (decode cX7_append 9 = .ok (.getfield 15, 3)) ∧ (decode cX7_append 12 = .ok (.iload_n 1, 1)) ∧ (decode cX7_append 13 = .ok (.iload_n 2, 1)) ∧ (decode cX7_append 14 = .ok (.ishr, 1)) ∧ (decode cX7_append 15 = .ok (.invokevirtual 33, 3)) ∧ (decode cX7_append 18 = .ok (.iinc 2 (-8), 3)) ∧ (decode cX7_append 21 = .ok (.goto (-18), 3)) ∧ (decode cX7_append 24 = .ok (.return_, 1)) := by decide +kernel
theorem dX7_append_0 : decode cX7_append 0 = .ok (.bipush 24, 2) := dq_X7_append_0.1
theorem dX7_append_2 : decode cX7_append 2 = .ok (.istore_n 2, 1) := dq_X7_append_0.2.1
theorem dX7_append_3 : decode cX7_append 3 = .ok (.iload_n 2, 1) := dq_X7_append_0.2.2.1
theorem dX7_append_4 : decode cX7_append 4 = .ok (.ifCond .lt 20, 3) := dq_X7_append_0.2.2.2.1
theorem dX7_append_7 : decode cX7_append 7 = .ok (.aload_n 0, 1) := dq_X7_append_0.2.2.2.2.1
theorem dX7_append_8 : decode cX7_append 8 = .ok (.aload_n 0, 1) := dq_X7_append_0.2.2.2.2.2.1
theorem dX7_append_9 : decode cX7_append 9 = .ok (.getfield 15, 3) := dq_X7_append_0.2.2.2.2.2.2.1
theorem dX7_append_12 : decode cX7_append 12 = .ok (.iload_n 1, 1) := dq_X7_append_0.2.2.2.2.2.2.2.1
theorem dX7_append_13 : decode cX7_append 13 = .ok (.iload_n 2, 1) := dq_X7_append_0.2.2.2.2.2.2.2.2.1
theorem dX7_append_14 : decode cX7_append 14 = .ok (.ishr, 1) := dq_X7_append_0.2.2.2.2.2.2.2.2.2.1
theorem dX7_append_15 : decode cX7_append 15 = .ok (.invokevirtual 33, 3) := dq_X7_append_0.2.2.2.2.2.2.2.2.2.2.1
theorem dX7_append_18 : decode cX7_append 18 = .ok (.iinc 2 (-8), 3) := dq_X7_append_0.2.2.2.2.2.2.2.2.2.2.2.1
theorem dX7_append_21 : decode cX7_append 21 = .ok (.goto (-18), 3) := dq_X7_append_0.2.2.2.2.2.2.2.2.2.2.2.2.1
theorem dX7_append_24 : decode cX7_append 24 = .ok (.return_, 1) := dq_X7_append_0.2.2.2.2.2.2.2.2.2.2.2.2.2
theorem dq_X8_init_0 : (decode cX8_init 0 = .ok (.aload_n 0, 1)) ∧ (decode cX8_init 1 = .ok (.invokespecial 1, 3)) ∧ (decode cX8_init 4 = .ok (.return_, 1)) := by decide +kernel
theorem dX8_init_0 : decode cX8_init 0 = .ok (.aload_n 0, 1) := dq_X8_init_0.1
theorem dX8_init_1 : decode cX8_init 1 = .ok (.invokespecial 1, 3) := dq_X8_init_0.2.1
theorem dX8_init_4 : decode cX8_init 4 = .ok (.return_, 1) := dq_X8_init_0.2.2
theorem dq_X8_rewind_0 : (decode cX8_rewind 0 = .ok (.aload_n 0, 1)) ∧ (decode cX8_rewind 1 = .ok (.iconst 0, 1)) ∧ (decode cX8_rewind 2 = .ok (.putfield 7, 3)) ∧ (decode cX8_rewind 5 = .ok (.aload_n 0, 1)) ∧ (decode cX8_rewind 6 = .ok (.iconst 0, 1)) ∧ (decode cX8_rewind 7 = .ok (.putfield 13, 3)) ∧ (decode cX8_rewind 10 = .ok (.aload_n 0, 1)) ∧ (decode cX8_rewind 11 = .ok (.iconst 0, 1)) ∧ (decode cX8_rewind 12 = .ok (.putfield 16, 3)) ∧ (decode cX8_rewind 15 = .ok (.aload_n 0, 1)) ∧ (decode cX8_rewind 16 = .ok (.iconst 0, 1)) ∧ (decode cX8_rewind 17 = .ok (.putfield 19, 3)) ∧ (decode cX8_rewind 20 = .ok (.return_, 1)) := by decide +kernel
theorem dX8_rewind_0 : decode cX8_rewind 0 = .ok (.aload_n 0, 1) := dq_X8_rewind_0.1
theorem dX8_rewind_1 : decode cX8_rewind 1 = .ok (.iconst 0, 1) := dq_X8_rewind_0.2.1
theorem dX8_rewind_2 : decode cX8_rewind 2 = .ok (.putfield 7, 3) := dq_X8_rewind_0.2.2.1
theorem dX8_rewind_5 : decode cX8_rewind 5 = .ok (.aload_n 0, 1) := dq_X8_rewind_0.2.2.2.1
theorem dX8_rewind_6 : decode cX8_rewind 6 = .ok (.iconst 0, 1) := dq_X8_rewind_0.2.2.2.2.1
theorem dX8_rewind_7 : decode cX8_rewind 7 = .ok (.putfield 13, 3) := dq_X8_rewind_0.2.2.2.2.2.1
theorem dX8_rewind_10 : decode cX8_rewind 10 = .ok (.aload_n 0, 1) := dq_X8_rewind_0.2.2.2.2.2.2.1
theorem dX8_rewind_11 : decode cX8_rewind 11 = .ok (.iconst 0, 1) := dq_X8_rewind_0.2.2.2.2.2.2.2.1
theorem dX8_rewind_12 : decode cX8_rewind 12 = .ok (.putfield 16, 3) := dq_X8_rewind_0.2.2.2.2.2.2.2.2.1
theorem dX8_rewind_15 : decode cX8_rewind 15 = .ok (.aload_n 0, 1) := dq_X8_rewind_0.2.2.2.2.2.2.2.2.2.1
theorem dX8_rewind_16 : decode cX8_rewind 16 = .ok (.iconst 0, 1) := dq_X8_rewind_0.2.2.2.2.2.2.2.2.2.2.1
theorem dX8_rewind_17 : decode cX8_rewind 17 = .ok (.putfield 19, 3) := dq_X8_rewind_0.2.2.2.2.2.2.2.2.2.2.2.1
theorem dX8_rewind_20 : decode cX8_rewind 20 = .ok (.return_, 1) := dq_X8_rewind_0.2.2.2.2.2.2.2.2.2.2.2.2
theorem dq_X8_tell_0 : (decode cX8_tell 0 = .ok (.iload_n 1, 1)) ∧ (decode cX8_tell 1 = .ok (.ifCond .eq 8, 3)) ∧ (decode cX8_tell 4 = .ok (.aload_n 0, 1)) ∧ (decode cX8_tell 5 = .ok (.iload_n 1, 1)) ∧ (decode cX8_tell 6 = .ok (.putfield 7, 3)) ∧ (decode cX8_tell 9 = .ok (.iload_n 2, 1)) ∧ (decode cX8_tell 10 = .ok (.ifCond .eq 8, 3)) ∧ (decode cX8_tell 13 = .ok (.aload_n 0, 1)) ∧ (decode cX8_tell 14 = .ok (.iload_n 2, 1)) ∧ (decode cX8_tell 15 = .ok (.putfield 13, 3)) ∧ (decode cX8_tell 18 = .ok (.return_, 1)) := by decide +kernel
theorem dX8_tell_0 : decode cX8_tell 0 = .ok (.iload_n 1, 1) := dq_X8_tell_0.1
theorem dX8_tell_1 : decode cX8_tell 1 = .ok (.ifCond .eq 8, 3) := dq_X8_tell_0.2.1
theorem dX8_tell_4 : decode cX8_tell 4 = .ok (.aload_n 0, 1) := dq_X8_tell_0.2.2.1
theorem dX8_tell_5 : decode cX8_tell 5 = .ok (.iload_n 1, 1) := dq_X8_tell_0.2.2.2.1
theorem dX8_tell_6 : decode cX8_tell 6 = .ok (.putfield 7, 3) := dq_X8_tell_0.2.2.2.2.1
theorem dX8_tell_9 : decode cX8_tell 9 = .ok (.iload_n 2, 1) := dq_X8_tell_0.2.2.2.2.2.1
theorem dX8_tell_10 : decode cX8_tell 10 = .ok (.ifCond .eq 8, 3) := dq_X8_tell_0.2.2.2.2.2.2.1
theorem dX8_tell_13 : decode cX8_tell 13 = .ok (.aload_n 0, 1) := dq_X8_tell_0.2.2.2.2.2.2.2.1
theorem dX8_tell_14 : decode cX8_tell 14 = .ok (.iload_n 2, 1) := dq_X8_tell_0.2.2.2.2.2.2.2.2.1
theorem dX8_tell_15 : decode cX8_tell 15 = .ok (.putfield 13, 3) := dq_X8_tell_0.2.2.2.2.2.2.2.2.2.1
theorem dX8_tell_18 : decode cX8_tell 18 = .ok (.return_, 1) := dq_X8_tell_0.2.2.2.2.2.2.2.2.2.2
theorem dq_X8_swing_0 : (decode cX8_swing 0 = .ok (.aload_n 0, 1)) ∧ (decode cX8_swing 1 = .ok (.getfield 16, 3)) ∧ (decode cX8_swing 4 = .ok (.bipush 32, 2)) ∧ (decode cX8_swing 6 = .ok (.irem, 1)) ∧ (decode cX8_swing 7 = .ok (.istore_n 1, 1)) ∧ (decode cX8_swing 8 = .ok (.aload_n 0, 1)) ∧ (decode cX8_swing 9 = .ok (.getfield 19, 3)) ∧ (decode cX8_swing 12 = .ok (.lookupswitch 43 #[(1, 28), (2, 36)], 28)) ∧ (decode cX8_swing 40 = .ok (.bipush 8, 2)) ∧ (decode cX8_swing 42 = .ok (.iload_n 1, 1)) ∧ (decode cX8_swing 43 = .ok (.imul, 1)) ∧ (decode cX8_swing 44 = .ok (.istore_n 2, 1)) ∧ (decode cX8_swing 45 = .ok (.goto 25, 3)) ∧ (decode cX8_swing 48 = .ok (.sipush 255, 3)) ∧ (decode cX8_swing 51 = .ok (.istore_n 2, 1)) ∧ (decode cX8_swing 52 = .ok (.goto 18, 3)) := by decide +kernel
theorem dX8_swing_0 : decode cX8_swing 0 = .ok (.aload_n 0, 1) := dq_X8_swing_0.1
theorem dX8_swing_1 : decode cX8_swing 1 = .ok (.getfield 16, 3) := dq_X8_swing_0.2.1
theorem dX8_swing_4 : decode cX8_swing 4 = .ok (.bipush 32, 2) := dq_X8_swing_0.2.2.1
theorem dX8_swing_6 : decode cX8_swing 6 = .ok (.irem, 1) := dq_X8_swing_0.2.2.2.1
theorem dX8_swing_7 : decode cX8_swing 7 = .ok (.istore_n 1, 1) := dq_X8_swing_0.2.2.2.2.1
theorem dX8_swing_8 : decode cX8_swing 8 = .ok (.aload_n 0, 1) := dq_X8_swing_0.2.2.2.2.2.1
theorem dX8_swing_9 : decode cX8_swing 9 = .ok (.getfield 19, 3) := dq_X8_swing_0.2.2.2.2.2.2.1
theorem dX8_swing_12 : decode cX8_swing 12 = .ok (.lookupswitch 43 #[(1, 28), (2, 36)], 28) := dq_X8_swing_0.2.2.2.2.2.2.2.1
theorem dX8_swing_40 : decode cX8_swing 40 = .ok (.bipush 8, 2) := dq_X8_swing_0.2.2.2.2.2.2.2.2.1
theorem dX8_swing_42 : decode cX8_swing 42 = .ok (.iload_n 1, 1) := dq_X8_swing_0.2.2.2.2.2.2.2.2.2.1
theorem dX8_swing_43 : decode cX8_swing 43 = .ok (.imul, 1) := dq_X8_swing_0.2.2.2.2.2.2.2.2.2.2.1
theorem dX8_swing_44 : decode cX8_swing 44 = .ok (.istore_n 2, 1) := dq_X8_swing_0.2.2.2.2.2.2.2.2.2.2.2.1
theorem dX8_swing_45 : decode cX8_swing 45 = .ok (.goto 25, 3) := dq_X8_swing_0.2.2.2.2.2.2.2.2.2.2.2.2.1
theorem dX8_swing_48 : decode cX8_swing 48 = .ok (.sipush 255, 3) := dq_X8_swing_0.2.2.2.2.2.2.2.2.2.2.2.2.2.1
theorem dX8_swing_51 : decode cX8_swing 51 = .ok (.istore_n 2, 1) := dq_X8_swing_0.2.2.2.2.2.2.2.2.2.2.2.2.2.2.1
theorem dX8_swing_52 : decode cX8_swing 52 = .ok (.goto 18, 3) := dq_X8_swing_0.2.2.2.2.2.2.2.2.2.2.2.2.2.2.2
theorem dq_X8_swing_55 : (decode cX8_swing 55 = .ok (.sipush 255, 3)) ∧ (decode cX8_swing 58 = .ok (.iload_n 1, 1)) ∧ (decode cX8_swing 59 = .ok (.imul, 1)) ∧ (decode cX8_swing 60 = .ok (.bipush 32, 2)) ∧ (decode cX8_swing 62 = .ok (.iload_n 1, 1)) ∧ (decode cX8_swing 63 = .ok (.isub, 1)) ∧ (decode cX8_swing 64 = .ok (.imul, 1)) ∧ (decode cX8_swing 65 = .ok (.sipush 256, 3)) ∧ (decode cX8_swing 68 = .ok (.idiv, 1)) ∧ (decode cX8_swing 69 = .ok (.istore_n 2, 1)) ∧ (decode cX8_swing 70 = .ok (.aload_n 0, 1)) ∧ (decode cX8_swing 71 = .ok (.getfield 16, 3)) ∧ (decode cX8_swing 74 = .ok (.bipush 32, 2)) ∧ (decode cX8_swing 76 = .ok (.if_icmp .ge 7, 3)) ∧ (decode cX8_swing 79 = .ok (.iload_n 2, 1)) ∧ (decode cX8_swing 80 = .ok (.goto 5, 3)) := by decide +kernel
theorem dX8_swing_55 : decode cX8_swing 55 = .ok (.sipush 255, 3) := dq_X8_swing_55.1
theorem dX8_swing_58 : decode cX8_swing 58 = .ok (.iload_n 1, 1) := dq_X8_swing_55.2.1
theorem dX8_swing_59 : decode cX8_swing 59 = .ok (.imul, 1) := dq_X8_swing_55.2.2.1
theorem dX8_swing_60 : decode cX8_swing 60 = .ok (.bipush 32, 2) := dq_X8_swing_55.2.2.2.1
theorem dX8_swing_62 : decode cX8_swing 62 = .ok (.iload_n 1, 1) := dq_X8_swing_55.2.2.2.2.1
theorem dX8_swing_63 : decode cX8_swing 63 = .ok (.isub, 1) := dq_X8_swing_55.2.2.2.2.2.1
theorem dX8_swing_64 : decode cX8_swing 64 = .ok (.imul, 1) := dq_X8_swing_55.2.2.2.2.2.2.1
theorem dX8_swing_65 : decode cX8_swing 65 = .ok (.sipush 256, 3) := dq_X8_swing_55.2.2.2.2.2.2.2.1
theorem dX8_swing_68 : decode cX8_swing 68 = .ok (.idiv, 1) := dq_X8_swing_55.2.2.2.2.2.2.2.2.1
theorem dX8_swing_69 : decode cX8_swing 69 = .ok (.istore_n 2, 1) := dq_X8_swing_55.2.2.2.2.2.2.2.2.2.1
theorem dX8_swing_70 : decode cX8_swing 70 = .ok (.aload_n 0, 1) := dq_X8_swing_55.2.2.2.2.2.2.2.2.2.2.1
theorem dX8_swing_71 : decode cX8_swing 71 = .ok (.getfield 16, 3) := dq_X8_swing_55.2.2.2.2.2.2.2.2.2.2.2.1
theorem dX8_swing_74 : decode cX8_swing 74 = .ok (.bipush 32, 2) := dq_X8_swing_55.2.2.2.2.2.2.2.2.2.2.2.2.1
theorem dX8_swing_76 : decode cX8_swing 76 = .ok (.if_icmp .ge 7, 3) := dq_X8_swing_55.2.2.2.2.2.2.2.2.2.2.2.2.2.1
theorem dX8_swing_79 : decode cX8_swing 79 = .ok (.iload_n 2, 1) := dq_X8_swing_55.2.2.2.2.2.2.2.2.2.2.2.2.2.2.1
theorem dX8_swing_80 : decode cX8_swing 80 = .ok (.goto 5, 3) := dq_X8_swing_55.2.2.2.2.2.2.2.2.2.2.2.2.2.2.2
theorem dq_X8_swing_83 : (decode cX8_swing 83 = .ok (.iload_n 2, 1)) ∧ (decode cX8_swing 84 = .ok (.ineg, 1)) ∧ (decode cX8_swing 85 = .ok (.aload_n 0, 1)) ∧ (decode cX8_swing 86 = .ok (.getfield 13, 3)) ∧ (decode cX8_swing 89 = .ok (.imul, 1)) ∧ (decode cX8_swing 90 = .ok (.ireturn, 1)) := by decide +kernel
theorem dX8_swing_83 : decode cX8_swing 83 = .ok (.iload_n 2, 1) := dq_X8_swing_83.1
theorem dX8_swing_84 : decode cX8_swing 84 = .ok (.ineg, 1) := dq_X8_swing_83.2.1
theorem dX8_swing_85 : decode cX8_swing 85 = .ok (.aload_n 0, 1) := dq_X8_swing_83.2.2.1
theorem dX8_swing_86 : decode cX8_swing 86 = .ok (.getfield 13, 3) := dq_X8_swing_83.2.2.2.1
theorem dX8_swing_89 : decode cX8_swing 89 = .ok (.imul, 1) := dq_X8_swing_83.2.2.2.2.1
theorem dX8_swing_90 : decode cX8_swing 90 = .ok (.ireturn, 1) := dq_X8_swing_83.2.2.2.2.2
theorem dq_X8_advance_0 : (decode cX8_advance 0 = .ok (.aload_n 0, 1)) ∧ (decode cX8_advance 1 = .ok (.aload_n 0, 1)) ∧ (decode cX8_advance 2 = .ok (.getfield 16, 3)) ∧ (decode cX8_advance 5 = .ok (.aload_n 0, 1)) ∧ (decode cX8_advance 6 = .ok (.getfield 7, 3)) ∧ (decode cX8_advance 9 = .ok (.iadd, 1)) ∧ (decode cX8_advance 10 = .ok (.bipush 64, 2)) ∧ (decode cX8_advance 12 = .ok (.irem, 1)) ∧ (decode cX8_advance 13 = .ok (.putfield 16, 3)) ∧ (decode cX8_advance 16 = .ok (.return_, 1)) := by decide +kernel
theorem dX8_advance_0 : decode cX8_advance 0 = .ok (.aload_n 0, 1) := dq_X8_advance_0.1
theorem dX8_advance_1 : decode cX8_advance 1 = .ok (.aload_n 0, 1) := dq_X8_advance_0.2.1
theorem dX8_advance_2 : decode cX8_advance 2 = .ok (.getfield 16, 3) := dq_X8_advance_0.2.2.1
theorem dX8_advance_5 : decode cX8_advance 5 = .ok (.aload_n 0, 1) := dq_X8_advance_0.2.2.2.1
theorem dX8_advance_6 : decode cX8_advance 6 = .ok (.getfield 7, 3) := dq_X8_advance_0.2.2.2.2.1
theorem dX8_advance_9 : decode cX8_advance 9 = .ok (.iadd, 1) := dq_X8_advance_0.2.2.2.2.2.1
theorem dX8_advance_10 : decode cX8_advance 10 = .ok (.bipush 64, 2) := dq_X8_advance_0.2.2.2.2.2.2.1
theorem dX8_advance_12 : decode cX8_advance 12 = .ok (.irem, 1) := dq_X8_advance_0.2.2.2.2.2.2.2.1
theorem dX8_advance_13 : decode cX8_advance 13 = .ok (.putfield 16, 3) := dq_X8_advance_0.2.2.2.2.2.2.2.2.1
theorem dX8_advance_16 : decode cX8_advance 16 = .ok (.return_, 1) := dq_X8_advance_0.2.2.2.2.2.2.2.2.2
theorem dq_X9_writeSong_0 : (decode cX9_writeSong 0 = .ok (.aload_n 0, 1)) ∧ (decode cX9_writeSong 1 = .ok (.sipush 950, 3)) ∧ (decode cX9_writeSong 4 = .ok (.aload_n 1, 1)) ∧ (decode cX9_writeSong 5 = .ok (.getfield 11, 3)) ∧ (decode cX9_writeSong 8 = .ok (.invokevirtual 17, 3)) ∧ (decode cX9_writeSong 11 = .ok (.aload_n 0, 1)) ∧ (decode cX9_writeSong 12 = .ok (.sipush 951, 3)) ∧ (decode cX9_writeSong 15 = .ok (.aload_n 1, 1)) ∧ (decode cX9_writeSong 16 = .ok (.getfield 23, 3)) ∧ (decode cX9_writeSong 19 = .ok (.invokevirtual 17, 3)) ∧ (decode cX9_writeSong 22 = .ok (.iconst 0, 1)) ∧ (decode cX9_writeSong 23 = .ok (.istore_n 2, 1)) ∧ (decode cX9_writeSong 24 = .ok (.iload_n 2, 1)) ∧ (decode cX9_writeSong 25 = .ok (.aload_n 1, 1)) ∧ (decode cX9_writeSong 26 = .ok (.getfield 11, 3)) ∧ (decode cX9_writeSong 29 = .ok (.if_icmp .ge 31, 3)) := by decide +kernel
theorem dX9_writeSong_0 : decode cX9_writeSong 0 = .ok (.aload_n 0, 1) := dq_X9_writeSong_0.1
theorem dX9_writeSong_1 : decode cX9_writeSong 1 = .ok (.sipush 950, 3) := dq_X9_writeSong_0.2.1
theorem dX9_writeSong_4 : decode cX9_writeSong 4 = .ok (.aload_n 1, 1) := dq_X9_writeSong_0.2.2.1
theorem dX9_writeSong_5 : decode cX9_writeSong 5 = .ok (.getfield 11, 3) := dq_X9_writeSong_0.2.2.2.1
theorem dX9_writeSong_8 : decode cX9_writeSong 8 = .ok (.invokevirtual 17, 3) := dq_X9_writeSong_0.2.2.2.2.1
theorem dX9_writeSong_11 : decode cX9_writeSong 11 = .ok (.aload_n 0, 1) := dq_X9_writeSong_0.2.2.2.2.2.1
theorem dX9_writeSong_12 : decode cX9_writeSong 12 = .ok (.sipush 951, 3) := dq_X9_writeSong_0.2.2.2.2.2.2.1
theorem dX9_writeSong_15 : decode cX9_writeSong 15 = .ok (.aload_n 1, 1) := dq_X9_writeSong_0.2.2.2.2.2.2.2.1
theorem dX9_writeSong_16 : decode cX9_writeSong 16 = .ok (.getfield 23, 3) := dq_X9_writeSong_0.2.2.2.2.2.2.2.2.1
theorem dX9_writeSong_19 : decode cX9_writeSong 19 = .ok (.invokevirtual 17, 3) := dq_X9_writeSong_0.2.2.2.2.2.2.2.2.2.1
theorem dX9_writeSong_22 : decode cX9_writeSong 22 = .ok (.iconst 0, 1) := dq_X9_writeSong_0.2.2.2.2.2.2.2.2.2.2.1
theorem dX9_writeSong_23 : decode cX9_writeSong 23 = .ok (.istore_n 2, 1) := dq_X9_writeSong_0.2.2.2.2.2.2.2.2.2.2.2.1
theorem dX9_writeSong_24 : decode cX9_writeSong 24 = .ok (.iload_n 2, 1) := dq_X9_writeSong_0.2.2.2.2.2.2.2.2.2.2.2.2.1
theorem dX9_writeSong_25 : decode cX9_writeSong 25 = .ok (.aload_n 1, 1) := dq_X9_writeSong_0.2.2.2.2.2.2.2.2.2.2.2.2.2.1
theorem dX9_writeSong_26 : decode cX9_writeSong 26 = .ok (.getfield 11, 3) := dq_X9_writeSong_0.2.2.2.2.2.2.2.2.2.2.2.2.2.2.1
theorem dX9_writeSong_29 : decode cX9_writeSong 29 = .ok (.if_icmp .ge 31, 3) := dq_X9_writeSong_0.2.2.2.2.2.2.2.2.2.2.2.2.2.2.2
theorem dq_X9_writeSong_32 : (decode cX9_writeSong 32 = .ok (.iload_n 2, 1)) ∧ (decode cX9_writeSong 33 = .ok (.sipush 128, 3)) ∧ (decode cX9_writeSong 36 = .ok (.if_icmp .ge 24, 3)) ∧ (decode cX9_writeSong 39 = .ok (.aload_n 0, 1)) ∧ (decode cX9_writeSong 40 = .ok (.sipush 952, 3)) ∧ (decode cX9_writeSong 43 = .ok (.iload_n 2, 1)) ∧ (decode cX9_writeSong 44 = .ok (.iadd, 1)) ∧ (decode cX9_writeSong 45 = .ok (.aload_n 1, 1)) ∧ (decode cX9_writeSong 46 = .ok (.getfield 26, 3)) ∧ (decode cX9_writeSong 49 = .ok (.iload_n 2, 1)) ∧ (decode cX9_writeSong 50 = .ok (.iaload, 1)) ∧ (decode cX9_writeSong 51 = .ok (.invokevirtual 17, 3)) ∧ (decode cX9_writeSong 54 = .ok (.iinc 2 1, 3)) ∧ (decode cX9_writeSong 57 = .ok (.goto (-33), 3)) ∧ (decode cX9_writeSong 60 = .ok (.iconst 0, 1)) ∧ (decode cX9_writeSong 61 = .ok (.istore_n 2, 1)) := by decide +kernel
theorem dX9_writeSong_32 : decode cX9_writeSong 32 = .ok (.iload_n 2, 1) := dq_X9_writeSong_32.1
theorem dX9_writeSong_33 : decode cX9_writeSong 33 = .ok (.sipush 128, 3) := dq_X9_writeSong_32.2.1
theorem dX9_writeSong_36 : decode cX9_writeSong 36 = .ok (.if_icmp .ge 24, 3) := dq_X9_writeSong_32.2.2.1
theorem dX9_writeSong_39 : decode cX9_writeSong 39 = .ok (.aload_n 0, 1) := dq_X9_writeSong_32.2.2.2.1
theorem dX9_writeSong_40 : decode cX9_writeSong 40 = .ok (.sipush 952, 3) := dq_X9_writeSong_32.2.2.2.2.1
theorem dX9_writeSong_43 : decode cX9_writeSong 43 = .ok (.iload_n 2, 1) := dq_X9_writeSong_32.2.2.2.2.2.1
theorem dX9_writeSong_44 : decode cX9_writeSong 44 = .ok (.iadd, 1) := dq_X9_writeSong_32.2.2.2.2.2.2.1
theorem dX9_writeSong_45 : decode cX9_writeSong 45 = .ok (.aload_n 1, 1) := dq_X9_writeSong_32.2.2.2.2.2.2.2.1
theorem dX9_writeSong_46 : decode cX9_writeSong 46 = .ok (.getfield 26, 3) := dq_X9_writeSong_32.2.2.2.2.2.2.2.2.1
theorem dX9_writeSong_49 : decode cX9_writeSong 49 = .ok (.iload_n 2, 1) := dq_X9_writeSong_32.2.2.2.2.2.2.2.2.2.1
theorem dX9_writeSong_50 : decode cX9_writeSong 50 = .ok (.iaload, 1) := dq_X9_writeSong_32.2.2.2.2.2.2.2.2.2.2.1
theorem dX9_writeSong_51 : decode cX9_writeSong 51 = .ok (.invokevirtual 17, 3) := dq_X9_writeSong_32.2.2.2.2.2.2.2.2.2.2.2.1
theorem dX9_writeSong_54 : decode cX9_writeSong 54 = .ok (.iinc 2 1, 3) := dq_X9_writeSong_32.2.2.2.2.2.2.2.2.2.2.2.2.1
theorem dX9_writeSong_57 : decode cX9_writeSong 57 = .ok (.goto (-33), 3) := dq_X9_writeSong_32.2.2.2.2.2.2.2.2.2.2.2.2.2.1
theorem dX9_writeSong_60 : decode cX9_writeSong 60 = .ok (.iconst 0, 1) := dq_X9_writeSong_32.2.2.2.2.2.2.2.2.2.2.2.2.2.2.1
theorem dX9_writeSong_61 : decode cX9_writeSong 61 = .ok (.istore_n 2, 1) := dq_X9_writeSong_32.2.2.2.2.2.2.2.2.2.2.2.2.2.2.2
theorem dq_X9_writeSong_62 : (decode cX9_writeSong 62 = .ok (.iload_n 2, 1)) ∧ (decode cX9_writeSong 63 = .ok (.iconst 4, 1)) ∧ (decode cX9_writeSong 64 = .ok (.if_icmp .ge 22, 3)) ∧ (decode cX9_writeSong 67 = .ok (.aload_n 0, 1)) ∧ (decode cX9_writeSong 68 = .ok (.sipush 1080, 3)) ∧ (decode cX9_writeSong 71 = .ok (.iload_n 2, 1)) ∧ (decode cX9_writeSong 72 = .ok (.iadd, 1)) ∧ (decode cX9_writeSong 73 = .ok (.iload_n 2, 1)) ∧ (decode cX9_writeSong 74 = .ok (.invokestatic 30, 3)) ∧ (decode cX9_writeSong 77 = .ok (.invokevirtual 17, 3)) ∧ (decode cX9_writeSong 80 = .ok (.iinc 2 1, 3)) ∧ (decode cX9_writeSong 83 = .ok (.goto (-21), 3)) ∧ (decode cX9_writeSong 86 = .ok (.aload_n 1, 1)) ∧ (decode cX9_writeSong 87 = .ok (.invokevirtual 34, 3)) ∧ (decode cX9_writeSong 90 = .ok (.istore_n 2, 1)) ∧ (decode cX9_writeSong 91 = .ok (.iconst 0, 1)) := by decide +kernel
theorem dX9_writeSong_62 : decode cX9_writeSong 62 = .ok (.iload_n 2, 1) := dq_X9_writeSong_62.1
theorem dX9_writeSong_63 : decode cX9_writeSong 63 = .ok (.iconst 4, 1) := dq_X9_writeSong_62.2.1
theorem dX9_writeSong_64 : decode cX9_writeSong 64 = .ok (.if_icmp .ge 22, 3) := dq_X9_writeSong_62.2.2.1
theorem dX9_writeSong_67 : decode cX9_writeSong 67 = .ok (.aload_n 0, 1) := dq_X9_writeSong_62.2.2.2.1
theorem dX9_writeSong_68 : decode cX9_writeSong 68 = .ok (.sipush 1080, 3) := dq_X9_writeSong_62.2.2.2.2.1
theorem dX9_writeSong_71 : decode cX9_writeSong 71 = .ok (.iload_n 2, 1) := dq_X9_writeSong_62.2.2.2.2.2.1
theorem dX9_writeSong_72 : decode cX9_writeSong 72 = .ok (.iadd, 1) := dq_X9_writeSong_62.2.2.2.2.2.2.1
theorem dX9_writeSong_73 : decode cX9_writeSong 73 = .ok (.iload_n 2, 1) := dq_X9_writeSong_62.2.2.2.2.2.2.2.1
theorem dX9_writeSong_74 : decode cX9_writeSong 74 = .ok (.invokestatic 30, 3) := dq_X9_writeSong_62.2.2.2.2.2.2.2.2.1
theorem dX9_writeSong_77 : decode cX9_writeSong 77 = .ok (.invokevirtual 17, 3) := dq_X9_writeSong_62.2.2.2.2.2.2.2.2.2.1
theorem dX9_writeSong_80 : decode cX9_writeSong 80 = .ok (.iinc 2 1, 3) := dq_X9_writeSong_62.2.2.2.2.2.2.2.2.2.2.1
theorem dX9_writeSong_83 : decode cX9_writeSong 83 = .ok (.goto (-21), 3) := dq_X9_writeSong_62.2.2.2.2.2.2.2.2.2.2.2.1
theorem dX9_writeSong_86 : decode cX9_writeSong 86 = .ok (.aload_n 1, 1) := dq_X9_writeSong_62.2.2.2.2.2.2.2.2.2.2.2.2.1
theorem dX9_writeSong_87 : decode cX9_writeSong 87 = .ok (.invokevirtual 34, 3) := dq_X9_writeSong_62.2.2.2.2.2.2.2.2.2.2.2.2.2.1
theorem dX9_writeSong_90 : decode cX9_writeSong 90 = .ok (.istore_n 2, 1) := dq_X9_writeSong_62.2.2.2.2.2.2.2.2.2.2.2.2.2.2.1
theorem dX9_writeSong_91 : decode cX9_writeSong 91 = .ok (.iconst 0, 1) := dq_X9_writeSong_62.2.2.2.2.2.2.2.2.2.2.2.2.2.2.2
theorem dq_X9_writeSong_92 : (decode cX9_writeSong 92 = .ok (.istore_n 3, 1)) ∧ (decode cX9_writeSong 93 = .ok (.iload_n 3, 1)) ∧ (decode cX9_writeSong 94 = .ok (.iload_n 2, 1)) ∧ (decode cX9_writeSong 95 = .ok (.if_icmp .ge 15, 3)) ∧ (decode cX9_writeSong 98 = .ok (.aload_n 0, 1)) ∧ (decode cX9_writeSong 99 = .ok (.aload_n 1, 1)) ∧ (decode cX9_writeSong 100 = .ok (.iload_n 3, 1)) ∧ (decode cX9_writeSong 101 = .ok (.invokestatic 38, 3)) ∧ (decode cX9_writeSong 104 = .ok (.iinc 3 1, 3)) ∧ (decode cX9_writeSong 107 = .ok (.goto (-14), 3)) ∧ (decode cX9_writeSong 110 = .ok (.return_, 1)) := by decide +kernel
theorem dX9_writeSong_92 : decode cX9_writeSong 92 = .ok (.istore_n 3, 1) := dq_X9_writeSong_92.1
theorem dX9_writeSong_93 : decode cX9_writeSong 93 = .ok (.iload_n 3, 1) := dq_X9_writeSong_92.2.1
theorem dX9_writeSong_94 : decode cX9_writeSong 94 = .ok (.iload_n 2, 1) := dq_X9_writeSong_92.2.2.1
theorem dX9_writeSong_95 : decode cX9_writeSong 95 = .ok (.if_icmp .ge 15, 3) := dq_X9_writeSong_92.2.2.2.1
theorem dX9_writeSong_98 : decode cX9_writeSong 98 = .ok (.aload_n 0, 1) := dq_X9_writeSong_92.2.2.2.2.1
theorem dX9_writeSong_99 : decode cX9_writeSong 99 = .ok (.aload_n 1, 1) := dq_X9_writeSong_92.2.2.2.2.2.1
theorem dX9_writeSong_100 : decode cX9_writeSong 100 = .ok (.iload_n 3, 1) := dq_X9_writeSong_92.2.2.2.2.2.2.1
theorem dX9_writeSong_101 : decode cX9_writeSong 101 = .ok (.invokestatic 38, 3) := dq_X9_writeSong_92.2.2.2.2.2.2.2.1
theorem dX9_writeSong_104 : decode cX9_writeSong 104 = .ok (.iinc 3 1, 3) := dq_X9_writeSong_92.2.2.2.2.2.2.2.2.1
theorem dX9_writeSong_107 : decode cX9_writeSong 107 = .ok (.goto (-14), 3) := dq_X9_writeSong_92.2.2.2.2.2.2.2.2.2.1
theorem dX9_writeSong_110 : decode cX9_writeSong 110 = .ok (.return_, 1) := dq_X9_writeSong_92.2.2.2.2.2.2.2.2.2.2
theorem dq_X9_writePattern_0 : (decode cX9_writePattern 0 = .ok (.iconst 0, 1)) ∧ (decode cX9_writePattern 1 = .ok (.istore_n 3, 1)) ∧ (decode cX9_writePattern 2 = .ok (.iload_n 3, 1)) ∧ (decode cX9_writePattern 3 = .ok (.bipush 64, 2)) ∧ (decode cX9_writePattern 5 = .ok (.if_icmp .ge 47, 3)) ∧ (decode cX9_writePattern 8 = .ok (.iconst 0, 1)) ∧ (decode cX9_writePattern 9 = .ok (.istore 4, 2)) ∧ (decode cX9_writePattern 11 = .ok (.iload 4, 2)) ∧ (decode cX9_writePattern 13 = .ok (.iconst 4, 1)) ∧ (decode cX9_writePattern 14 = .ok (.if_icmp .ge 32, 3)) ∧ (decode cX9_writePattern 17 = .ok (.iload_n 2, 1)) ∧ (decode cX9_writePattern 18 = .ok (.iload_n 3, 1)) ∧ (decode cX9_writePattern 19 = .ok (.iload 4, 2)) ∧ (decode cX9_writePattern 21 = .ok (.invokestatic 44, 3)) ∧ (decode cX9_writePattern 24 = .ok (.istore 5, 2)) ∧ (decode cX9_writePattern 26 = .ok (.aload_n 0, 1)) := by decide +kernel
theorem dX9_writePattern_0 : decode cX9_writePattern 0 = .ok (.iconst 0, 1) := dq_X9_writePattern_0.1
theorem dX9_writePattern_1 : decode cX9_writePattern 1 = .ok (.istore_n 3, 1) := dq_X9_writePattern_0.2.1
theorem dX9_writePattern_2 : decode cX9_writePattern 2 = .ok (.iload_n 3, 1) := dq_X9_writePattern_0.2.2.1
theorem dX9_writePattern_3 : decode cX9_writePattern 3 = .ok (.bipush 64, 2) := dq_X9_writePattern_0.2.2.2.1
theorem dX9_writePattern_5 : decode cX9_writePattern 5 = .ok (.if_icmp .ge 47, 3) := dq_X9_writePattern_0.2.2.2.2.1
theorem dX9_writePattern_8 : decode cX9_writePattern 8 = .ok (.iconst 0, 1) := dq_X9_writePattern_0.2.2.2.2.2.1
theorem dX9_writePattern_9 : decode cX9_writePattern 9 = .ok (.istore 4, 2) := dq_X9_writePattern_0.2.2.2.2.2.2.1
theorem dX9_writePattern_11 : decode cX9_writePattern 11 = .ok (.iload 4, 2) := dq_X9_writePattern_0.2.2.2.2.2.2.2.1
theorem dX9_writePattern_13 : decode cX9_writePattern 13 = .ok (.iconst 4, 1) := dq_X9_writePattern_0.2.2.2.2.2.2.2.2.1
theorem dX9_writePattern_14 : decode cX9_writePattern 14 = .ok (.if_icmp .ge 32, 3) := dq_X9_writePattern_0.2.2.2.2.2.2.2.2.2.1
theorem dX9_writePattern_17 : decode cX9_writePattern 17 = .ok (.iload_n 2, 1) := dq_X9_writePattern_0.2.2.2.2.2.2.2.2.2.2.1
theorem dX9_writePattern_18 : decode cX9_writePattern 18 = .ok (.iload_n 3, 1) := dq_X9_writePattern_0.2.2.2.2.2.2.2.2.2.2.2.1
theorem dX9_writePattern_19 : decode cX9_writePattern 19 = .ok (.iload 4, 2) := dq_X9_writePattern_0.2.2.2.2.2.2.2.2.2.2.2.2.1
theorem dX9_writePattern_21 : decode cX9_writePattern 21 = .ok (.invokestatic 44, 3) := dq_X9_writePattern_0.2.2.2.2.2.2.2.2.2.2.2.2.2.1
theorem dX9_writePattern_24 : decode cX9_writePattern 24 = .ok (.istore 5, 2) := dq_X9_writePattern_0.2.2.2.2.2.2.2.2.2.2.2.2.2.2.1
theorem dX9_writePattern_26 : decode cX9_writePattern 26 = .ok (.aload_n 0, 1) := dq_X9_writePattern_0.2.2.2.2.2.2.2.2.2.2.2.2.2.2.2
theorem dq_X9_writePattern_27 : (decode cX9_writePattern 27 = .ok (.iload 5, 2)) ∧ (decode cX9_writePattern 29 = .ok (.aload_n 1, 1)) ∧ (decode cX9_writePattern 30 = .ok (.iload_n 2, 1)) ∧ (decode cX9_writePattern 31 = .ok (.iload_n 3, 1)) ∧ (decode cX9_writePattern 32 = .ok (.iload 4, 2)) ∧ (decode cX9_writePattern 34 = .ok (.invokevirtual 48, 3)) ∧ (decode cX9_writePattern 37 = .ok (.invokestatic 51, 3)) ∧ (decode cX9_writePattern 40 = .ok (.iinc 4 1, 3)) ∧ (decode cX9_writePattern 43 = .ok (.goto (-32), 3)) ∧ (decode cX9_writePattern 46 = .ok (.iinc 3 1, 3)) ∧ (decode cX9_writePattern 49 = .ok (.goto (-47), 3)) ∧ (decode cX9_writePattern 52 = .ok (.return_, 1)) := by decide +kernel
theorem dX9_writePattern_27 : decode cX9_writePattern 27 = .ok (.iload 5, 2) := dq_X9_writePattern_27.1
theorem dX9_writePattern_29 : decode cX9_writePattern 29 = .ok (.aload_n 1, 1) := dq_X9_writePattern_27.2.1
theorem dX9_writePattern_30 : decode cX9_writePattern 30 = .ok (.iload_n 2, 1) := dq_X9_writePattern_27.2.2.1
theorem dX9_writePattern_31 : decode cX9_writePattern 31 = .ok (.iload_n 3, 1) := dq_X9_writePattern_27.2.2.2.1
theorem dX9_writePattern_32 : decode cX9_writePattern 32 = .ok (.iload 4, 2) := dq_X9_writePattern_27.2.2.2.2.1
theorem dX9_writePattern_34 : decode cX9_writePattern 34 = .ok (.invokevirtual 48, 3) := dq_X9_writePattern_27.2.2.2.2.2.1
theorem dX9_writePattern_37 : decode cX9_writePattern 37 = .ok (.invokestatic 51, 3) := dq_X9_writePattern_27.2.2.2.2.2.2.1
theorem dX9_writePattern_40 : decode cX9_writePattern 40 = .ok (.iinc 4 1, 3) := dq_X9_writePattern_27.2.2.2.2.2.2.2.1
theorem dX9_writePattern_43 : decode cX9_writePattern 43 = .ok (.goto (-32), 3) := dq_X9_writePattern_27.2.2.2.2.2.2.2.2.1
theorem dX9_writePattern_46 : decode cX9_writePattern 46 = .ok (.iinc 3 1, 3) := dq_X9_writePattern_27.2.2.2.2.2.2.2.2.2.1
theorem dX9_writePattern_49 : decode cX9_writePattern 49 = .ok (.goto (-47), 3) := dq_X9_writePattern_27.2.2.2.2.2.2.2.2.2.2.1
theorem dX9_writePattern_52 : decode cX9_writePattern 52 = .ok (.return_, 1) := dq_X9_writePattern_27.2.2.2.2.2.2.2.2.2.2.2
theorem dq_X9_writeCell_0 : (decode cX9_writeCell 0 = .ok (.iload_n 2, 1)) ∧ (decode cX9_writeCell 1 = .ok (.bipush 17, 2)) ∧ (decode cX9_writeCell 3 = .ok (.ishr, 1)) ∧ (decode cX9_writeCell 4 = .ok (.istore_n 3, 1)) ∧ (decode cX9_writeCell 5 = .ok (.iload_n 2, 1)) ∧ (decode cX9_writeCell 6 = .ok (.bipush 12, 2)) ∧ (decode cX9_writeCell 8 = .ok (.ishr, 1)) ∧ (decode cX9_writeCell 9 = .ok (.bipush 31, 2)) ∧ (decode cX9_writeCell 11 = .ok (.iand, 1)) ∧ (decode cX9_writeCell 12 = .ok (.istore 4, 2)) ∧ (decode cX9_writeCell 14 = .ok (.aload_n 0, 1)) ∧ (decode cX9_writeCell 15 = .ok (.iload_n 1, 1)) ∧ (decode cX9_writeCell 16 = .ok (.iload 4, 2)) ∧ (decode cX9_writeCell 18 = .ok (.bipush 16, 2)) ∧ (decode cX9_writeCell 20 = .ok (.iand, 1)) ∧ (decode cX9_writeCell 21 = .ok (.iload_n 3, 1)) := by decide +kernel
theorem dX9_writeCell_0 : decode cX9_writeCell 0 = .ok (.iload_n 2, 1) := dq_X9_writeCell_0.1
theorem dX9_writeCell_1 : decode cX9_writeCell 1 = .ok (.bipush 17, 2) := dq_X9_writeCell_0.2.1
theorem dX9_writeCell_3 : decode cX9_writeCell 3 = .ok (.ishr, 1) := dq_X9_writeCell_0.2.2.1
theorem dX9_writeCell_4 : decode cX9_writeCell 4 = .ok (.istore_n 3, 1) := dq_X9_writeCell_0.2.2.2.1
theorem dX9_writeCell_5 : decode cX9_writeCell 5 = .ok (.iload_n 2, 1) := dq_X9_writeCell_0.2.2.2.2.1
theorem dX9_writeCell_6 : decode cX9_writeCell 6 = .ok (.bipush 12, 2) := dq_X9_writeCell_0.2.2.2.2.2.1
theorem dX9_writeCell_8 : decode cX9_writeCell 8 = .ok (.ishr, 1) := dq_X9_writeCell_0.2.2.2.2.2.2.1
theorem dX9_writeCell_9 : decode cX9_writeCell 9 = .ok (.bipush 31, 2) := dq_X9_writeCell_0.2.2.2.2.2.2.2.1
theorem dX9_writeCell_11 : decode cX9_writeCell 11 = .ok (.iand, 1) := dq_X9_writeCell_0.2.2.2.2.2.2.2.2.1
theorem dX9_writeCell_12 : decode cX9_writeCell 12 = .ok (.istore 4, 2) := dq_X9_writeCell_0.2.2.2.2.2.2.2.2.2.1
theorem dX9_writeCell_14 : decode cX9_writeCell 14 = .ok (.aload_n 0, 1) := dq_X9_writeCell_0.2.2.2.2.2.2.2.2.2.2.1
theorem dX9_writeCell_15 : decode cX9_writeCell 15 = .ok (.iload_n 1, 1) := dq_X9_writeCell_0.2.2.2.2.2.2.2.2.2.2.2.1
theorem dX9_writeCell_16 : decode cX9_writeCell 16 = .ok (.iload 4, 2) := dq_X9_writeCell_0.2.2.2.2.2.2.2.2.2.2.2.2.1
theorem dX9_writeCell_18 : decode cX9_writeCell 18 = .ok (.bipush 16, 2) := dq_X9_writeCell_0.2.2.2.2.2.2.2.2.2.2.2.2.2.1
theorem dX9_writeCell_20 : decode cX9_writeCell 20 = .ok (.iand, 1) := dq_X9_writeCell_0.2.2.2.2.2.2.2.2.2.2.2.2.2.2.1
theorem dX9_writeCell_21 : decode cX9_writeCell 21 = .ok (.iload_n 3, 1) := dq_X9_writeCell_0.2.2.2.2.2.2.2.2.2.2.2.2.2.2.2
theorem dq_X9_writeCell_22 : (decode cX9_writeCell 22 = .ok (.bipush 8, 2)) ∧ (decode cX9_writeCell 24 = .ok (.ishr, 1)) ∧ (decode cX9_writeCell 25 = .ok (.ior, 1)) ∧ (decode cX9_writeCell 26 = .ok (.invokevirtual 17, 3)) ∧ (decode cX9_writeCell 29 = .ok (.aload_n 0, 1)) ∧ (decode cX9_writeCell 30 = .ok (.iload_n 1, 1)) ∧ (decode cX9_writeCell 31 = .ok (.iconst 1, 1)) ∧ (decode cX9_writeCell 32 = .ok (.iadd, 1)) ∧ (decode cX9_writeCell 33 = .ok (.iload_n 3, 1)) ∧ (decode cX9_writeCell 34 = .ok (.sipush 255, 3)) ∧ (decode cX9_writeCell 37 = .ok (.iand, 1)) ∧ (decode cX9_writeCell 38 = .ok (.invokevirtual 17, 3)) ∧ (decode cX9_writeCell 41 = .ok (.aload_n 0, 1)) ∧ (decode cX9_writeCell 42 = .ok (.iload_n 1, 1)) ∧ (decode cX9_writeCell 43 = .ok (.iconst 2, 1)) ∧ (decode cX9_writeCell 44 = .ok (.iadd, 1)) := by decide +kernel
theorem dX9_writeCell_22 : decode cX9_writeCell 22 = .ok (.bipush 8, 2) := dq_X9_writeCell_22.1
theorem dX9_writeCell_24 : decode cX9_writeCell 24 = .ok (.ishr, 1) := dq_X9_writeCell_22.2.1
theorem dX9_writeCell_25 : decode cX9_writeCell 25 = .ok (.ior, 1) := dq_X9_writeCell_22.2.2.1
theorem dX9_writeCell_26 : decode cX9_writeCell 26 = .ok (.invokevirtual 17, 3) := dq_X9_writeCell_22.2.2.2.1
theorem dX9_writeCell_29 : decode cX9_writeCell 29 = .ok (.aload_n 0, 1) := dq_X9_writeCell_22.2.2.2.2.1
theorem dX9_writeCell_30 : decode cX9_writeCell 30 = .ok (.iload_n 1, 1) := dq_X9_writeCell_22.2.2.2.2.2.1
theorem dX9_writeCell_31 : decode cX9_writeCell 31 = .ok (.iconst 1, 1) := dq_X9_writeCell_22.2.2.2.2.2.2.1
theorem dX9_writeCell_32 : decode cX9_writeCell 32 = .ok (.iadd, 1) := dq_X9_writeCell_22.2.2.2.2.2.2.2.1
theorem dX9_writeCell_33 : decode cX9_writeCell 33 = .ok (.iload_n 3, 1) := dq_X9_writeCell_22.2.2.2.2.2.2.2.2.1
theorem dX9_writeCell_34 : decode cX9_writeCell 34 = .ok (.sipush 255, 3) := dq_X9_writeCell_22.2.2.2.2.2.2.2.2.2.1
theorem dX9_writeCell_37 : decode cX9_writeCell 37 = .ok (.iand, 1) := dq_X9_writeCell_22.2.2.2.2.2.2.2.2.2.2.1
theorem dX9_writeCell_38 : decode cX9_writeCell 38 = .ok (.invokevirtual 17, 3) := dq_X9_writeCell_22.2.2.2.2.2.2.2.2.2.2.2.1
theorem dX9_writeCell_41 : decode cX9_writeCell 41 = .ok (.aload_n 0, 1) := dq_X9_writeCell_22.2.2.2.2.2.2.2.2.2.2.2.2.1
theorem dX9_writeCell_42 : decode cX9_writeCell 42 = .ok (.iload_n 1, 1) := dq_X9_writeCell_22.2.2.2.2.2.2.2.2.2.2.2.2.2.1
theorem dX9_writeCell_43 : decode cX9_writeCell 43 = .ok (.iconst 2, 1) := dq_X9_writeCell_22.2.2.2.2.2.2.2.2.2.2.2.2.2.2.1
theorem dX9_writeCell_44 : decode cX9_writeCell 44 = .ok (.iadd, 1) := dq_X9_writeCell_22.2.2.2.2.2.2.2.2.2.2.2.2.2.2.2
theorem dq_X9_writeCell_45 : (decode cX9_writeCell 45 = .ok (.iload 4, 2)) ∧ (decode cX9_writeCell 47 = .ok (.bipush 15, 2)) ∧ (decode cX9_writeCell 49 = .ok (.iand, 1)) ∧ (decode cX9_writeCell 50 = .ok (.iconst 4, 1)) ∧ (decode cX9_writeCell 51 = .ok (.ishl, 1)) ∧ (decode cX9_writeCell 52 = .ok (.iload_n 2, 1)) ∧ (decode cX9_writeCell 53 = .ok (.bipush 8, 2)) ∧ (decode cX9_writeCell 55 = .ok (.ishr, 1)) ∧ (decode cX9_writeCell 56 = .ok (.bipush 15, 2)) ∧ (decode cX9_writeCell 58 = .ok (.iand, 1)) ∧ (decode cX9_writeCell 59 = .ok (.ior, 1)) ∧ (decode cX9_writeCell 60 = .ok (.invokevirtual 17, 3)) ∧ (decode cX9_writeCell 63 = .ok (.aload_n 0, 1)) ∧ (decode cX9_writeCell 64 = .ok (.iload_n 1, 1)) ∧ (decode cX9_writeCell 65 = .ok (.iconst 3, 1)) ∧ (decode cX9_writeCell 66 = .ok (.iadd, 1)) := by decide +kernel
theorem dX9_writeCell_45 : decode cX9_writeCell 45 = .ok (.iload 4, 2) := dq_X9_writeCell_45.1
theorem dX9_writeCell_47 : decode cX9_writeCell 47 = .ok (.bipush 15, 2) := dq_X9_writeCell_45.2.1
theorem dX9_writeCell_49 : decode cX9_writeCell 49 = .ok (.iand, 1) := dq_X9_writeCell_45.2.2.1
theorem dX9_writeCell_50 : decode cX9_writeCell 50 = .ok (.iconst 4, 1) := dq_X9_writeCell_45.2.2.2.1
theorem dX9_writeCell_51 : decode cX9_writeCell 51 = .ok (.ishl, 1) := dq_X9_writeCell_45.2.2.2.2.1
theorem dX9_writeCell_52 : decode cX9_writeCell 52 = .ok (.iload_n 2, 1) := dq_X9_writeCell_45.2.2.2.2.2.1
theorem dX9_writeCell_53 : decode cX9_writeCell 53 = .ok (.bipush 8, 2) := dq_X9_writeCell_45.2.2.2.2.2.2.1
theorem dX9_writeCell_55 : decode cX9_writeCell 55 = .ok (.ishr, 1) := dq_X9_writeCell_45.2.2.2.2.2.2.2.1
theorem dX9_writeCell_56 : decode cX9_writeCell 56 = .ok (.bipush 15, 2) := dq_X9_writeCell_45.2.2.2.2.2.2.2.2.1
theorem dX9_writeCell_58 : decode cX9_writeCell 58 = .ok (.iand, 1) := dq_X9_writeCell_45.2.2.2.2.2.2.2.2.2.1
theorem dX9_writeCell_59 : decode cX9_writeCell 59 = .ok (.ior, 1) := dq_X9_writeCell_45.2.2.2.2.2.2.2.2.2.2.1
theorem dX9_writeCell_60 : decode cX9_writeCell 60 = .ok (.invokevirtual 17, 3) := dq_X9_writeCell_45.2.2.2.2.2.2.2.2.2.2.2.1
theorem dX9_writeCell_63 : decode cX9_writeCell 63 = .ok (.aload_n 0, 1) := dq_X9_writeCell_45.2.2.2.2.2.2.2.2.2.2.2.2.1
theorem dX9_writeCell_64 : decode cX9_writeCell 64 = .ok (.iload_n 1, 1) := dq_X9_writeCell_45.2.2.2.2.2.2.2.2.2.2.2.2.2.1
theorem dX9_writeCell_65 : decode cX9_writeCell 65 = .ok (.iconst 3, 1) := dq_X9_writeCell_45.2.2.2.2.2.2.2.2.2.2.2.2.2.2.1
theorem dX9_writeCell_66 : decode cX9_writeCell 66 = .ok (.iadd, 1) := dq_X9_writeCell_45.2.2.2.2.2.2.2.2.2.2.2.2.2.2.2
theorem dq_X9_writeCell_67 : (decode cX9_writeCell 67 = .ok (.iload_n 2, 1)) ∧ (decode cX9_writeCell 68 = .ok (.sipush 255, 3)) ∧ (decode cX9_writeCell 71 = .ok (.iand, 1)) ∧ (decode cX9_writeCell 72 = .ok (.invokevirtual 17, 3)) ∧ (decode cX9_writeCell 75 = .ok (.return_, 1)) := by decide +kernel
theorem dX9_writeCell_67 : decode cX9_writeCell 67 = .ok (.iload_n 2, 1) := dq_X9_writeCell_67.1
theorem dX9_writeCell_68 : decode cX9_writeCell 68 = .ok (.sipush 255, 3) := dq_X9_writeCell_67.2.1
theorem dX9_writeCell_71 : decode cX9_writeCell 71 = .ok (.iand, 1) := dq_X9_writeCell_67.2.2.1
theorem dX9_writeCell_72 : decode cX9_writeCell 72 = .ok (.invokevirtual 17, 3) := dq_X9_writeCell_67.2.2.2.1
theorem dX9_writeCell_75 : decode cX9_writeCell 75 = .ok (.return_, 1) := dq_X9_writeCell_67.2.2.2.2
theorem dq_X9_writeSamples_0 : (decode cX9_writeSamples 0 = .ok (.iload_n 2, 1)) ∧ (decode cX9_writeSamples 1 = .ok (.istore_n 3, 1)) ∧ (decode cX9_writeSamples 2 = .ok (.iconst 1, 1)) ∧ (decode cX9_writeSamples 3 = .ok (.istore 4, 2)) ∧ (decode cX9_writeSamples 5 = .ok (.iload 4, 2)) ∧ (decode cX9_writeSamples 7 = .ok (.bipush 31, 2)) ∧ (decode cX9_writeSamples 9 = .ok (.if_icmp .gt 146, 3)) ∧ (decode cX9_writeSamples 12 = .ok (.iload 4, 2)) ∧ (decode cX9_writeSamples 14 = .ok (.invokestatic 55, 3)) ∧ (decode cX9_writeSamples 17 = .ok (.istore 5, 2)) ∧ (decode cX9_writeSamples 19 = .ok (.aload_n 1, 1)) ∧ (decode cX9_writeSamples 20 = .ok (.iload 4, 2)) ∧ (decode cX9_writeSamples 22 = .ok (.invokevirtual 58, 3)) ∧ (decode cX9_writeSamples 25 = .ok (.astore 6, 2)) ∧ (decode cX9_writeSamples 27 = .ok (.aload_n 0, 1)) ∧ (decode cX9_writeSamples 28 = .ok (.iload 5, 2)) := by decide +kernel
theorem dX9_writeSamples_0 : decode cX9_writeSamples 0 = .ok (.iload_n 2, 1) := dq_X9_writeSamples_0.1
theorem dX9_writeSamples_1 : decode cX9_writeSamples 1 = .ok (.istore_n 3, 1) := dq_X9_writeSamples_0.2.1
theorem dX9_writeSamples_2 : decode cX9_writeSamples 2 = .ok (.iconst 1, 1) := dq_X9_writeSamples_0.2.2.1
theorem dX9_writeSamples_3 : decode cX9_writeSamples 3 = .ok (.istore 4, 2) := dq_X9_writeSamples_0.2.2.2.1
theorem dX9_writeSamples_5 : decode cX9_writeSamples 5 = .ok (.iload 4, 2) := dq_X9_writeSamples_0.2.2.2.2.1
theorem dX9_writeSamples_7 : decode cX9_writeSamples 7 = .ok (.bipush 31, 2) := dq_X9_writeSamples_0.2.2.2.2.2.1
theorem dX9_writeSamples_9 : decode cX9_writeSamples 9 = .ok (.if_icmp .gt 146, 3) := dq_X9_writeSamples_0.2.2.2.2.2.2.1
theorem dX9_writeSamples_12 : decode cX9_writeSamples 12 = .ok (.iload 4, 2) := dq_X9_writeSamples_0.2.2.2.2.2.2.2.1
theorem dX9_writeSamples_14 : decode cX9_writeSamples 14 = .ok (.invokestatic 55, 3) := dq_X9_writeSamples_0.2.2.2.2.2.2.2.2.1
theorem dX9_writeSamples_17 : decode cX9_writeSamples 17 = .ok (.istore 5, 2) := dq_X9_writeSamples_0.2.2.2.2.2.2.2.2.2.1
theorem dX9_writeSamples_19 : decode cX9_writeSamples 19 = .ok (.aload_n 1, 1) := dq_X9_writeSamples_0.2.2.2.2.2.2.2.2.2.2.1
theorem dX9_writeSamples_20 : decode cX9_writeSamples 20 = .ok (.iload 4, 2) := dq_X9_writeSamples_0.2.2.2.2.2.2.2.2.2.2.2.1
theorem dX9_writeSamples_22 : decode cX9_writeSamples 22 = .ok (.invokevirtual 58, 3) := dq_X9_writeSamples_0.2.2.2.2.2.2.2.2.2.2.2.2.1
theorem dX9_writeSamples_25 : decode cX9_writeSamples 25 = .ok (.astore 6, 2) := dq_X9_writeSamples_0.2.2.2.2.2.2.2.2.2.2.2.2.2.1
theorem dX9_writeSamples_27 : decode cX9_writeSamples 27 = .ok (.aload_n 0, 1) := dq_X9_writeSamples_0.2.2.2.2.2.2.2.2.2.2.2.2.2.2.1
theorem dX9_writeSamples_28 : decode cX9_writeSamples 28 = .ok (.iload 5, 2) := dq_X9_writeSamples_0.2.2.2.2.2.2.2.2.2.2.2.2.2.2.2
theorem dq_X9_writeSamples_30 : (decode cX9_writeSamples 30 = .ok (.bipush 22, 2)) ∧ (decode cX9_writeSamples 32 = .ok (.iadd, 1)) ∧ (decode cX9_writeSamples 33 = .ok (.aload 6, 2)) ∧ (decode cX9_writeSamples 35 = .ok (.getfield 64, 3)) ∧ (decode cX9_writeSamples 38 = .ok (.iconst 2, 1)) ∧ (decode cX9_writeSamples 39 = .ok (.idiv, 1)) ∧ (decode cX9_writeSamples 40 = .ok (.invokevirtual 67, 3)) ∧ (decode cX9_writeSamples 43 = .ok (.aload_n 0, 1)) ∧ (decode cX9_writeSamples 44 = .ok (.iload 5, 2)) ∧ (decode cX9_writeSamples 46 = .ok (.bipush 24, 2)) ∧ (decode cX9_writeSamples 48 = .ok (.iadd, 1)) ∧ (decode cX9_writeSamples 49 = .ok (.aload 6, 2)) ∧ (decode cX9_writeSamples 51 = .ok (.getfield 70, 3)) ∧ (decode cX9_writeSamples 54 = .ok (.bipush 15, 2)) ∧ (decode cX9_writeSamples 56 = .ok (.iand, 1)) ∧ (decode cX9_writeSamples 57 = .ok (.invokevirtual 17, 3)) := by decide +kernel
theorem dX9_writeSamples_30 : decode cX9_writeSamples 30 = .ok (.bipush 22, 2) := dq_X9_writeSamples_30.1
theorem dX9_writeSamples_32 : decode cX9_writeSamples 32 = .ok (.iadd, 1) := dq_X9_writeSamples_30.2.1
theorem dX9_writeSamples_33 : decode cX9_writeSamples 33 = .ok (.aload 6, 2) := dq_X9_writeSamples_30.2.2.1
theorem dX9_writeSamples_35 : decode cX9_writeSamples 35 = .ok (.getfield 64, 3) := dq_X9_writeSamples_30.2.2.2.1
theorem dX9_writeSamples_38 : decode cX9_writeSamples 38 = .ok (.iconst 2, 1) := dq_X9_writeSamples_30.2.2.2.2.1
theorem dX9_writeSamples_39 : decode cX9_writeSamples 39 = .ok (.idiv, 1) := dq_X9_writeSamples_30.2.2.2.2.2.1
theorem dX9_writeSamples_40 : decode cX9_writeSamples 40 = .ok (.invokevirtual 67, 3) := dq_X9_writeSamples_30.2.2.2.2.2.2.1
theorem dX9_writeSamples_43 : decode cX9_writeSamples 43 = .ok (.aload_n 0, 1) := dq_X9_writeSamples_30.2.2.2.2.2.2.2.1
theorem dX9_writeSamples_44 : decode cX9_writeSamples 44 = .ok (.iload 5, 2) := dq_X9_writeSamples_30.2.2.2.2.2.2.2.2.1
theorem dX9_writeSamples_46 : decode cX9_writeSamples 46 = .ok (.bipush 24, 2) := dq_X9_writeSamples_30.2.2.2.2.2.2.2.2.2.1
theorem dX9_writeSamples_48 : decode cX9_writeSamples 48 = .ok (.iadd, 1) := dq_X9_writeSamples_30.2.2.2.2.2.2.2.2.2.2.1
theorem dX9_writeSamples_49 : decode cX9_writeSamples 49 = .ok (.aload 6, 2) := dq_X9_writeSamples_30.2.2.2.2.2.2.2.2.2.2.2.1
theorem dX9_writeSamples_51 : decode cX9_writeSamples 51 = .ok (.getfield 70, 3) := dq_X9_writeSamples_30.2.2.2.2.2.2.2.2.2.2.2.2.1
theorem dX9_writeSamples_54 : decode cX9_writeSamples 54 = .ok (.bipush 15, 2) := dq_X9_writeSamples_30.2.2.2.2.2.2.2.2.2.2.2.2.2.1
theorem dX9_writeSamples_56 : decode cX9_writeSamples 56 = .ok (.iand, 1) := dq_X9_writeSamples_30.2.2.2.2.2.2.2.2.2.2.2.2.2.2.1
theorem dX9_writeSamples_57 : decode cX9_writeSamples 57 = .ok (.invokevirtual 17, 3) := dq_X9_writeSamples_30.2.2.2.2.2.2.2.2.2.2.2.2.2.2.2
theorem dq_X9_writeSamples_60 : (decode cX9_writeSamples 60 = .ok (.aload_n 0, 1)) ∧ (decode cX9_writeSamples 61 = .ok (.iload 5, 2)) ∧ (decode cX9_writeSamples 63 = .ok (.bipush 25, 2)) ∧ (decode cX9_writeSamples 65 = .ok (.iadd, 1)) ∧ (decode cX9_writeSamples 66 = .ok (.aload 6, 2)) ∧ (decode cX9_writeSamples 68 = .ok (.getfield 73, 3)) ∧ (decode cX9_writeSamples 71 = .ok (.invokevirtual 17, 3)) ∧ (decode cX9_writeSamples 74 = .ok (.aload_n 0, 1)) ∧ (decode cX9_writeSamples 75 = .ok (.iload 5, 2)) ∧ (decode cX9_writeSamples 77 = .ok (.bipush 26, 2)) ∧ (decode cX9_writeSamples 79 = .ok (.iadd, 1)) ∧ (decode cX9_writeSamples 80 = .ok (.aload 6, 2)) ∧ (decode cX9_writeSamples 82 = .ok (.getfield 76, 3)) ∧ (decode cX9_writeSamples 85 = .ok (.iconst 2, 1)) ∧ (decode cX9_writeSamples 86 = .ok (.idiv, 1)) ∧ (decode cX9_writeSamples 87 = .ok (.invokevirtual 67, 3)) := by decide +kernel
theorem dX9_writeSamples_60 : decode cX9_writeSamples 60 = .ok (.aload_n 0, 1) := dq_X9_writeSamples_60.1
theorem dX9_writeSamples_61 : decode cX9_writeSamples 61 = .ok (.iload 5, 2) := dq_X9_writeSamples_60.2.1
theorem dX9_writeSamples_63 : decode cX9_writeSamples 63 = .ok (.bipush 25, 2) := dq_X9_writeSamples_60.2.2.1
theorem dX9_writeSamples_65 : decode cX9_writeSamples 65 = .ok (.iadd, 1) := dq_X9_writeSamples_60.2.2.2.1
theorem dX9_writeSamples_66 : decode cX9_writeSamples 66 = .ok (.aload 6, 2) := dq_X9_writeSamples_60.2.2.2.2.1
theorem dX9_writeSamples_68 : decode cX9_writeSamples 68 = .ok (.getfield 73, 3) := dq_X9_writeSamples_60.2.2.2.2.2.1
theorem dX9_writeSamples_71 : decode cX9_writeSamples 71 = .ok (.invokevirtual 17, 3) := dq_X9_writeSamples_60.2.2.2.2.2.2.1
theorem dX9_writeSamples_74 : decode cX9_writeSamples 74 = .ok (.aload_n 0, 1) := dq_X9_writeSamples_60.2.2.2.2.2.2.2.1
theorem dX9_writeSamples_75 : decode cX9_writeSamples 75 = .ok (.iload 5, 2) := dq_X9_writeSamples_60.2.2.2.2.2.2.2.2.1
theorem dX9_writeSamples_77 : decode cX9_writeSamples 77 = .ok (.bipush 26, 2) := dq_X9_writeSamples_60.2.2.2.2.2.2.2.2.2.1
theorem dX9_writeSamples_79 : decode cX9_writeSamples 79 = .ok (.iadd, 1) := dq_X9_writeSamples_60.2.2.2.2.2.2.2.2.2.2.1
theorem dX9_writeSamples_80 : decode cX9_writeSamples 80 = .ok (.aload 6, 2) := dq_X9_writeSamples_60.2.2.2.2.2.2.2.2.2.2.2.1
theorem dX9_writeSamples_82 : decode cX9_writeSamples 82 = .ok (.getfield 76, 3) := dq_X9_writeSamples_60.2.2.2.2.2.2.2.2.2.2.2.2.1
theorem dX9_writeSamples_85 : decode cX9_writeSamples 85 = .ok (.iconst 2, 1) := dq_X9_writeSamples_60.2.2.2.2.2.2.2.2.2.2.2.2.2.1
theorem dX9_writeSamples_86 : decode cX9_writeSamples 86 = .ok (.idiv, 1) := dq_X9_writeSamples_60.2.2.2.2.2.2.2.2.2.2.2.2.2.2.1
theorem dX9_writeSamples_87 : decode cX9_writeSamples 87 = .ok (.invokevirtual 67, 3) := dq_X9_writeSamples_60.2.2.2.2.2.2.2.2.2.2.2.2.2.2.2
theorem dq_X9_writeSamples_90 : (decode cX9_writeSamples 90 = .ok (.aload_n 0, 1)) ∧ (decode cX9_writeSamples 91 = .ok (.iload 5, 2)) ∧ (decode cX9_writeSamples 93 = .ok (.bipush 28, 2)) ∧ (decode cX9_writeSamples 95 = .ok (.iadd, 1)) ∧ (decode cX9_writeSamples 96 = .ok (.aload 6, 2)) ∧ (decode cX9_writeSamples 98 = .ok (.getfield 79, 3)) ∧ (decode cX9_writeSamples 101 = .ok (.iconst 2, 1)) ∧ (decode cX9_writeSamples 102 = .ok (.idiv, 1)) ∧ (decode cX9_writeSamples 103 = .ok (.invokevirtual 67, 3)) ∧ (decode cX9_writeSamples 106 = .ok (.iconst 0, 1)) ∧ (decode cX9_writeSamples 107 = .ok (.istore 7, 2)) ∧ (decode cX9_writeSamples 109 = .ok (.iload 7, 2)) ∧ (decode cX9_writeSamples 111 = .ok (.aload 6, 2)) ∧ (decode cX9_writeSamples 113 = .ok (.getfield 64, 3)) ∧ (decode cX9_writeSamples 116 = .ok (.if_icmp .ge 25, 3)) ∧ (decode cX9_writeSamples 119 = .ok (.aload_n 0, 1)) := by decide +kernel
theorem dX9_writeSamples_90 : decode cX9_writeSamples 90 = .ok (.aload_n 0, 1) := dq_X9_writeSamples_90.1
theorem dX9_writeSamples_91 : decode cX9_writeSamples 91 = .ok (.iload 5, 2) := dq_X9_writeSamples_90.2.1
theorem dX9_writeSamples_93 : decode cX9_writeSamples 93 = .ok (.bipush 28, 2) := dq_X9_writeSamples_90.2.2.1
theorem dX9_writeSamples_95 : decode cX9_writeSamples 95 = .ok (.iadd, 1) := dq_X9_writeSamples_90.2.2.2.1
theorem dX9_writeSamples_96 : decode cX9_writeSamples 96 = .ok (.aload 6, 2) := dq_X9_writeSamples_90.2.2.2.2.1
theorem dX9_writeSamples_98 : decode cX9_writeSamples 98 = .ok (.getfield 79, 3) := dq_X9_writeSamples_90.2.2.2.2.2.1
theorem dX9_writeSamples_101 : decode cX9_writeSamples 101 = .ok (.iconst 2, 1) := dq_X9_writeSamples_90.2.2.2.2.2.2.1
theorem dX9_writeSamples_102 : decode cX9_writeSamples 102 = .ok (.idiv, 1) := dq_X9_writeSamples_90.2.2.2.2.2.2.2.1
theorem dX9_writeSamples_103 : decode cX9_writeSamples 103 = .ok (.invokevirtual 67, 3) := dq_X9_writeSamples_90.2.2.2.2.2.2.2.2.1
theorem dX9_writeSamples_106 : decode cX9_writeSamples 106 = .ok (.iconst 0, 1) := dq_X9_writeSamples_90.2.2.2.2.2.2.2.2.2.1
theorem dX9_writeSamples_107 : decode cX9_writeSamples 107 = .ok (.istore 7, 2) := dq_X9_writeSamples_90.2.2.2.2.2.2.2.2.2.2.1
theorem dX9_writeSamples_109 : decode cX9_writeSamples 109 = .ok (.iload 7, 2) := dq_X9_writeSamples_90.2.2.2.2.2.2.2.2.2.2.2.1
theorem dX9_writeSamples_111 : decode cX9_writeSamples 111 = .ok (.aload 6, 2) := dq_X9_writeSamples_90.2.2.2.2.2.2.2.2.2.2.2.2.1
theorem dX9_writeSamples_113 : decode cX9_writeSamples 113 = .ok (.getfield 64, 3) := dq_X9_writeSamples_90.2.2.2.2.2.2.2.2.2.2.2.2.2.1
theorem dX9_writeSamples_116 : decode cX9_writeSamples 116 = .ok (.if_icmp .ge 25, 3) := dq_X9_writeSamples_90.2.2.2.2.2.2.2.2.2.2.2.2.2.2.1
theorem dX9_writeSamples_119 : decode cX9_writeSamples 119 = .ok (.aload_n 0, 1) := dq_X9_writeSamples_90.2.2.2.2.2.2.2.2.2.2.2.2.2.2.2
theorem dq_X9_writeSamples_120 : (decode cX9_writeSamples 120 = .ok (.iload_n 3, 1)) ∧ (decode cX9_writeSamples 121 = .ok (.iload 7, 2)) ∧ (decode cX9_writeSamples 123 = .ok (.iadd, 1)) ∧ (decode cX9_writeSamples 124 = .ok (.aload_n 1, 1)) ∧ (decode cX9_writeSamples 125 = .ok (.aload 6, 2)) ∧ (decode cX9_writeSamples 127 = .ok (.iload 7, 2)) ∧ (decode cX9_writeSamples 129 = .ok (.invokevirtual 82, 3)) ∧ (decode cX9_writeSamples 132 = .ok (.invokevirtual 17, 3)) ∧ (decode cX9_writeSamples 135 = .ok (.iinc 7 1, 3)) ∧ (decode cX9_writeSamples 138 = .ok (.goto (-29), 3)) ∧ (decode cX9_writeSamples 141 = .ok (.iload_n 3, 1)) ∧ (decode cX9_writeSamples 142 = .ok (.aload 6, 2)) ∧ (decode cX9_writeSamples 144 = .ok (.getfield 64, 3)) ∧ (decode cX9_writeSamples 147 = .ok (.iadd, 1)) ∧ (decode cX9_writeSamples 148 = .ok (.istore_n 3, 1)) ∧ (decode cX9_writeSamples 149 = .ok (.iinc 4 1, 3)) := by decide +kernel
theorem dX9_writeSamples_120 : decode cX9_writeSamples 120 = .ok (.iload_n 3, 1) := dq_X9_writeSamples_120.1
theorem dX9_writeSamples_121 : decode cX9_writeSamples 121 = .ok (.iload 7, 2) := dq_X9_writeSamples_120.2.1
theorem dX9_writeSamples_123 : decode cX9_writeSamples 123 = .ok (.iadd, 1) := dq_X9_writeSamples_120.2.2.1
theorem dX9_writeSamples_124 : decode cX9_writeSamples 124 = .ok (.aload_n 1, 1) := dq_X9_writeSamples_120.2.2.2.1
theorem dX9_writeSamples_125 : decode cX9_writeSamples 125 = .ok (.aload 6, 2) := dq_X9_writeSamples_120.2.2.2.2.1
theorem dX9_writeSamples_127 : decode cX9_writeSamples 127 = .ok (.iload 7, 2) := dq_X9_writeSamples_120.2.2.2.2.2.1
theorem dX9_writeSamples_129 : decode cX9_writeSamples 129 = .ok (.invokevirtual 82, 3) := dq_X9_writeSamples_120.2.2.2.2.2.2.1
theorem dX9_writeSamples_132 : decode cX9_writeSamples 132 = .ok (.invokevirtual 17, 3) := dq_X9_writeSamples_120.2.2.2.2.2.2.2.1
theorem dX9_writeSamples_135 : decode cX9_writeSamples 135 = .ok (.iinc 7 1, 3) := dq_X9_writeSamples_120.2.2.2.2.2.2.2.2.1
theorem dX9_writeSamples_138 : decode cX9_writeSamples 138 = .ok (.goto (-29), 3) := dq_X9_writeSamples_120.2.2.2.2.2.2.2.2.2.1
theorem dX9_writeSamples_141 : decode cX9_writeSamples 141 = .ok (.iload_n 3, 1) := dq_X9_writeSamples_120.2.2.2.2.2.2.2.2.2.2.1
theorem dX9_writeSamples_142 : decode cX9_writeSamples 142 = .ok (.aload 6, 2) := dq_X9_writeSamples_120.2.2.2.2.2.2.2.2.2.2.2.1
theorem dX9_writeSamples_144 : decode cX9_writeSamples 144 = .ok (.getfield 64, 3) := dq_X9_writeSamples_120.2.2.2.2.2.2.2.2.2.2.2.2.1
theorem dX9_writeSamples_147 : decode cX9_writeSamples 147 = .ok (.iadd, 1) := dq_X9_writeSamples_120.2.2.2.2.2.2.2.2.2.2.2.2.2.1
theorem dX9_writeSamples_148 : decode cX9_writeSamples 148 = .ok (.istore_n 3, 1) := dq_X9_writeSamples_120.2.2.2.2.2.2.2.2.2.2.2.2.2.2.1
theorem dX9_writeSamples_149 : decode cX9_writeSamples 149 = .ok (.iinc 4 1, 3) := dq_X9_writeSamples_120.2.2.2.2.2.2.2.2.2.2.2.2.2.2.2
theorem dq_X9_writeSamples_152 : (decode cX9_writeSamples 152 = .ok (.goto (-147), 3)) ∧ (decode cX9_writeSamples 155 = .ok (.return_, 1)) := by decide +kernel
theorem dX9_writeSamples_152 : decode cX9_writeSamples 152 = .ok (.goto (-147), 3) := dq_X9_writeSamples_152.1
theorem dX9_writeSamples_155 : decode cX9_writeSamples 155 = .ok (.return_, 1) := dq_X9_writeSamples_152.2
theorem dq_X10_init_0 : (decode cX10_init 0 = .ok (.aload_n 0, 1)) ∧ (decode cX10_init 1 = .ok (.invokespecial 1, 3)) ∧ (decode cX10_init 4 = .ok (.aload_n 0, 1)) ∧ (decode cX10_init 5 = .ok (.new 7, 3)) ∧ (decode cX10_init 8 = .ok (.dup, 1)) ∧ (decode cX10_init 9 = .ok (.invokespecial 9, 3)) ∧ (decode cX10_init 12 = .ok (.putfield 10, 3)) ∧ (decode cX10_init 15 = .ok (.aload_n 0, 1)) ∧ (decode cX10_init 16 = .ok (.new 16, 3)) ∧ (decode cX10_init 19 = .ok (.dup, 1)) ∧ (decode cX10_init 20 = .ok (.invokespecial 18, 3)) ∧ (decode cX10_init 23 = .ok (.putfield 19, 3)) ∧ (decode cX10_init 26 = .ok (.aload_n 0, 1)) ∧ (decode cX10_init 27 = .ok (.new 23, 3)) ∧ (decode cX10_init 30 = .ok (.dup, 1)) ∧ (decode cX10_init 31 = .ok (.invokespecial 25, 3)) := by decide +kernel
theorem dX10_init_0 : decode cX10_init 0 = .ok (.aload_n 0, 1) := dq_X10_init_0.1
theorem dX10_init_1 : decode cX10_init 1 = .ok (.invokespecial 1, 3) := dq_X10_init_0.2.1
theorem dX10_init_4 : decode cX10_init 4 = .ok (.aload_n 0, 1) := dq_X10_init_0.2.2.1
theorem dX10_init_5 : decode cX10_init 5 = .ok (.new 7, 3) := dq_X10_init_0.2.2.2.1
theorem dX10_init_8 : decode cX10_init 8 = .ok (.dup, 1) := dq_X10_init_0.2.2.2.2.1
theorem dX10_init_9 : decode cX10_init 9 = .ok (.invokespecial 9, 3) := dq_X10_init_0.2.2.2.2.2.1
theorem dX10_init_12 : decode cX10_init 12 = .ok (.putfield 10, 3) := dq_X10_init_0.2.2.2.2.2.2.1
theorem dX10_init_15 : decode cX10_init 15 = .ok (.aload_n 0, 1) := dq_X10_init_0.2.2.2.2.2.2.2.1
theorem dX10_init_16 : decode cX10_init 16 = .ok (.new 16, 3) := dq_X10_init_0.2.2.2.2.2.2.2.2.1
theorem dX10_init_19 : decode cX10_init 19 = .ok (.dup, 1) := dq_X10_init_0.2.2.2.2.2.2.2.2.2.1
theorem dX10_init_20 : decode cX10_init 20 = .ok (.invokespecial 18, 3) := dq_X10_init_0.2.2.2.2.2.2.2.2.2.2.1
theorem dX10_init_23 : decode cX10_init 23 = .ok (.putfield 19, 3) := dq_X10_init_0.2.2.2.2.2.2.2.2.2.2.2.1
theorem dX10_init_26 : decode cX10_init 26 = .ok (.aload_n 0, 1) := dq_X10_init_0.2.2.2.2.2.2.2.2.2.2.2.2.1
theorem dX10_init_27 : decode cX10_init 27 = .ok (.new 23, 3) := dq_X10_init_0.2.2.2.2.2.2.2.2.2.2.2.2.2.1
theorem dX10_init_30 : decode cX10_init 30 = .ok (.dup, 1) := dq_X10_init_0.2.2.2.2.2.2.2.2.2.2.2.2.2.2.1
theorem dX10_init_31 : decode cX10_init 31 = .ok (.invokespecial 25, 3) := dq_X10_init_0.2.2.2.2.2.2.2.2.2.2.2.2.2.2.2
theorem dq_X10_init_34 : (decode cX10_init 34 = .ok (.putfield 26, 3)) ∧ (decode cX10_init 37 = .ok (.aload_n 0, 1)) ∧ (decode cX10_init 38 = .ok (.new 30, 3)) ∧ (decode cX10_init 41 = .ok (.dup, 1)) ∧ (decode cX10_init 42 = .ok (.invokespecial 32, 3)) ∧ (decode cX10_init 45 = .ok (.putfield 33, 3)) ∧ (decode cX10_init 48 = .ok (.aload_n 0, 1)) ∧ (decode cX10_init 49 = .ok (.new 37, 3)) ∧ (decode cX10_init 52 = .ok (.dup, 1)) ∧ (decode cX10_init 53 = .ok (.aload_n 0, 1)) ∧ (decode cX10_init 54 = .ok (.getfield 26, 3)) ∧ (decode cX10_init 57 = .ok (.invokespecial 39, 3)) ∧ (decode cX10_init 60 = .ok (.putfield 42, 3)) ∧ (decode cX10_init 63 = .ok (.aload_n 0, 1)) ∧ (decode cX10_init 64 = .ok (.iconst 4, 1)) ∧ (decode cX10_init 65 = .ok (.anewarray 46, 3)) := by decide +kernel
theorem dX10_init_34 : decode cX10_init 34 = .ok (.putfield 26, 3) := dq_X10_init_34.1
theorem dX10_init_37 : decode cX10_init 37 = .ok (.aload_n 0, 1) := dq_X10_init_34.2.1
theorem dX10_init_38 : decode cX10_init 38 = .ok (.new 30, 3) := dq_X10_init_34.2.2.1
theorem dX10_init_41 : decode cX10_init 41 = .ok (.dup, 1) := dq_X10_init_34.2.2.2.1
theorem dX10_init_42 : decode cX10_init 42 = .ok (.invokespecial 32, 3) := dq_X10_init_34.2.2.2.2.1
theorem dX10_init_45 : decode cX10_init 45 = .ok (.putfield 33, 3) := dq_X10_init_34.2.2.2.2.2.1
theorem dX10_init_48 : decode cX10_init 48 = .ok (.aload_n 0, 1) := dq_X10_init_34.2.2.2.2.2.2.1
theorem dX10_init_49 : decode cX10_init 49 = .ok (.new 37, 3) := dq_X10_init_34.2.2.2.2.2.2.2.1
theorem dX10_init_52 : decode cX10_init 52 = .ok (.dup, 1) := dq_X10_init_34.2.2.2.2.2.2.2.2.1
theorem dX10_init_53 : decode cX10_init 53 = .ok (.aload_n 0, 1) := dq_X10_init_34.2.2.2.2.2.2.2.2.2.1
theorem dX10_init_54 : decode cX10_init 54 = .ok (.getfield 26, 3) := dq_X10_init_34.2.2.2.2.2.2.2.2.2.2.1
theorem dX10_init_57 : decode cX10_init 57 = .ok (.invokespecial 39, 3) := dq_X10_init_34.2.2.2.2.2.2.2.2.2.2.2.1
theorem dX10_init_60 : decode cX10_init 60 = .ok (.putfield 42, 3) := dq_X10_init_34.2.2.2.2.2.2.2.2.2.2.2.2.1
theorem dX10_init_63 : decode cX10_init 63 = .ok (.aload_n 0, 1) := dq_X10_init_34.2.2.2.2.2.2.2.2.2.2.2.2.2.1
theorem dX10_init_64 : decode cX10_init 64 = .ok (.iconst 4, 1) := dq_X10_init_34.2.2.2.2.2.2.2.2.2.2.2.2.2.2.1
theorem dX10_init_65 : decode cX10_init 65 = .ok (.anewarray 46, 3) := dq_X10_init_34.2.2.2.2.2.2.2.2.2.2.2.2.2.2.2
theorem dq_X10_init_68 : (decode cX10_init 68 = .ok (.putfield 48, 3)) ∧ (decode cX10_init 71 = .ok (.iconst 0, 1)) ∧ (decode cX10_init 72 = .ok (.istore_n 2, 1)) ∧ (decode cX10_init 73 = .ok (.iload_n 2, 1)) ∧ (decode cX10_init 74 = .ok (.iconst 4, 1)) ∧ (decode cX10_init 75 = .ok (.if_icmp .ge 26, 3)) ∧ (decode cX10_init 78 = .ok (.aload_n 0, 1)) ∧ (decode cX10_init 79 = .ok (.getfield 48, 3)) ∧ (decode cX10_init 82 = .ok (.iload_n 2, 1)) ∧ (decode cX10_init 83 = .ok (.new 46, 3)) ∧ (decode cX10_init 86 = .ok (.dup, 1)) ∧ (decode cX10_init 87 = .ok (.aload_n 0, 1)) ∧ (decode cX10_init 88 = .ok (.getfield 19, 3)) ∧ (decode cX10_init 91 = .ok (.invokespecial 52, 3)) ∧ (decode cX10_init 94 = .ok (.aastore, 1)) ∧ (decode cX10_init 95 = .ok (.iinc 2 1, 3)) := by decide +kernel
theorem dX10_init_68 : decode cX10_init 68 = .ok (.putfield 48, 3) := dq_X10_init_68.1
theorem dX10_init_71 : decode cX10_init 71 = .ok (.iconst 0, 1) := dq_X10_init_68.2.1
theorem dX10_init_72 : decode cX10_init 72 = .ok (.istore_n 2, 1) := dq_X10_init_68.2.2.1
theorem dX10_init_73 : decode cX10_init 73 = .ok (.iload_n 2, 1) := dq_X10_init_68.2.2.2.1
theorem dX10_init_74 : decode cX10_init 74 = .ok (.iconst 4, 1) := dq_X10_init_68.2.2.2.2.1
theorem dX10_init_75 : decode cX10_init 75 = .ok (.if_icmp .ge 26, 3) := dq_X10_init_68.2.2.2.2.2.1
theorem dX10_init_78 : decode cX10_init 78 = .ok (.aload_n 0, 1) := dq_X10_init_68.2.2.2.2.2.2.1
theorem dX10_init_79 : decode cX10_init 79 = .ok (.getfield 48, 3) := dq_X10_init_68.2.2.2.2.2.2.2.1
theorem dX10_init_82 : decode cX10_init 82 = .ok (.iload_n 2, 1) := dq_X10_init_68.2.2.2.2.2.2.2.2.1
theorem dX10_init_83 : decode cX10_init 83 = .ok (.new 46, 3) := dq_X10_init_68.2.2.2.2.2.2.2.2.2.1
theorem dX10_init_86 : decode cX10_init 86 = .ok (.dup, 1) := dq_X10_init_68.2.2.2.2.2.2.2.2.2.2.1
theorem dX10_init_87 : decode cX10_init 87 = .ok (.aload_n 0, 1) := dq_X10_init_68.2.2.2.2.2.2.2.2.2.2.2.1
theorem dX10_init_88 : decode cX10_init 88 = .ok (.getfield 19, 3) := dq_X10_init_68.2.2.2.2.2.2.2.2.2.2.2.2.1
theorem dX10_init_91 : decode cX10_init 91 = .ok (.invokespecial 52, 3) := dq_X10_init_68.2.2.2.2.2.2.2.2.2.2.2.2.2.1
theorem dX10_init_94 : decode cX10_init 94 = .ok (.aastore, 1) := dq_X10_init_68.2.2.2.2.2.2.2.2.2.2.2.2.2.2.1
theorem dX10_init_95 : decode cX10_init 95 = .ok (.iinc 2 1, 3) := dq_X10_init_68.2.2.2.2.2.2.2.2.2.2.2.2.2.2.2
theorem dq_X10_init_98 : (decode cX10_init 98 = .ok (.goto (-25), 3)) ∧ (decode cX10_init 101 = .ok (.aload_n 0, 1)) ∧ (decode cX10_init 102 = .ok (.new 55, 3)) ∧ (decode cX10_init 105 = .ok (.dup, 1)) ∧ (decode cX10_init 106 = .ok (.iload_n 1, 1)) ∧ (decode cX10_init 107 = .ok (.sipush 2000, 3)) ∧ (decode cX10_init 110 = .ok (.sipush 16000, 3)) ∧ (decode cX10_init 113 = .ok (.invokestatic 57, 3)) ∧ (decode cX10_init 116 = .ok (.invokespecial 61, 3)) ∧ (decode cX10_init 119 = .ok (.putfield 64, 3)) ∧ (decode cX10_init 122 = .ok (.aload_n 0, 1)) ∧ (decode cX10_init 123 = .ok (.invokevirtual 68, 3)) ∧ (decode cX10_init 126 = .ok (.return_, 1)) := by decide +kernel
theorem dX10_init_98 : decode cX10_init 98 = .ok (.goto (-25), 3) := dq_X10_init_98.1
theorem dX10_init_101 : decode cX10_init 101 = .ok (.aload_n 0, 1) := dq_X10_init_98.2.1
theorem dX10_init_102 : decode cX10_init 102 = .ok (.new 55, 3) := dq_X10_init_98.2.2.1
theorem dX10_init_105 : decode cX10_init 105 = .ok (.dup, 1) := dq_X10_init_98.2.2.2.1
theorem dX10_init_106 : decode cX10_init 106 = .ok (.iload_n 1, 1) := dq_X10_init_98.2.2.2.2.1
theorem dX10_init_107 : decode cX10_init 107 = .ok (.sipush 2000, 3) := dq_X10_init_98.2.2.2.2.2.1
theorem dX10_init_110 : decode cX10_init 110 = .ok (.sipush 16000, 3) := dq_X10_init_98.2.2.2.2.2.2.1
theorem dX10_init_113 : decode cX10_init 113 = .ok (.invokestatic 57, 3) := dq_X10_init_98.2.2.2.2.2.2.2.1
theorem dX10_init_116 : decode cX10_init 116 = .ok (.invokespecial 61, 3) := dq_X10_init_98.2.2.2.2.2.2.2.2.1
theorem dX10_init_119 : decode cX10_init 119 = .ok (.putfield 64, 3) := dq_X10_init_98.2.2.2.2.2.2.2.2.2.1
theorem dX10_init_122 : decode cX10_init 122 = .ok (.aload_n 0, 1) := dq_X10_init_98.2.2.2.2.2.2.2.2.2.2.1
theorem dX10_init_123 : decode cX10_init 123 = .ok (.invokevirtual 68, 3) := dq_X10_init_98.2.2.2.2.2.2.2.2.2.2.2.1
theorem dX10_init_126 : decode cX10_init 126 = .ok (.return_, 1) := dq_X10_init_98.2.2.2.2.2.2.2.2.2.2.2.2
theorem dq_X10_feed_0 : (decode cX10_feed 0 = .ok (.aload_n 0, 1)) ∧ (decode cX10_feed 1 = .ok (.getfield 10, 3)) ∧ (decode cX10_feed 4 = .ok (.getfield 71, 3)) ∧ (decode cX10_feed 7 = .ok (.sipush 8980, 3)) ∧ (decode cX10_feed 10 = .ok (.if_icmp .le 5, 3)) ∧ (decode cX10_feed 13 = .ok (.iconst (-1), 1)) ∧ (decode cX10_feed 14 = .ok (.ireturn, 1)) ∧ (decode cX10_feed 15 = .ok (.aload_n 0, 1)) ∧ (decode cX10_feed 16 = .ok (.getfield 10, 3)) ∧ (decode cX10_feed 19 = .ok (.iload_n 1, 1)) ∧ (decode cX10_feed 20 = .ok (.invokevirtual 75, 3)) ∧ (decode cX10_feed 23 = .ok (.aload_n 0, 1)) ∧ (decode cX10_feed 24 = .ok (.getfield 10, 3)) ∧ (decode cX10_feed 27 = .ok (.iload_n 2, 1)) ∧ (decode cX10_feed 28 = .ok (.invokevirtual 75, 3)) ∧ (decode cX10_feed 31 = .ok (.aload_n 0, 1)) := by decide +kernel
theorem dX10_feed_0 : decode cX10_feed 0 = .ok (.aload_n 0, 1) := dq_X10_feed_0.1
theorem dX10_feed_1 : decode cX10_feed 1 = .ok (.getfield 10, 3) := dq_X10_feed_0.2.1
theorem dX10_feed_4 : decode cX10_feed 4 = .ok (.getfield 71, 3) := dq_X10_feed_0.2.2.1
theorem dX10_feed_7 : decode cX10_feed 7 = .ok (.sipush 8980, 3) := dq_X10_feed_0.2.2.2.1
theorem dX10_feed_10 : decode cX10_feed 10 = .ok (.if_icmp .le 5, 3) := dq_X10_feed_0.2.2.2.2.1
theorem dX10_feed_13 : decode cX10_feed 13 = .ok (.iconst (-1), 1) := dq_X10_feed_0.2.2.2.2.2.1
theorem dX10_feed_14 : decode cX10_feed 14 = .ok (.ireturn, 1) := dq_X10_feed_0.2.2.2.2.2.2.1
theorem dX10_feed_15 : decode cX10_feed 15 = .ok (.aload_n 0, 1) := dq_X10_feed_0.2.2.2.2.2.2.2.1
theorem dX10_feed_16 : decode cX10_feed 16 = .ok (.getfield 10, 3) := dq_X10_feed_0.2.2.2.2.2.2.2.2.1
theorem dX10_feed_19 : decode cX10_feed 19 = .ok (.iload_n 1, 1) := dq_X10_feed_0.2.2.2.2.2.2.2.2.2.1
theorem dX10_feed_20 : decode cX10_feed 20 = .ok (.invokevirtual 75, 3) := dq_X10_feed_0.2.2.2.2.2.2.2.2.2.2.1
theorem dX10_feed_23 : decode cX10_feed 23 = .ok (.aload_n 0, 1) := dq_X10_feed_0.2.2.2.2.2.2.2.2.2.2.2.1
theorem dX10_feed_24 : decode cX10_feed 24 = .ok (.getfield 10, 3) := dq_X10_feed_0.2.2.2.2.2.2.2.2.2.2.2.2.1
theorem dX10_feed_27 : decode cX10_feed 27 = .ok (.iload_n 2, 1) := dq_X10_feed_0.2.2.2.2.2.2.2.2.2.2.2.2.2.1
theorem dX10_feed_28 : decode cX10_feed 28 = .ok (.invokevirtual 75, 3) := dq_X10_feed_0.2.2.2.2.2.2.2.2.2.2.2.2.2.2.1
theorem dX10_feed_31 : decode cX10_feed 31 = .ok (.aload_n 0, 1) := dq_X10_feed_0.2.2.2.2.2.2.2.2.2.2.2.2.2.2.2
theorem dq_X10_feed_32 : (decode cX10_feed 32 = .ok (.getfield 10, 3)) ∧ (decode cX10_feed 35 = .ok (.iload_n 3, 1)) ∧ (decode cX10_feed 36 = .ok (.invokevirtual 75, 3)) ∧ (decode cX10_feed 39 = .ok (.aload_n 0, 1)) ∧ (decode cX10_feed 40 = .ok (.getfield 10, 3)) ∧ (decode cX10_feed 43 = .ok (.iload 4, 2)) ∧ (decode cX10_feed 45 = .ok (.invokevirtual 75, 3)) ∧ (decode cX10_feed 48 = .ok (.aload_n 0, 1)) ∧ (decode cX10_feed 49 = .ok (.getfield 10, 3)) ∧ (decode cX10_feed 52 = .ok (.iload 5, 2)) ∧ (decode cX10_feed 54 = .ok (.invokevirtual 75, 3)) ∧ (decode cX10_feed 57 = .ok (.aload_n 0, 1)) ∧ (decode cX10_feed 58 = .ok (.getfield 10, 3)) ∧ (decode cX10_feed 61 = .ok (.getfield 71, 3)) ∧ (decode cX10_feed 64 = .ok (.ireturn, 1)) := by decide +kernel
theorem dX10_feed_32 : decode cX10_feed 32 = .ok (.getfield 10, 3) := dq_X10_feed_32.1
theorem dX10_feed_35 : decode cX10_feed 35 = .ok (.iload_n 3, 1) := dq_X10_feed_32.2.1
theorem dX10_feed_36 : decode cX10_feed 36 = .ok (.invokevirtual 75, 3) := dq_X10_feed_32.2.2.1
theorem dX10_feed_39 : decode cX10_feed 39 = .ok (.aload_n 0, 1) := dq_X10_feed_32.2.2.2.1
theorem dX10_feed_40 : decode cX10_feed 40 = .ok (.getfield 10, 3) := dq_X10_feed_32.2.2.2.2.1
theorem dX10_feed_43 : decode cX10_feed 43 = .ok (.iload 4, 2) := dq_X10_feed_32.2.2.2.2.2.1
theorem dX10_feed_45 : decode cX10_feed 45 = .ok (.invokevirtual 75, 3) := dq_X10_feed_32.2.2.2.2.2.2.1
theorem dX10_feed_48 : decode cX10_feed 48 = .ok (.aload_n 0, 1) := dq_X10_feed_32.2.2.2.2.2.2.2.1
theorem dX10_feed_49 : decode cX10_feed 49 = .ok (.getfield 10, 3) := dq_X10_feed_32.2.2.2.2.2.2.2.2.1
theorem dX10_feed_52 : decode cX10_feed 52 = .ok (.iload 5, 2) := dq_X10_feed_32.2.2.2.2.2.2.2.2.2.1
theorem dX10_feed_54 : decode cX10_feed 54 = .ok (.invokevirtual 75, 3) := dq_X10_feed_32.2.2.2.2.2.2.2.2.2.2.1
theorem dX10_feed_57 : decode cX10_feed 57 = .ok (.aload_n 0, 1) := dq_X10_feed_32.2.2.2.2.2.2.2.2.2.2.2.1
theorem dX10_feed_58 : decode cX10_feed 58 = .ok (.getfield 10, 3) := dq_X10_feed_32.2.2.2.2.2.2.2.2.2.2.2.2.1
theorem dX10_feed_61 : decode cX10_feed 61 = .ok (.getfield 71, 3) := dq_X10_feed_32.2.2.2.2.2.2.2.2.2.2.2.2.2.1
theorem dX10_feed_64 : decode cX10_feed 64 = .ok (.ireturn, 1) := dq_X10_feed_32.2.2.2.2.2.2.2.2.2.2.2.2.2.2
theorem dq_X10_end_0 : (decode cX10_end 0 = .ok (.iload_n 1, 1)) ∧ (decode cX10_end 1 = .ok (.ifCond .lt 14, 3)) ∧ (decode cX10_end 4 = .ok (.iload_n 1, 1)) ∧ (decode cX10_end 5 = .ok (.aload_n 0, 1)) ∧ (decode cX10_end 6 = .ok (.getfield 10, 3)) ∧ (decode cX10_end 9 = .ok (.getfield 71, 3)) ∧ (decode cX10_end 12 = .ok (.if_icmp .le 5, 3)) ∧ (decode cX10_end 15 = .ok (.iconst 0, 1)) ∧ (decode cX10_end 16 = .ok (.ireturn, 1)) ∧ (decode cX10_end 17 = .ok (.aload_n 0, 1)) ∧ (decode cX10_end 18 = .ok (.getfield 10, 3)) ∧ (decode cX10_end 21 = .ok (.iload_n 1, 1)) ∧ (decode cX10_end 22 = .ok (.putfield 71, 3)) ∧ (decode cX10_end 25 = .ok (.iconst 1, 1)) ∧ (decode cX10_end 26 = .ok (.ireturn, 1)) := by decide +kernel
theorem dX10_end_0 : decode cX10_end 0 = .ok (.iload_n 1, 1) := dq_X10_end_0.1
theorem dX10_end_1 : decode cX10_end 1 = .ok (.ifCond .lt 14, 3) := dq_X10_end_0.2.1
theorem dX10_end_4 : decode cX10_end 4 = .ok (.iload_n 1, 1) := dq_X10_end_0.2.2.1
theorem dX10_end_5 : decode cX10_end 5 = .ok (.aload_n 0, 1) := dq_X10_end_0.2.2.2.1
theorem dX10_end_6 : decode cX10_end 6 = .ok (.getfield 10, 3) := dq_X10_end_0.2.2.2.2.1
theorem dX10_end_9 : decode cX10_end 9 = .ok (.getfield 71, 3) := dq_X10_end_0.2.2.2.2.2.1
theorem dX10_end_12 : decode cX10_end 12 = .ok (.if_icmp .le 5, 3) := dq_X10_end_0.2.2.2.2.2.2.1
theorem dX10_end_15 : decode cX10_end 15 = .ok (.iconst 0, 1) := dq_X10_end_0.2.2.2.2.2.2.2.1
theorem dX10_end_16 : decode cX10_end 16 = .ok (.ireturn, 1) := dq_X10_end_0.2.2.2.2.2.2.2.2.1
theorem dX10_end_17 : decode cX10_end 17 = .ok (.aload_n 0, 1) := dq_X10_end_0.2.2.2.2.2.2.2.2.2.1
theorem dX10_end_18 : decode cX10_end 18 = .ok (.getfield 10, 3) := dq_X10_end_0.2.2.2.2.2.2.2.2.2.2.1
theorem dX10_end_21 : decode cX10_end 21 = .ok (.iload_n 1, 1) := dq_X10_end_0.2.2.2.2.2.2.2.2.2.2.2.1
theorem dX10_end_22 : decode cX10_end 22 = .ok (.putfield 71, 3) := dq_X10_end_0.2.2.2.2.2.2.2.2.2.2.2.2.1
theorem dX10_end_25 : decode cX10_end 25 = .ok (.iconst 1, 1) := dq_X10_end_0.2.2.2.2.2.2.2.2.2.2.2.2.2.1
theorem dX10_end_26 : decode cX10_end 26 = .ok (.ireturn, 1) := dq_X10_end_0.2.2.2.2.2.2.2.2.2.2.2.2.2.2
theorem dq_X10_poke_0 : (decode cX10_poke 0 = .ok (.iload_n 1, 1)) ∧ (decode cX10_poke 1 = .ok (.sipush 9000, 3)) ∧ (decode cX10_poke 4 = .ok (.invokestatic 78, 3)) ∧ (decode cX10_poke 7 = .ok (.ifCond .ne 5, 3)) ∧ (decode cX10_poke 10 = .ok (.iconst (-1), 1)) ∧ (decode cX10_poke 11 = .ok (.ireturn, 1)) ∧ (decode cX10_poke 12 = .ok (.aload_n 0, 1)) ∧ (decode cX10_poke 13 = .ok (.getfield 10, 3)) ∧ (decode cX10_poke 16 = .ok (.iload_n 1, 1)) ∧ (decode cX10_poke 17 = .ok (.iload_n 2, 1)) ∧ (decode cX10_poke 18 = .ok (.invokevirtual 82, 3)) ∧ (decode cX10_poke 21 = .ok (.aload_n 0, 1)) ∧ (decode cX10_poke 22 = .ok (.getfield 10, 3)) ∧ (decode cX10_poke 25 = .ok (.getfield 71, 3)) ∧ (decode cX10_poke 28 = .ok (.ireturn, 1)) := by decide +kernel
theorem dX10_poke_0 : decode cX10_poke 0 = .ok (.iload_n 1, 1) := dq_X10_poke_0.1
theorem dX10_poke_1 : decode cX10_poke 1 = .ok (.sipush 9000, 3) := dq_X10_poke_0.2.1
theorem dX10_poke_4 : decode cX10_poke 4 = .ok (.invokestatic 78, 3) := dq_X10_poke_0.2.2.1
theorem dX10_poke_7 : decode cX10_poke 7 = .ok (.ifCond .ne 5, 3) := dq_X10_poke_0.2.2.2.1
theorem dX10_poke_10 : decode cX10_poke 10 = .ok (.iconst (-1), 1) := dq_X10_poke_0.2.2.2.2.1
theorem dX10_poke_11 : decode cX10_poke 11 = .ok (.ireturn, 1) := dq_X10_poke_0.2.2.2.2.2.1
theorem dX10_poke_12 : decode cX10_poke 12 = .ok (.aload_n 0, 1) := dq_X10_poke_0.2.2.2.2.2.2.1
theorem dX10_poke_13 : decode cX10_poke 13 = .ok (.getfield 10, 3) := dq_X10_poke_0.2.2.2.2.2.2.2.1
theorem dX10_poke_16 : decode cX10_poke 16 = .ok (.iload_n 1, 1) := dq_X10_poke_0.2.2.2.2.2.2.2.2.1
theorem dX10_poke_17 : decode cX10_poke 17 = .ok (.iload_n 2, 1) := dq_X10_poke_0.2.2.2.2.2.2.2.2.2.1
theorem dX10_poke_18 : decode cX10_poke 18 = .ok (.invokevirtual 82, 3) := dq_X10_poke_0.2.2.2.2.2.2.2.2.2.2.1
theorem dX10_poke_21 : decode cX10_poke 21 = .ok (.aload_n 0, 1) := dq_X10_poke_0.2.2.2.2.2.2.2.2.2.2.2.1
theorem dX10_poke_22 : decode cX10_poke 22 = .ok (.getfield 10, 3) := dq_X10_poke_0.2.2.2.2.2.2.2.2.2.2.2.2.1
theorem dX10_poke_25 : decode cX10_poke 25 = .ok (.getfield 71, 3) := dq_X10_poke_0.2.2.2.2.2.2.2.2.2.2.2.2.2.1
theorem dX10_poke_28 : decode cX10_poke 28 = .ok (.ireturn, 1) := dq_X10_poke_0.2.2.2.2.2.2.2.2.2.2.2.2.2.2
theorem dq_X10_load_0 : (decode cX10_load 0 = .ok (.aload_n 0, 1)) ∧ (decode cX10_load 1 = .ok (.getfield 33, 3)) ∧ (decode cX10_load 4 = .ok (.aload_n 0, 1)) ∧ (decode cX10_load 5 = .ok (.getfield 10, 3)) ∧ (decode cX10_load 8 = .ok (.invokevirtual 86, 3)) ∧ (decode cX10_load 11 = .ok (.ifCond .ne 5, 3)) ∧ (decode cX10_load 14 = .ok (.iconst (-1), 1)) ∧ (decode cX10_load 15 = .ok (.ireturn, 1)) ∧ (decode cX10_load 16 = .ok (.aload_n 0, 1)) ∧ (decode cX10_load 17 = .ok (.getfield 10, 3)) ∧ (decode cX10_load 20 = .ok (.aload_n 0, 1)) ∧ (decode cX10_load 21 = .ok (.getfield 26, 3)) ∧ (decode cX10_load 24 = .ok (.invokestatic 90, 3)) ∧ (decode cX10_load 27 = .ok (.aload_n 0, 1)) ∧ (decode cX10_load 28 = .ok (.getfield 10, 3)) ∧ (decode cX10_load 31 = .ok (.aload_n 0, 1)) := by decide +kernel
theorem dX10_load_0 : decode cX10_load 0 = .ok (.aload_n 0, 1) := dq_X10_load_0.1
theorem dX10_load_1 : decode cX10_load 1 = .ok (.getfield 33, 3) := dq_X10_load_0.2.1
theorem dX10_load_4 : decode cX10_load 4 = .ok (.aload_n 0, 1) := dq_X10_load_0.2.2.1
theorem dX10_load_5 : decode cX10_load 5 = .ok (.getfield 10, 3) := dq_X10_load_0.2.2.2.1
theorem dX10_load_8 : decode cX10_load 8 = .ok (.invokevirtual 86, 3) := dq_X10_load_0.2.2.2.2.1
theorem dX10_load_11 : decode cX10_load 11 = .ok (.ifCond .ne 5, 3) := dq_X10_load_0.2.2.2.2.2.1
theorem dX10_load_14 : decode cX10_load 14 = .ok (.iconst (-1), 1) := dq_X10_load_0.2.2.2.2.2.2.1
theorem dX10_load_15 : decode cX10_load 15 = .ok (.ireturn, 1) := dq_X10_load_0.2.2.2.2.2.2.2.1
theorem dX10_load_16 : decode cX10_load 16 = .ok (.aload_n 0, 1) := dq_X10_load_0.2.2.2.2.2.2.2.2.1
theorem dX10_load_17 : decode cX10_load 17 = .ok (.getfield 10, 3) := dq_X10_load_0.2.2.2.2.2.2.2.2.2.1
theorem dX10_load_20 : decode cX10_load 20 = .ok (.aload_n 0, 1) := dq_X10_load_0.2.2.2.2.2.2.2.2.2.2.1
theorem dX10_load_21 : decode cX10_load 21 = .ok (.getfield 26, 3) := dq_X10_load_0.2.2.2.2.2.2.2.2.2.2.2.1
theorem dX10_load_24 : decode cX10_load 24 = .ok (.invokestatic 90, 3) := dq_X10_load_0.2.2.2.2.2.2.2.2.2.2.2.2.1
theorem dX10_load_27 : decode cX10_load 27 = .ok (.aload_n 0, 1) := dq_X10_load_0.2.2.2.2.2.2.2.2.2.2.2.2.2.1
theorem dX10_load_28 : decode cX10_load 28 = .ok (.getfield 10, 3) := dq_X10_load_0.2.2.2.2.2.2.2.2.2.2.2.2.2.2.1
theorem dX10_load_31 : decode cX10_load 31 = .ok (.aload_n 0, 1) := dq_X10_load_0.2.2.2.2.2.2.2.2.2.2.2.2.2.2.2
theorem dq_X10_load_32 : (decode cX10_load 32 = .ok (.getfield 19, 3)) ∧ (decode cX10_load 35 = .ok (.aload_n 0, 1)) ∧ (decode cX10_load 36 = .ok (.getfield 26, 3)) ∧ (decode cX10_load 39 = .ok (.invokevirtual 94, 3)) ∧ (decode cX10_load 42 = .ok (.invokestatic 98, 3)) ∧ (decode cX10_load 45 = .ok (.invokestatic 102, 3)) ∧ (decode cX10_load 48 = .ok (.aload_n 0, 1)) ∧ (decode cX10_load 49 = .ok (.invokevirtual 68, 3)) ∧ (decode cX10_load 52 = .ok (.aload_n 0, 1)) ∧ (decode cX10_load 53 = .ok (.getfield 26, 3)) ∧ (decode cX10_load 56 = .ok (.invokevirtual 94, 3)) ∧ (decode cX10_load 59 = .ok (.ireturn, 1)) := by decide +kernel
theorem dX10_load_32 : decode cX10_load 32 = .ok (.getfield 19, 3) := dq_X10_load_32.1
theorem dX10_load_35 : decode cX10_load 35 = .ok (.aload_n 0, 1) := dq_X10_load_32.2.1
theorem dX10_load_36 : decode cX10_load 36 = .ok (.getfield 26, 3) := dq_X10_load_32.2.2.1
theorem dX10_load_39 : decode cX10_load 39 = .ok (.invokevirtual 94, 3) := dq_X10_load_32.2.2.2.1
theorem dX10_load_42 : decode cX10_load 42 = .ok (.invokestatic 98, 3) := dq_X10_load_32.2.2.2.2.1
theorem dX10_load_45 : decode cX10_load 45 = .ok (.invokestatic 102, 3) := dq_X10_load_32.2.2.2.2.2.1
theorem dX10_load_48 : decode cX10_load 48 = .ok (.aload_n 0, 1) := dq_X10_load_32.2.2.2.2.2.2.1
theorem dX10_load_49 : decode cX10_load 49 = .ok (.invokevirtual 68, 3) := dq_X10_load_32.2.2.2.2.2.2.2.1
theorem dX10_load_52 : decode cX10_load 52 = .ok (.aload_n 0, 1) := dq_X10_load_32.2.2.2.2.2.2.2.2.1
theorem dX10_load_53 : decode cX10_load 53 = .ok (.getfield 26, 3) := dq_X10_load_32.2.2.2.2.2.2.2.2.2.1
theorem dX10_load_56 : decode cX10_load 56 = .ok (.invokevirtual 94, 3) := dq_X10_load_32.2.2.2.2.2.2.2.2.2.2.1
theorem dX10_load_59 : decode cX10_load 59 = .ok (.ireturn, 1) := dq_X10_load_32.2.2.2.2.2.2.2.2.2.2.2
theorem dq_X10_fault_0 : (decode cX10_fault 0 = .ok (.iload_n 1, 1)) ∧ (decode cX10_fault 1 = .ok (.lookupswitch 43 #[(0, 27), (1, 35)], 27)) ∧ (decode cX10_fault 28 = .ok (.aload_n 0, 1)) ∧ (decode cX10_fault 29 = .ok (.getfield 33, 3)) ∧ (decode cX10_fault 32 = .ok (.getfield 106, 3)) ∧ (decode cX10_fault 35 = .ok (.ireturn, 1)) ∧ (decode cX10_fault 36 = .ok (.aload_n 0, 1)) ∧ (decode cX10_fault 37 = .ok (.getfield 33, 3)) ∧ (decode cX10_fault 40 = .ok (.getfield 109, 3)) ∧ (decode cX10_fault 43 = .ok (.ireturn, 1)) ∧ (decode cX10_fault 44 = .ok (.iconst (-1), 1)) ∧ (decode cX10_fault 45 = .ok (.ireturn, 1)) := by decide +kernel
theorem dX10_fault_0 : decode cX10_fault 0 = .ok (.iload_n 1, 1) := dq_X10_fault_0.1
theorem dX10_fault_1 : decode cX10_fault 1 = .ok (.lookupswitch 43 #[(0, 27), (1, 35)], 27) := dq_X10_fault_0.2.1
theorem dX10_fault_28 : decode cX10_fault 28 = .ok (.aload_n 0, 1) := dq_X10_fault_0.2.2.1
theorem dX10_fault_29 : decode cX10_fault 29 = .ok (.getfield 33, 3) := dq_X10_fault_0.2.2.2.1
theorem dX10_fault_32 : decode cX10_fault 32 = .ok (.getfield 106, 3) := dq_X10_fault_0.2.2.2.2.1
theorem dX10_fault_35 : decode cX10_fault 35 = .ok (.ireturn, 1) := dq_X10_fault_0.2.2.2.2.2.1
theorem dX10_fault_36 : decode cX10_fault 36 = .ok (.aload_n 0, 1) := dq_X10_fault_0.2.2.2.2.2.2.1
theorem dX10_fault_37 : decode cX10_fault 37 = .ok (.getfield 33, 3) := dq_X10_fault_0.2.2.2.2.2.2.2.1
theorem dX10_fault_40 : decode cX10_fault 40 = .ok (.getfield 109, 3) := dq_X10_fault_0.2.2.2.2.2.2.2.2.1
theorem dX10_fault_43 : decode cX10_fault 43 = .ok (.ireturn, 1) := dq_X10_fault_0.2.2.2.2.2.2.2.2.2.1
theorem dX10_fault_44 : decode cX10_fault 44 = .ok (.iconst (-1), 1) := dq_X10_fault_0.2.2.2.2.2.2.2.2.2.2.1
theorem dX10_fault_45 : decode cX10_fault 45 = .ok (.ireturn, 1) := dq_X10_fault_0.2.2.2.2.2.2.2.2.2.2.2
theorem dq_X10_save_0 : (decode cX10_save 0 = .ok (.aload_n 0, 1)) ∧ (decode cX10_save 1 = .ok (.getfield 26, 3)) ∧ (decode cX10_save 4 = .ok (.invokevirtual 94, 3)) ∧ (decode cX10_save 7 = .ok (.invokestatic 98, 3)) ∧ (decode cX10_save 10 = .ok (.istore_n 1, 1)) ∧ (decode cX10_save 11 = .ok (.iload_n 1, 1)) ∧ (decode cX10_save 12 = .ok (.aload_n 0, 1)) ∧ (decode cX10_save 13 = .ok (.getfield 19, 3)) ∧ (decode cX10_save 16 = .ok (.getfield 112, 3)) ∧ (decode cX10_save 19 = .ok (.iadd, 1)) ∧ (decode cX10_save 20 = .ok (.sipush 9000, 3)) ∧ (decode cX10_save 23 = .ok (.if_icmp .le 5, 3)) ∧ (decode cX10_save 26 = .ok (.iconst (-1), 1)) ∧ (decode cX10_save 27 = .ok (.ireturn, 1)) ∧ (decode cX10_save 28 = .ok (.aload_n 0, 1)) ∧ (decode cX10_save 29 = .ok (.getfield 10, 3)) := by decide +kernel
theorem dX10_save_0 : decode cX10_save 0 = .ok (.aload_n 0, 1) := dq_X10_save_0.1
theorem dX10_save_1 : decode cX10_save 1 = .ok (.getfield 26, 3) := dq_X10_save_0.2.1
theorem dX10_save_4 : decode cX10_save 4 = .ok (.invokevirtual 94, 3) := dq_X10_save_0.2.2.1
theorem dX10_save_7 : decode cX10_save 7 = .ok (.invokestatic 98, 3) := dq_X10_save_0.2.2.2.1
theorem dX10_save_10 : decode cX10_save 10 = .ok (.istore_n 1, 1) := dq_X10_save_0.2.2.2.2.1
theorem dX10_save_11 : decode cX10_save 11 = .ok (.iload_n 1, 1) := dq_X10_save_0.2.2.2.2.2.1
theorem dX10_save_12 : decode cX10_save 12 = .ok (.aload_n 0, 1) := dq_X10_save_0.2.2.2.2.2.2.1
theorem dX10_save_13 : decode cX10_save 13 = .ok (.getfield 19, 3) := dq_X10_save_0.2.2.2.2.2.2.2.1
theorem dX10_save_16 : decode cX10_save 16 = .ok (.getfield 112, 3) := dq_X10_save_0.2.2.2.2.2.2.2.2.1
theorem dX10_save_19 : decode cX10_save 19 = .ok (.iadd, 1) := dq_X10_save_0.2.2.2.2.2.2.2.2.2.1
theorem dX10_save_20 : decode cX10_save 20 = .ok (.sipush 9000, 3) := dq_X10_save_0.2.2.2.2.2.2.2.2.2.2.1
theorem dX10_save_23 : decode cX10_save 23 = .ok (.if_icmp .le 5, 3) := dq_X10_save_0.2.2.2.2.2.2.2.2.2.2.2.1
theorem dX10_save_26 : decode cX10_save 26 = .ok (.iconst (-1), 1) := dq_X10_save_0.2.2.2.2.2.2.2.2.2.2.2.2.1
theorem dX10_save_27 : decode cX10_save 27 = .ok (.ireturn, 1) := dq_X10_save_0.2.2.2.2.2.2.2.2.2.2.2.2.2.1
theorem dX10_save_28 : decode cX10_save 28 = .ok (.aload_n 0, 1) := dq_X10_save_0.2.2.2.2.2.2.2.2.2.2.2.2.2.2.1
theorem dX10_save_29 : decode cX10_save 29 = .ok (.getfield 10, 3) := dq_X10_save_0.2.2.2.2.2.2.2.2.2.2.2.2.2.2.2
theorem dq_X10_save_32 : (decode cX10_save 32 = .ok (.iconst 0, 1)) ∧ (decode cX10_save 33 = .ok (.putfield 71, 3)) ∧ (decode cX10_save 36 = .ok (.aload_n 0, 1)) ∧ (decode cX10_save 37 = .ok (.getfield 10, 3)) ∧ (decode cX10_save 40 = .ok (.aload_n 0, 1)) ∧ (decode cX10_save 41 = .ok (.getfield 26, 3)) ∧ (decode cX10_save 44 = .ok (.invokestatic 115, 3)) ∧ (decode cX10_save 47 = .ok (.aload_n 0, 1)) ∧ (decode cX10_save 48 = .ok (.getfield 10, 3)) ∧ (decode cX10_save 51 = .ok (.aload_n 0, 1)) ∧ (decode cX10_save 52 = .ok (.getfield 19, 3)) ∧ (decode cX10_save 55 = .ok (.iload_n 1, 1)) ∧ (decode cX10_save 56 = .ok (.invokestatic 120, 3)) ∧ (decode cX10_save 59 = .ok (.aload_n 0, 1)) ∧ (decode cX10_save 60 = .ok (.getfield 10, 3)) ∧ (decode cX10_save 63 = .ok (.getfield 71, 3)) := by decide +kernel
theorem dX10_save_32 : decode cX10_save 32 = .ok (.iconst 0, 1) := dq_X10_save_32.1
theorem dX10_save_33 : decode cX10_save 33 = .ok (.putfield 71, 3) := dq_X10_save_32.2.1
theorem dX10_save_36 : decode cX10_save 36 = .ok (.aload_n 0, 1) := dq_X10_save_32.2.2.1
theorem dX10_save_37 : decode cX10_save 37 = .ok (.getfield 10, 3) := dq_X10_save_32.2.2.2.1
theorem dX10_save_40 : decode cX10_save 40 = .ok (.aload_n 0, 1) := dq_X10_save_32.2.2.2.2.1
theorem dX10_save_41 : decode cX10_save 41 = .ok (.getfield 26, 3) := dq_X10_save_32.2.2.2.2.2.1
theorem dX10_save_44 : decode cX10_save 44 = .ok (.invokestatic 115, 3) := dq_X10_save_32.2.2.2.2.2.2.1
theorem dX10_save_47 : decode cX10_save 47 = .ok (.aload_n 0, 1) := dq_X10_save_32.2.2.2.2.2.2.2.1
theorem dX10_save_48 : decode cX10_save 48 = .ok (.getfield 10, 3) := dq_X10_save_32.2.2.2.2.2.2.2.2.1
theorem dX10_save_51 : decode cX10_save 51 = .ok (.aload_n 0, 1) := dq_X10_save_32.2.2.2.2.2.2.2.2.2.1
theorem dX10_save_52 : decode cX10_save 52 = .ok (.getfield 19, 3) := dq_X10_save_32.2.2.2.2.2.2.2.2.2.2.1
theorem dX10_save_55 : decode cX10_save 55 = .ok (.iload_n 1, 1) := dq_X10_save_32.2.2.2.2.2.2.2.2.2.2.2.1
theorem dX10_save_56 : decode cX10_save 56 = .ok (.invokestatic 120, 3) := dq_X10_save_32.2.2.2.2.2.2.2.2.2.2.2.2.1
theorem dX10_save_59 : decode cX10_save 59 = .ok (.aload_n 0, 1) := dq_X10_save_32.2.2.2.2.2.2.2.2.2.2.2.2.2.1
theorem dX10_save_60 : decode cX10_save 60 = .ok (.getfield 10, 3) := dq_X10_save_32.2.2.2.2.2.2.2.2.2.2.2.2.2.2.1
theorem dX10_save_63 : decode cX10_save 63 = .ok (.getfield 71, 3) := dq_X10_save_32.2.2.2.2.2.2.2.2.2.2.2.2.2.2.2
theorem dX10_save_66 : decode cX10_save 66 = .ok (.ireturn, 1) := by decide +kernel
theorem dq_X10_tape_0 : (decode cX10_tape 0 = .ok (.aload_n 0, 1)) ∧ (decode cX10_tape 1 = .ok (.getfield 10, 3)) ∧ (decode cX10_tape 4 = .ok (.iload_n 1, 1)) ∧ (decode cX10_tape 5 = .ok (.invokevirtual 123, 3)) ∧ (decode cX10_tape 8 = .ok (.ireturn, 1)) := by decide +kernel
theorem dX10_tape_0 : decode cX10_tape 0 = .ok (.aload_n 0, 1) := dq_X10_tape_0.1
theorem dX10_tape_1 : decode cX10_tape 1 = .ok (.getfield 10, 3) := dq_X10_tape_0.2.1
theorem dX10_tape_4 : decode cX10_tape 4 = .ok (.iload_n 1, 1) := dq_X10_tape_0.2.2.1
theorem dX10_tape_5 : decode cX10_tape 5 = .ok (.invokevirtual 123, 3) := dq_X10_tape_0.2.2.2.1
theorem dX10_tape_8 : decode cX10_tape 8 = .ok (.ireturn, 1) := dq_X10_tape_0.2.2.2.2
theorem dq_X10_sample_0 : (decode cX10_sample 0 = .ok (.aload_n 0, 1)) ∧ (decode cX10_sample 1 = .ok (.getfield 19, 3)) ∧ (decode cX10_sample 4 = .ok (.iload_n 1, 1)) ∧ (decode cX10_sample 5 = .ok (.invokevirtual 126, 3)) ∧ (decode cX10_sample 8 = .ok (.ifCond .eq 39, 3)) ∧ (decode cX10_sample 11 = .ok (.aload_n 0, 1)) ∧ (decode cX10_sample 12 = .ok (.getfield 19, 3)) ∧ (decode cX10_sample 15 = .ok (.iload_n 1, 1)) ∧ (decode cX10_sample 16 = .ok (.iload_n 2, 1)) ∧ (decode cX10_sample 17 = .ok (.invokevirtual 130, 3)) ∧ (decode cX10_sample 20 = .ok (.ifCond .eq 27, 3)) ∧ (decode cX10_sample 23 = .ok (.iload_n 3, 1)) ∧ (decode cX10_sample 24 = .ok (.bipush (-8), 2)) ∧ (decode cX10_sample 26 = .ok (.if_icmp .lt 21, 3)) ∧ (decode cX10_sample 29 = .ok (.iload_n 3, 1)) ∧ (decode cX10_sample 30 = .ok (.bipush 7, 2)) := by decide +kernel
theorem dX10_sample_0 : decode cX10_sample 0 = .ok (.aload_n 0, 1) := dq_X10_sample_0.1
theorem dX10_sample_1 : decode cX10_sample 1 = .ok (.getfield 19, 3) := dq_X10_sample_0.2.1
theorem dX10_sample_4 : decode cX10_sample 4 = .ok (.iload_n 1, 1) := dq_X10_sample_0.2.2.1
theorem dX10_sample_5 : decode cX10_sample 5 = .ok (.invokevirtual 126, 3) := dq_X10_sample_0.2.2.2.1
theorem dX10_sample_8 : decode cX10_sample 8 = .ok (.ifCond .eq 39, 3) := dq_X10_sample_0.2.2.2.2.1
theorem dX10_sample_11 : decode cX10_sample 11 = .ok (.aload_n 0, 1) := dq_X10_sample_0.2.2.2.2.2.1
theorem dX10_sample_12 : decode cX10_sample 12 = .ok (.getfield 19, 3) := dq_X10_sample_0.2.2.2.2.2.2.1
theorem dX10_sample_15 : decode cX10_sample 15 = .ok (.iload_n 1, 1) := dq_X10_sample_0.2.2.2.2.2.2.2.1
theorem dX10_sample_16 : decode cX10_sample 16 = .ok (.iload_n 2, 1) := dq_X10_sample_0.2.2.2.2.2.2.2.2.1
theorem dX10_sample_17 : decode cX10_sample 17 = .ok (.invokevirtual 130, 3) := dq_X10_sample_0.2.2.2.2.2.2.2.2.2.1
theorem dX10_sample_20 : decode cX10_sample 20 = .ok (.ifCond .eq 27, 3) := dq_X10_sample_0.2.2.2.2.2.2.2.2.2.2.1
theorem dX10_sample_23 : decode cX10_sample 23 = .ok (.iload_n 3, 1) := dq_X10_sample_0.2.2.2.2.2.2.2.2.2.2.2.1
theorem dX10_sample_24 : decode cX10_sample 24 = .ok (.bipush (-8), 2) := dq_X10_sample_0.2.2.2.2.2.2.2.2.2.2.2.2.1
theorem dX10_sample_26 : decode cX10_sample 26 = .ok (.if_icmp .lt 21, 3) := dq_X10_sample_0.2.2.2.2.2.2.2.2.2.2.2.2.2.1
theorem dX10_sample_29 : decode cX10_sample 29 = .ok (.iload_n 3, 1) := dq_X10_sample_0.2.2.2.2.2.2.2.2.2.2.2.2.2.2.1
theorem dX10_sample_30 : decode cX10_sample 30 = .ok (.bipush 7, 2) := dq_X10_sample_0.2.2.2.2.2.2.2.2.2.2.2.2.2.2.2
theorem dq_X10_sample_32 : (decode cX10_sample 32 = .ok (.if_icmp .gt 15, 3)) ∧ (decode cX10_sample 35 = .ok (.iload 4, 2)) ∧ (decode cX10_sample 37 = .ok (.ifCond .lt 10, 3)) ∧ (decode cX10_sample 40 = .ok (.iload 4, 2)) ∧ (decode cX10_sample 42 = .ok (.bipush 64, 2)) ∧ (decode cX10_sample 44 = .ok (.if_icmp .le 5, 3)) ∧ (decode cX10_sample 47 = .ok (.iconst 0, 1)) ∧ (decode cX10_sample 48 = .ok (.ireturn, 1)) ∧ (decode cX10_sample 49 = .ok (.aload_n 0, 1)) ∧ (decode cX10_sample 50 = .ok (.getfield 19, 3)) ∧ (decode cX10_sample 53 = .ok (.iload_n 1, 1)) ∧ (decode cX10_sample 54 = .ok (.iload_n 2, 1)) ∧ (decode cX10_sample 55 = .ok (.iload_n 3, 1)) ∧ (decode cX10_sample 56 = .ok (.iload 4, 2)) ∧ (decode cX10_sample 58 = .ok (.invokevirtual 133, 3)) ∧ (decode cX10_sample 61 = .ok (.iconst 1, 1)) := by decide +kernel
theorem dX10_sample_32 : decode cX10_sample 32 = .ok (.if_icmp .gt 15, 3) := dq_X10_sample_32.1
theorem dX10_sample_35 : decode cX10_sample 35 = .ok (.iload 4, 2) := dq_X10_sample_32.2.1
theorem dX10_sample_37 : decode cX10_sample 37 = .ok (.ifCond .lt 10, 3) := dq_X10_sample_32.2.2.1
theorem dX10_sample_40 : decode cX10_sample 40 = .ok (.iload 4, 2) := dq_X10_sample_32.2.2.2.1
theorem dX10_sample_42 : decode cX10_sample 42 = .ok (.bipush 64, 2) := dq_X10_sample_32.2.2.2.2.1
theorem dX10_sample_44 : decode cX10_sample 44 = .ok (.if_icmp .le 5, 3) := dq_X10_sample_32.2.2.2.2.2.1
theorem dX10_sample_47 : decode cX10_sample 47 = .ok (.iconst 0, 1) := dq_X10_sample_32.2.2.2.2.2.2.1
theorem dX10_sample_48 : decode cX10_sample 48 = .ok (.ireturn, 1) := dq_X10_sample_32.2.2.2.2.2.2.2.1
theorem dX10_sample_49 : decode cX10_sample 49 = .ok (.aload_n 0, 1) := dq_X10_sample_32.2.2.2.2.2.2.2.2.1
theorem dX10_sample_50 : decode cX10_sample 50 = .ok (.getfield 19, 3) := dq_X10_sample_32.2.2.2.2.2.2.2.2.2.1
theorem dX10_sample_53 : decode cX10_sample 53 = .ok (.iload_n 1, 1) := dq_X10_sample_32.2.2.2.2.2.2.2.2.2.2.1
theorem dX10_sample_54 : decode cX10_sample 54 = .ok (.iload_n 2, 1) := dq_X10_sample_32.2.2.2.2.2.2.2.2.2.2.2.1
theorem dX10_sample_55 : decode cX10_sample 55 = .ok (.iload_n 3, 1) := dq_X10_sample_32.2.2.2.2.2.2.2.2.2.2.2.2.1
theorem dX10_sample_56 : decode cX10_sample 56 = .ok (.iload 4, 2) := dq_X10_sample_32.2.2.2.2.2.2.2.2.2.2.2.2.2.1
theorem dX10_sample_58 : decode cX10_sample 58 = .ok (.invokevirtual 133, 3) := dq_X10_sample_32.2.2.2.2.2.2.2.2.2.2.2.2.2.2.1
theorem dX10_sample_61 : decode cX10_sample 61 = .ok (.iconst 1, 1) := dq_X10_sample_32.2.2.2.2.2.2.2.2.2.2.2.2.2.2.2
theorem dX10_sample_62 : decode cX10_sample 62 = .ok (.ireturn, 1) := by decide +kernel
theorem dq_X10_loop_0 : (decode cX10_loop 0 = .ok (.aload_n 0, 1)) ∧ (decode cX10_loop 1 = .ok (.getfield 19, 3)) ∧ (decode cX10_loop 4 = .ok (.iload_n 1, 1)) ∧ (decode cX10_loop 5 = .ok (.invokevirtual 126, 3)) ∧ (decode cX10_loop 8 = .ok (.ifCond .ne 5, 3)) ∧ (decode cX10_loop 11 = .ok (.iconst 0, 1)) ∧ (decode cX10_loop 12 = .ok (.ireturn, 1)) ∧ (decode cX10_loop 13 = .ok (.aload_n 0, 1)) ∧ (decode cX10_loop 14 = .ok (.getfield 19, 3)) ∧ (decode cX10_loop 17 = .ok (.iload_n 1, 1)) ∧ (decode cX10_loop 18 = .ok (.invokevirtual 137, 3)) ∧ (decode cX10_loop 21 = .ok (.astore 4, 2)) ∧ (decode cX10_loop 23 = .ok (.aload 4, 2)) ∧ (decode cX10_loop 25 = .ok (.getfield 141, 3)) ∧ (decode cX10_loop 28 = .ok (.iload_n 2, 1)) ∧ (decode cX10_loop 29 = .ok (.iload_n 3, 1)) := by decide +kernel
theorem dX10_loop_0 : decode cX10_loop 0 = .ok (.aload_n 0, 1) := dq_X10_loop_0.1
theorem dX10_loop_1 : decode cX10_loop 1 = .ok (.getfield 19, 3) := dq_X10_loop_0.2.1
theorem dX10_loop_4 : decode cX10_loop 4 = .ok (.iload_n 1, 1) := dq_X10_loop_0.2.2.1
theorem dX10_loop_5 : decode cX10_loop 5 = .ok (.invokevirtual 126, 3) := dq_X10_loop_0.2.2.2.1
theorem dX10_loop_8 : decode cX10_loop 8 = .ok (.ifCond .ne 5, 3) := dq_X10_loop_0.2.2.2.2.1
theorem dX10_loop_11 : decode cX10_loop 11 = .ok (.iconst 0, 1) := dq_X10_loop_0.2.2.2.2.2.1
theorem dX10_loop_12 : decode cX10_loop 12 = .ok (.ireturn, 1) := dq_X10_loop_0.2.2.2.2.2.2.1
theorem dX10_loop_13 : decode cX10_loop 13 = .ok (.aload_n 0, 1) := dq_X10_loop_0.2.2.2.2.2.2.2.1
theorem dX10_loop_14 : decode cX10_loop 14 = .ok (.getfield 19, 3) := dq_X10_loop_0.2.2.2.2.2.2.2.2.1
theorem dX10_loop_17 : decode cX10_loop 17 = .ok (.iload_n 1, 1) := dq_X10_loop_0.2.2.2.2.2.2.2.2.2.1
theorem dX10_loop_18 : decode cX10_loop 18 = .ok (.invokevirtual 137, 3) := dq_X10_loop_0.2.2.2.2.2.2.2.2.2.2.1
theorem dX10_loop_21 : decode cX10_loop 21 = .ok (.astore 4, 2) := dq_X10_loop_0.2.2.2.2.2.2.2.2.2.2.2.1
theorem dX10_loop_23 : decode cX10_loop 23 = .ok (.aload 4, 2) := dq_X10_loop_0.2.2.2.2.2.2.2.2.2.2.2.2.1
theorem dX10_loop_25 : decode cX10_loop 25 = .ok (.getfield 141, 3) := dq_X10_loop_0.2.2.2.2.2.2.2.2.2.2.2.2.2.1
theorem dX10_loop_28 : decode cX10_loop 28 = .ok (.iload_n 2, 1) := dq_X10_loop_0.2.2.2.2.2.2.2.2.2.2.2.2.2.2.1
theorem dX10_loop_29 : decode cX10_loop 29 = .ok (.iload_n 3, 1) := dq_X10_loop_0.2.2.2.2.2.2.2.2.2.2.2.2.2.2.2
theorem dq_X10_loop_30 : (decode cX10_loop 30 = .ok (.invokestatic 144, 3)) ∧ (decode cX10_loop 33 = .ok (.ifCond .ne 5, 3)) ∧ (decode cX10_loop 36 = .ok (.iconst 0, 1)) ∧ (decode cX10_loop 37 = .ok (.ireturn, 1)) ∧ (decode cX10_loop 38 = .ok (.aload 4, 2)) ∧ (decode cX10_loop 40 = .ok (.iload_n 2, 1)) ∧ (decode cX10_loop 41 = .ok (.putfield 148, 3)) ∧ (decode cX10_loop 44 = .ok (.aload 4, 2)) ∧ (decode cX10_loop 46 = .ok (.iload_n 3, 1)) ∧ (decode cX10_loop 47 = .ok (.putfield 151, 3)) ∧ (decode cX10_loop 50 = .ok (.iconst 1, 1)) ∧ (decode cX10_loop 51 = .ok (.ireturn, 1)) := by decide +kernel
theorem dX10_loop_30 : decode cX10_loop 30 = .ok (.invokestatic 144, 3) := dq_X10_loop_30.1
theorem dX10_loop_33 : decode cX10_loop 33 = .ok (.ifCond .ne 5, 3) := dq_X10_loop_30.2.1
theorem dX10_loop_36 : decode cX10_loop 36 = .ok (.iconst 0, 1) := dq_X10_loop_30.2.2.1
theorem dX10_loop_37 : decode cX10_loop 37 = .ok (.ireturn, 1) := dq_X10_loop_30.2.2.2.1
theorem dX10_loop_38 : decode cX10_loop 38 = .ok (.aload 4, 2) := dq_X10_loop_30.2.2.2.2.1
theorem dX10_loop_40 : decode cX10_loop 40 = .ok (.iload_n 2, 1) := dq_X10_loop_30.2.2.2.2.2.1
theorem dX10_loop_41 : decode cX10_loop 41 = .ok (.putfield 148, 3) := dq_X10_loop_30.2.2.2.2.2.2.1
theorem dX10_loop_44 : decode cX10_loop 44 = .ok (.aload 4, 2) := dq_X10_loop_30.2.2.2.2.2.2.2.1
theorem dX10_loop_46 : decode cX10_loop 46 = .ok (.iload_n 3, 1) := dq_X10_loop_30.2.2.2.2.2.2.2.2.1
theorem dX10_loop_47 : decode cX10_loop 47 = .ok (.putfield 151, 3) := dq_X10_loop_30.2.2.2.2.2.2.2.2.2.1
theorem dX10_loop_50 : decode cX10_loop 50 = .ok (.iconst 1, 1) := dq_X10_loop_30.2.2.2.2.2.2.2.2.2.2.1
theorem dX10_loop_51 : decode cX10_loop 51 = .ok (.ireturn, 1) := dq_X10_loop_30.2.2.2.2.2.2.2.2.2.2.2
theorem dq_X10_wave_0 : (decode cX10_wave 0 = .ok (.aload_n 0, 1)) ∧ (decode cX10_wave 1 = .ok (.getfield 19, 3)) ∧ (decode cX10_wave 4 = .ok (.iload_n 1, 1)) ∧ (decode cX10_wave 5 = .ok (.invokevirtual 126, 3)) ∧ (decode cX10_wave 8 = .ok (.ifCond .eq 33, 3)) ∧ (decode cX10_wave 11 = .ok (.iload_n 2, 1)) ∧ (decode cX10_wave 12 = .ok (.aload_n 0, 1)) ∧ (decode cX10_wave 13 = .ok (.getfield 19, 3)) ∧ (decode cX10_wave 16 = .ok (.iload_n 1, 1)) ∧ (decode cX10_wave 17 = .ok (.invokevirtual 137, 3)) ∧ (decode cX10_wave 20 = .ok (.getfield 141, 3)) ∧ (decode cX10_wave 23 = .ok (.invokestatic 78, 3)) ∧ (decode cX10_wave 26 = .ok (.ifCond .eq 15, 3)) ∧ (decode cX10_wave 29 = .ok (.iload_n 3, 1)) ∧ (decode cX10_wave 30 = .ok (.bipush (-128), 2)) ∧ (decode cX10_wave 32 = .ok (.if_icmp .lt 9, 3)) := by decide +kernel
theorem dX10_wave_0 : decode cX10_wave 0 = .ok (.aload_n 0, 1) := dq_X10_wave_0.1
theorem dX10_wave_1 : decode cX10_wave 1 = .ok (.getfield 19, 3) := dq_X10_wave_0.2.1
theorem dX10_wave_4 : decode cX10_wave 4 = .ok (.iload_n 1, 1) := dq_X10_wave_0.2.2.1
theorem dX10_wave_5 : decode cX10_wave 5 = .ok (.invokevirtual 126, 3) := dq_X10_wave_0.2.2.2.1
theorem dX10_wave_8 : decode cX10_wave 8 = .ok (.ifCond .eq 33, 3) := dq_X10_wave_0.2.2.2.2.1
theorem dX10_wave_11 : decode cX10_wave 11 = .ok (.iload_n 2, 1) := dq_X10_wave_0.2.2.2.2.2.1
theorem dX10_wave_12 : decode cX10_wave 12 = .ok (.aload_n 0, 1) := dq_X10_wave_0.2.2.2.2.2.2.1
theorem dX10_wave_13 : decode cX10_wave 13 = .ok (.getfield 19, 3) := dq_X10_wave_0.2.2.2.2.2.2.2.1
theorem dX10_wave_16 : decode cX10_wave 16 = .ok (.iload_n 1, 1) := dq_X10_wave_0.2.2.2.2.2.2.2.2.1
theorem dX10_wave_17 : decode cX10_wave 17 = .ok (.invokevirtual 137, 3) := dq_X10_wave_0.2.2.2.2.2.2.2.2.2.1
theorem dX10_wave_20 : decode cX10_wave 20 = .ok (.getfield 141, 3) := dq_X10_wave_0.2.2.2.2.2.2.2.2.2.2.1
theorem dX10_wave_23 : decode cX10_wave 23 = .ok (.invokestatic 78, 3) := dq_X10_wave_0.2.2.2.2.2.2.2.2.2.2.2.1
theorem dX10_wave_26 : decode cX10_wave 26 = .ok (.ifCond .eq 15, 3) := dq_X10_wave_0.2.2.2.2.2.2.2.2.2.2.2.2.1
theorem dX10_wave_29 : decode cX10_wave 29 = .ok (.iload_n 3, 1) := dq_X10_wave_0.2.2.2.2.2.2.2.2.2.2.2.2.2.1
theorem dX10_wave_30 : decode cX10_wave 30 = .ok (.bipush (-128), 2) := dq_X10_wave_0.2.2.2.2.2.2.2.2.2.2.2.2.2.2.1
theorem dX10_wave_32 : decode cX10_wave 32 = .ok (.if_icmp .lt 9, 3) := dq_X10_wave_0.2.2.2.2.2.2.2.2.2.2.2.2.2.2.2
theorem dq_X10_wave_35 : (decode cX10_wave 35 = .ok (.iload_n 3, 1)) ∧ (decode cX10_wave 36 = .ok (.bipush 127, 2)) ∧ (decode cX10_wave 38 = .ok (.if_icmp .le 5, 3)) ∧ (decode cX10_wave 41 = .ok (.iconst 0, 1)) ∧ (decode cX10_wave 42 = .ok (.ireturn, 1)) ∧ (decode cX10_wave 43 = .ok (.aload_n 0, 1)) ∧ (decode cX10_wave 44 = .ok (.getfield 19, 3)) ∧ (decode cX10_wave 47 = .ok (.aload_n 0, 1)) ∧ (decode cX10_wave 48 = .ok (.getfield 19, 3)) ∧ (decode cX10_wave 51 = .ok (.iload_n 1, 1)) ∧ (decode cX10_wave 52 = .ok (.invokevirtual 137, 3)) ∧ (decode cX10_wave 55 = .ok (.iload_n 2, 1)) ∧ (decode cX10_wave 56 = .ok (.iload_n 3, 1)) ∧ (decode cX10_wave 57 = .ok (.invokevirtual 154, 3)) ∧ (decode cX10_wave 60 = .ok (.iconst 1, 1)) ∧ (decode cX10_wave 61 = .ok (.ireturn, 1)) := by decide +kernel
theorem dX10_wave_35 : decode cX10_wave 35 = .ok (.iload_n 3, 1) := dq_X10_wave_35.1
theorem dX10_wave_36 : decode cX10_wave 36 = .ok (.bipush 127, 2) := dq_X10_wave_35.2.1
theorem dX10_wave_38 : decode cX10_wave 38 = .ok (.if_icmp .le 5, 3) := dq_X10_wave_35.2.2.1
theorem dX10_wave_41 : decode cX10_wave 41 = .ok (.iconst 0, 1) := dq_X10_wave_35.2.2.2.1
theorem dX10_wave_42 : decode cX10_wave 42 = .ok (.ireturn, 1) := dq_X10_wave_35.2.2.2.2.1
theorem dX10_wave_43 : decode cX10_wave 43 = .ok (.aload_n 0, 1) := dq_X10_wave_35.2.2.2.2.2.1
theorem dX10_wave_44 : decode cX10_wave 44 = .ok (.getfield 19, 3) := dq_X10_wave_35.2.2.2.2.2.2.1
theorem dX10_wave_47 : decode cX10_wave 47 = .ok (.aload_n 0, 1) := dq_X10_wave_35.2.2.2.2.2.2.2.1
theorem dX10_wave_48 : decode cX10_wave 48 = .ok (.getfield 19, 3) := dq_X10_wave_35.2.2.2.2.2.2.2.2.1
theorem dX10_wave_51 : decode cX10_wave 51 = .ok (.iload_n 1, 1) := dq_X10_wave_35.2.2.2.2.2.2.2.2.2.1
theorem dX10_wave_52 : decode cX10_wave 52 = .ok (.invokevirtual 137, 3) := dq_X10_wave_35.2.2.2.2.2.2.2.2.2.2.1
theorem dX10_wave_55 : decode cX10_wave 55 = .ok (.iload_n 2, 1) := dq_X10_wave_35.2.2.2.2.2.2.2.2.2.2.2.1
theorem dX10_wave_56 : decode cX10_wave 56 = .ok (.iload_n 3, 1) := dq_X10_wave_35.2.2.2.2.2.2.2.2.2.2.2.2.1
theorem dX10_wave_57 : decode cX10_wave 57 = .ok (.invokevirtual 154, 3) := dq_X10_wave_35.2.2.2.2.2.2.2.2.2.2.2.2.2.1
theorem dX10_wave_60 : decode cX10_wave 60 = .ok (.iconst 1, 1) := dq_X10_wave_35.2.2.2.2.2.2.2.2.2.2.2.2.2.2.1
theorem dX10_wave_61 : decode cX10_wave 61 = .ok (.ireturn, 1) := dq_X10_wave_35.2.2.2.2.2.2.2.2.2.2.2.2.2.2.2
theorem dq_X10_cell_0 : (decode cX10_cell 0 = .ok (.iload_n 1, 1)) ∧ (decode cX10_cell 1 = .ok (.iload_n 2, 1)) ∧ (decode cX10_cell 2 = .ok (.iload_n 3, 1)) ∧ (decode cX10_cell 3 = .ok (.invokestatic 158, 3)) ∧ (decode cX10_cell 6 = .ok (.ifCond .eq 15, 3)) ∧ (decode cX10_cell 9 = .ok (.iload 4, 2)) ∧ (decode cX10_cell 11 = .ok (.ifCond .lt 10, 3)) ∧ (decode cX10_cell 14 = .ok (.iload 4, 2)) ∧ (decode cX10_cell 16 = .ok (.ldc 161, 2)) ∧ (decode cX10_cell 18 = .ok (.if_icmp .le 5, 3)) ∧ (decode cX10_cell 21 = .ok (.iconst 0, 1)) ∧ (decode cX10_cell 22 = .ok (.ireturn, 1)) ∧ (decode cX10_cell 23 = .ok (.aload_n 0, 1)) ∧ (decode cX10_cell 24 = .ok (.getfield 26, 3)) ∧ (decode cX10_cell 27 = .ok (.iload_n 1, 1)) ∧ (decode cX10_cell 28 = .ok (.iload_n 2, 1)) := by decide +kernel
theorem dX10_cell_0 : decode cX10_cell 0 = .ok (.iload_n 1, 1) := dq_X10_cell_0.1
theorem dX10_cell_1 : decode cX10_cell 1 = .ok (.iload_n 2, 1) := dq_X10_cell_0.2.1
theorem dX10_cell_2 : decode cX10_cell 2 = .ok (.iload_n 3, 1) := dq_X10_cell_0.2.2.1
theorem dX10_cell_3 : decode cX10_cell 3 = .ok (.invokestatic 158, 3) := dq_X10_cell_0.2.2.2.1
theorem dX10_cell_6 : decode cX10_cell 6 = .ok (.ifCond .eq 15, 3) := dq_X10_cell_0.2.2.2.2.1
theorem dX10_cell_9 : decode cX10_cell 9 = .ok (.iload 4, 2) := dq_X10_cell_0.2.2.2.2.2.1
theorem dX10_cell_11 : decode cX10_cell 11 = .ok (.ifCond .lt 10, 3) := dq_X10_cell_0.2.2.2.2.2.2.1
theorem dX10_cell_14 : decode cX10_cell 14 = .ok (.iload 4, 2) := dq_X10_cell_0.2.2.2.2.2.2.2.1
theorem dX10_cell_16 : decode cX10_cell 16 = .ok (.ldc 161, 2) := dq_X10_cell_0.2.2.2.2.2.2.2.2.1
theorem dX10_cell_18 : decode cX10_cell 18 = .ok (.if_icmp .le 5, 3) := dq_X10_cell_0.2.2.2.2.2.2.2.2.2.1
theorem dX10_cell_21 : decode cX10_cell 21 = .ok (.iconst 0, 1) := dq_X10_cell_0.2.2.2.2.2.2.2.2.2.2.1
