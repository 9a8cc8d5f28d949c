theorem dX8_rewind_17 : decode cX8_rewind 17 = .ok (.putfield 19, 3) := by decide +kernel
theorem dX8_rewind_20 : decode cX8_rewind 20 = .ok (.return_, 1) := by decide +kernel
theorem dX8_tell_0 : decode cX8_tell 0 = .ok (.iload_n 1, 1) := by decide +kernel
theorem dX8_tell_1 : decode cX8_tell 1 = .ok (.ifCond .eq 8, 3) := by decide +kernel
theorem dX8_tell_4 : decode cX8_tell 4 = .ok (.aload_n 0, 1) := by decide +kernel
theorem dX8_tell_5 : decode cX8_tell 5 = .ok (.iload_n 1, 1) := by decide +kernel
theorem dX8_tell_6 : decode cX8_tell 6 = .ok (.putfield 7, 3) := by decide +kernel
theorem dX8_tell_9 : decode cX8_tell 9 = .ok (.iload_n 2, 1) := by decide +kernel
theorem dX8_tell_10 : decode cX8_tell 10 = .ok (.ifCond .eq 8, 3) := by decide +kernel
theorem dX8_tell_13 : decode cX8_tell 13 = .ok (.aload_n 0, 1) := by decide +kernel
theorem dX8_tell_14 : decode cX8_tell 14 = .ok (.iload_n 2, 1) := by decide +kernel
theorem dX8_tell_15 : decode cX8_tell 15 = .ok (.putfield 13, 3) := by decide +kernel
theorem dX8_tell_18 : decode cX8_tell 18 = .ok (.return_, 1) := by decide +kernel
theorem dX8_swing_0 : decode cX8_swing 0 = .ok (.aload_n 0, 1) := by decide +kernel
theorem dX8_swing_1 : decode cX8_swing 1 = .ok (.getfield 16, 3) := by decide +kernel
theorem dX8_swing_4 : decode cX8_swing 4 = .ok (.bipush 32, 2) := by decide +kernel
theorem dX8_swing_6 : decode cX8_swing 6 = .ok (.irem, 1) := by decide +kernel
theorem dX8_swing_7 : decode cX8_swing 7 = .ok (.istore_n 1, 1) := by decide +kernel
theorem dX8_swing_8 : decode cX8_swing 8 = .ok (.aload_n 0, 1) := by decide +kernel
theorem dX8_swing_9 : decode cX8_swing 9 = .ok (.getfield 19, 3) := by decide +kernel
theorem dX8_swing_12 : decode cX8_swing 12 = .ok (.lookupswitch 43 #[(1, 28), (2, 36)], 28) := by decide +kernel
theorem dX8_swing_40 : decode cX8_swing 40 = .ok (.bipush 8, 2) := by decide +kernel
theorem dX8_swing_42 : decode cX8_swing 42 = .ok (.iload_n 1, 1) := by decide +kernel
theorem dX8_swing_43 : decode cX8_swing 43 = .ok (.imul, 1) := by decide +kernel
theorem dX8_swing_44 : decode cX8_swing 44 = .ok (.istore_n 2, 1) := by decide +kernel
theorem dX8_swing_45 : decode cX8_swing 45 = .ok (.goto 25, 3) := by decide +kernel
theorem dX8_swing_48 : decode cX8_swing 48 = .ok (.sipush 255, 3) := by decide +kernel
theorem dX8_swing_51 : decode cX8_swing 51 = .ok (.istore_n 2, 1) := by decide +kernel
theorem dX8_swing_52 : decode cX8_swing 52 = .ok (.goto 18, 3) := by decide +kernel
theorem dX8_swing_55 : decode cX8_swing 55 = .ok (.sipush 255, 3) := by decide +kernel
theorem dX8_swing_58 : decode cX8_swing 58 = .ok (.iload_n 1, 1) := by decide +kernel
theorem dX8_swing_59 : decode cX8_swing 59 = .ok (.imul, 1) := by decide +kernel
theorem dX8_swing_60 : decode cX8_swing 60 = .ok (.bipush 32, 2) := by decide +kernel
theorem dX8_swing_62 : decode cX8_swing 62 = .ok (.iload_n 1, 1) := by decide +kernel
theorem dX8_swing_63 : decode cX8_swing 63 = .ok (.isub, 1) := by decide +kernel
theorem dX8_swing_64 : decode cX8_swing 64 = .ok (.imul, 1) := by decide +kernel
theorem dX8_swing_65 : decode cX8_swing 65 = .ok (.sipush 256, 3) := by decide +kernel
theorem dX8_swing_68 : decode cX8_swing 68 = .ok (.idiv, 1) := by decide +kernel
theorem dX8_swing_69 : decode cX8_swing 69 = .ok (.istore_n 2, 1) := by decide +kernel
theorem dX8_swing_70 : decode cX8_swing 70 = .ok (.aload_n 0, 1) := by decide +kernel
theorem dX8_swing_71 : decode cX8_swing 71 = .ok (.getfield 16, 3) := by decide +kernel
theorem dX8_swing_74 : decode cX8_swing 74 = .ok (.bipush 32, 2) := by decide +kernel
theorem dX8_swing_76 : decode cX8_swing 76 = .ok (.if_icmp .ge 7, 3) := by decide +kernel
theorem dX8_swing_79 : decode cX8_swing 79 = .ok (.iload_n 2, 1) := by decide +kernel
theorem dX8_swing_80 : decode cX8_swing 80 = .ok (.goto 5, 3) := by decide +kernel
theorem dX8_swing_83 : decode cX8_swing 83 = .ok (.iload_n 2, 1) := by decide +kernel
theorem dX8_swing_84 : decode cX8_swing 84 = .ok (.ineg, 1) := by decide +kernel
theorem dX8_swing_85 : decode cX8_swing 85 = .ok (.aload_n 0, 1) := by decide +kernel
theorem dX8_swing_86 : decode cX8_swing 86 = .ok (.getfield 13, 3) := by decide +kernel
theorem dX8_swing_89 : decode cX8_swing 89 = .ok (.imul, 1) := by decide +kernel
theorem dX8_swing_90 : decode cX8_swing 90 = .ok (.ireturn, 1) := by decide +kernel
theorem dX8_advance_0 : decode cX8_advance 0 = .ok (.aload_n 0, 1) := by decide +kernel
theorem dX8_advance_1 : decode cX8_advance 1 = .ok (.aload_n 0, 1) := by decide +kernel
theorem dX8_advance_2 : decode cX8_advance 2 = .ok (.getfield 16, 3) := by decide +kernel
theorem dX8_advance_5 : decode cX8_advance 5 = .ok (.aload_n 0, 1) := by decide +kernel
theorem dX8_advance_6 : decode cX8_advance 6 = .ok (.getfield 7, 3) := by decide +kernel
theorem dX8_advance_9 : decode cX8_advance 9 = .ok (.iadd, 1) := by decide +kernel
theorem dX8_advance_10 : decode cX8_advance 10 = .ok (.bipush 64, 2) := by decide +kernel
theorem dX8_advance_12 : decode cX8_advance 12 = .ok (.irem, 1) := by decide +kernel
theorem dX8_advance_13 : decode cX8_advance 13 = .ok (.putfield 16, 3) := by decide +kernel
theorem dX8_advance_16 : decode cX8_advance 16 = .ok (.return_, 1) := by decide +kernel
theorem dX9_writeSong_0 : decode cX9_writeSong 0 = .ok (.aload_n 0, 1) := by decide +kernel
theorem dX9_writeSong_1 : decode cX9_writeSong 1 = .ok (.sipush 950, 3) := by decide +kernel
theorem dX9_writeSong_4 : decode cX9_writeSong 4 = .ok (.aload_n 1, 1) := by decide +kernel
theorem dX9_writeSong_5 : decode cX9_writeSong 5 = .ok (.getfield 11, 3) := by decide +kernel
theorem dX9_writeSong_8 : decode cX9_writeSong 8 = .ok (.invokevirtual 17, 3) := by decide +kernel
theorem dX9_writeSong_11 : decode cX9_writeSong 11 = .ok (.aload_n 0, 1) := by decide +kernel
theorem dX9_writeSong_12 : decode cX9_writeSong 12 = .ok (.sipush 951, 3) := by decide +kernel
theorem dX9_writeSong_15 : decode cX9_writeSong 15 = .ok (.aload_n 1, 1) := by decide +kernel
theorem dX9_writeSong_16 : decode cX9_writeSong 16 = .ok (.getfield 23, 3) := by decide +kernel
theorem dX9_writeSong_19 : decode cX9_writeSong 19 = .ok (.invokevirtual 17, 3) := by decide +kernel
theorem dX9_writeSong_22 : decode cX9_writeSong 22 = .ok (.iconst 0, 1) := by decide +kernel
theorem dX9_writeSong_23 : decode cX9_writeSong 23 = .ok (.istore_n 2, 1) := by decide +kernel
theorem dX9_writeSong_24 : decode cX9_writeSong 24 = .ok (.iload_n 2, 1) := by decide +kernel
theorem dX9_writeSong_25 : decode cX9_writeSong 25 = .ok (.aload_n 1, 1) := by decide +kernel
theorem dX9_writeSong_26 : decode cX9_writeSong 26 = .ok (.getfield 11, 3) := by decide +kernel
theorem dX9_writeSong_29 : decode cX9_writeSong 29 = .ok (.if_icmp .ge 31, 3) := by decide +kernel
theorem dX9_writeSong_32 : decode cX9_writeSong 32 = .ok (.iload_n 2, 1) := by decide +kernel
theorem dX9_writeSong_33 : decode cX9_writeSong 33 = .ok (.sipush 128, 3) := by decide +kernel
theorem dX9_writeSong_36 : decode cX9_writeSong 36 = .ok (.if_icmp .ge 24, 3) := by decide +kernel
theorem dX9_writeSong_39 : decode cX9_writeSong 39 = .ok (.aload_n 0, 1) := by decide +kernel
theorem dX9_writeSong_40 : decode cX9_writeSong 40 = .ok (.sipush 952, 3) := by decide +kernel
theorem dX9_writeSong_43 : decode cX9_writeSong 43 = .ok (.iload_n 2, 1) := by decide +kernel
theorem dX9_writeSong_44 : decode cX9_writeSong 44 = .ok (.iadd, 1) := by decide +kernel
theorem dX9_writeSong_45 : decode cX9_writeSong 45 = .ok (.aload_n 1, 1) := by decide +kernel
theorem dX9_writeSong_46 : decode cX9_writeSong 46 = .ok (.getfield 26, 3) := by decide +kernel
theorem dX9_writeSong_49 : decode cX9_writeSong 49 = .ok (.iload_n 2, 1) := by decide +kernel
theorem dX9_writeSong_50 : decode cX9_writeSong 50 = .ok (.iaload, 1) := by decide +kernel
theorem dX9_writeSong_51 : decode cX9_writeSong 51 = .ok (.invokevirtual 17, 3) := by decide +kernel
theorem dX9_writeSong_54 : decode cX9_writeSong 54 = .ok (.iinc 2 1, 3) := by decide +kernel
theorem dX9_writeSong_57 : decode cX9_writeSong 57 = .ok (.goto (-33), 3) := by decide +kernel
theorem dX9_writeSong_60 : decode cX9_writeSong 60 = .ok (.iconst 0, 1) := by decide +kernel
theorem dX9_writeSong_61 : decode cX9_writeSong 61 = .ok (.istore_n 2, 1) := by decide +kernel
theorem dX9_writeSong_62 : decode cX9_writeSong 62 = .ok (.iload_n 2, 1) := by decide +kernel
theorem dX9_writeSong_63 : decode cX9_writeSong 63 = .ok (.iconst 4, 1) := by decide +kernel
theorem dX9_writeSong_64 : decode cX9_writeSong 64 = .ok (.if_icmp .ge 22, 3) := by decide +kernel
theorem dX9_writeSong_67 : decode cX9_writeSong 67 = .ok (.aload_n 0, 1) := by decide +kernel
theorem dX9_writeSong_68 : decode cX9_writeSong 68 = .ok (.sipush 1080, 3) := by decide +kernel
theorem dX9_writeSong_71 : decode cX9_writeSong 71 = .ok (.iload_n 2, 1) := by decide +kernel
theorem dX9_writeSong_72 : decode cX9_writeSong 72 = .ok (.iadd, 1) := by decide +kernel
theorem dX9_writeSong_73 : decode cX9_writeSong 73 = .ok (.iload_n 2, 1) := by decide +kernel
theorem dX9_writeSong_74 : decode cX9_writeSong 74 = .ok (.invokestatic 30, 3) := by decide +kernel
theorem dX9_writeSong_77 : decode cX9_writeSong 77 = .ok (.invokevirtual 17, 3) := by decide +kernel
theorem dX9_writeSong_80 : decode cX9_writeSong 80 = .ok (.iinc 2 1, 3) := by decide +kernel
theorem dX9_writeSong_83 : decode cX9_writeSong 83 = .ok (.goto (-21), 3) := by decide +kernel
theorem dX9_writeSong_86 : decode cX9_writeSong 86 = .ok (.aload_n 1, 1) := by decide +kernel
theorem dX9_writeSong_87 : decode cX9_writeSong 87 = .ok (.invokevirtual 34, 3) := by decide +kernel
theorem dX9_writeSong_90 : decode cX9_writeSong 90 = .ok (.istore_n 2, 1) := by decide +kernel
theorem dX9_writeSong_91 : decode cX9_writeSong 91 = .ok (.iconst 0, 1) := by decide +kernel
theorem dX9_writeSong_92 : decode cX9_writeSong 92 = .ok (.istore_n 3, 1) := by decide +kernel
theorem dX9_writeSong_93 : decode cX9_writeSong 93 = .ok (.iload_n 3, 1) := by decide +kernel
theorem dX9_writeSong_94 : decode cX9_writeSong 94 = .ok (.iload_n 2, 1) := by decide +kernel
theorem dX9_writeSong_95 : decode cX9_writeSong 95 = .ok (.if_icmp .ge 15, 3) := by decide +kernel
theorem dX9_writeSong_98 : decode cX9_writeSong 98 = .ok (.aload_n 0, 1) := by decide +kernel
theorem dX9_writeSong_99 : decode cX9_writeSong 99 = .ok (.aload_n 1, 1) := by decide +kernel
theorem dX9_writeSong_100 : decode cX9_writeSong 100 = .ok (.iload_n 3, 1) := by decide +kernel
theorem dX9_writeSong_101 : decode cX9_writeSong 101 = .ok (.invokestatic 38, 3) := by decide +kernel
theorem dX9_writeSong_104 : decode cX9_writeSong 104 = .ok (.iinc 3 1, 3) := by decide +kernel
theorem dX9_writeSong_107 : decode cX9_writeSong 107 = .ok (.goto (-14), 3) := by decide +kernel
theorem dX9_writeSong_110 : decode cX9_writeSong 110 = .ok (.return_, 1) := by decide +kernel
theorem dX9_writePattern_0 : decode cX9_writePattern 0 = .ok (.iconst 0, 1) := by decide +kernel
theorem dX9_writePattern_1 : decode cX9_writePattern 1 = .ok (.istore_n 3, 1) := by decide +kernel
theorem dX9_writePattern_2 : decode cX9_writePattern 2 = .ok (.iload_n 3, 1) := by decide +kernel
theorem dX9_writePattern_3 : decode cX9_writePattern 3 = .ok (.bipush 64, 2) := by decide +kernel
theorem dX9_writePattern_5 : decode cX9_writePattern 5 = .ok (.if_icmp .ge 47, 3) := by decide +kernel
theorem dX9_writePattern_8 : decode cX9_writePattern 8 = .ok (.iconst 0, 1) := by decide +kernel
theorem dX9_writePattern_9 : decode cX9_writePattern 9 = .ok (.istore 4, 2) := by decide +kernel
theorem dX9_writePattern_11 : decode cX9_writePattern 11 = .ok (.iload 4, 2) := by decide +kernel
theorem dX9_writePattern_13 : decode cX9_writePattern 13 = .ok (.iconst 4, 1) := by decide +kernel
theorem dX9_writePattern_14 : decode cX9_writePattern 14 = .ok (.if_icmp .ge 32, 3) := by decide +kernel
theorem dX9_writePattern_17 : decode cX9_writePattern 17 = .ok (.iload_n 2, 1) := by decide +kernel
theorem dX9_writePattern_18 : decode cX9_writePattern 18 = .ok (.iload_n 3, 1) := by decide +kernel
theorem dX9_writePattern_19 : decode cX9_writePattern 19 = .ok (.iload 4, 2) := by decide +kernel
theorem dX9_writePattern_21 : decode cX9_writePattern 21 = .ok (.invokestatic 44, 3) := by decide +kernel
theorem dX9_writePattern_24 : decode cX9_writePattern 24 = .ok (.istore 5, 2) := by decide +kernel
theorem dX9_writePattern_26 : decode cX9_writePattern 26 = .ok (.aload_n 0, 1) := by decide +kernel
theorem dX9_writePattern_27 : decode cX9_writePattern 27 = .ok (.iload 5, 2) := by decide +kernel
theorem dX9_writePattern_29 : decode cX9_writePattern 29 = .ok (.aload_n 1, 1) := by decide +kernel
theorem dX9_writePattern_30 : decode cX9_writePattern 30 = .ok (.iload_n 2, 1) := by decide +kernel
theorem dX9_writePattern_31 : decode cX9_writePattern 31 = .ok (.iload_n 3, 1) := by decide +kernel
theorem dX9_writePattern_32 : decode cX9_writePattern 32 = .ok (.iload 4, 2) := by decide +kernel
theorem dX9_writePattern_34 : decode cX9_writePattern 34 = .ok (.invokevirtual 48, 3) := by decide +kernel
theorem dX9_writePattern_37 : decode cX9_writePattern 37 = .ok (.invokestatic 51, 3) := by decide +kernel
theorem dX9_writePattern_40 : decode cX9_writePattern 40 = .ok (.iinc 4 1, 3) := by decide +kernel
theorem dX9_writePattern_43 : decode cX9_writePattern 43 = .ok (.goto (-32), 3) := by decide +kernel
theorem dX9_writePattern_46 : decode cX9_writePattern 46 = .ok (.iinc 3 1, 3) := by decide +kernel
theorem dX9_writePattern_49 : decode cX9_writePattern 49 = .ok (.goto (-47), 3) := by decide +kernel
theorem dX9_writePattern_52 : decode cX9_writePattern 52 = .ok (.return_, 1) := by decide +kernel
theorem dX9_writeCell_0 : decode cX9_writeCell 0 = .ok (.iload_n 2, 1) := by decide +kernel
theorem dX9_writeCell_1 : decode cX9_writeCell 1 = .ok (.bipush 17, 2) := by decide +kernel
theorem dX9_writeCell_3 : decode cX9_writeCell 3 = .ok (.ishr, 1) := by decide +kernel
theorem dX9_writeCell_4 : decode cX9_writeCell 4 = .ok (.istore_n 3, 1) := by decide +kernel
theorem dX9_writeCell_5 : decode cX9_writeCell 5 = .ok (.iload_n 2, 1) := by decide +kernel
theorem dX9_writeCell_6 : decode cX9_writeCell 6 = .ok (.bipush 12, 2) := by decide +kernel
theorem dX9_writeCell_8 : decode cX9_writeCell 8 = .ok (.ishr, 1) := by decide +kernel
theorem dX9_writeCell_9 : decode cX9_writeCell 9 = .ok (.bipush 31, 2) := by decide +kernel
theorem dX9_writeCell_11 : decode cX9_writeCell 11 = .ok (.iand, 1) := by decide +kernel
theorem dX9_writeCell_12 : decode cX9_writeCell 12 = .ok (.istore 4, 2) := by decide +kernel
theorem dX9_writeCell_14 : decode cX9_writeCell 14 = .ok (.aload_n 0, 1) := by decide +kernel
theorem dX9_writeCell_15 : decode cX9_writeCell 15 = .ok (.iload_n 1, 1) := by decide +kernel
theorem dX9_writeCell_16 : decode cX9_writeCell 16 = .ok (.iload 4, 2) := by decide +kernel
theorem dX9_writeCell_18 : decode cX9_writeCell 18 = .ok (.bipush 16, 2) := by decide +kernel
theorem dX9_writeCell_20 : decode cX9_writeCell 20 = .ok (.iand, 1) := by decide +kernel
theorem dX9_writeCell_21 : decode cX9_writeCell 21 = .ok (.iload_n 3, 1) := by decide +kernel
theorem dX9_writeCell_22 : decode cX9_writeCell 22 = .ok (.bipush 8, 2) := by decide +kernel
theorem dX9_writeCell_24 : decode cX9_writeCell 24 = .ok (.ishr, 1) := by decide +kernel
theorem dX9_writeCell_25 : decode cX9_writeCell 25 = .ok (.ior, 1) := by decide +kernel
theorem dX9_writeCell_26 : decode cX9_writeCell 26 = .ok (.invokevirtual 17, 3) := by decide +kernel
theorem dX9_writeCell_29 : decode cX9_writeCell 29 = .ok (.aload_n 0, 1) := by decide +kernel
theorem dX9_writeCell_30 : decode cX9_writeCell 30 = .ok (.iload_n 1, 1) := by decide +kernel
theorem dX9_writeCell_31 : decode cX9_writeCell 31 = .ok (.iconst 1, 1) := by decide +kernel
theorem dX9_writeCell_32 : decode cX9_writeCell 32 = .ok (.iadd, 1) := by decide +kernel
theorem dX9_writeCell_33 : decode cX9_writeCell 33 = .ok (.iload_n 3, 1) := by decide +kernel
theorem dX9_writeCell_34 : decode cX9_writeCell 34 = .ok (.sipush 255, 3) := by decide +kernel
theorem dX9_writeCell_37 : decode cX9_writeCell 37 = .ok (.iand, 1) := by decide +kernel
theorem dX9_writeCell_38 : decode cX9_writeCell 38 = .ok (.invokevirtual 17, 3) := by decide +kernel
theorem dX9_writeCell_41 : decode cX9_writeCell 41 = .ok (.aload_n 0, 1) := by decide +kernel
theorem dX9_writeCell_42 : decode cX9_writeCell 42 = .ok (.iload_n 1, 1) := by decide +kernel
theorem dX9_writeCell_43 : decode cX9_writeCell 43 = .ok (.iconst 2, 1) := by decide +kernel
theorem dX9_writeCell_44 : decode cX9_writeCell 44 = .ok (.iadd, 1) := by decide +kernel
theorem dX9_writeCell_45 : decode cX9_writeCell 45 = .ok (.iload 4, 2) := by decide +kernel
theorem dX9_writeCell_47 : decode cX9_writeCell 47 = .ok (.bipush 15, 2) := by decide +kernel
theorem dX9_writeCell_49 : decode cX9_writeCell 49 = .ok (.iand, 1) := by decide +kernel
theorem dX9_writeCell_50 : decode cX9_writeCell 50 = .ok (.iconst 4, 1) := by decide +kernel
theorem dX9_writeCell_51 : decode cX9_writeCell 51 = .ok (.ishl, 1) := by decide +kernel
theorem dX9_writeCell_52 : decode cX9_writeCell 52 = .ok (.iload_n 2, 1) := by decide +kernel
theorem dX9_writeCell_53 : decode cX9_writeCell 53 = .ok (.bipush 8, 2) := by decide +kernel
theorem dX9_writeCell_55 : decode cX9_writeCell 55 = .ok (.ishr, 1) := by decide +kernel
theorem dX9_writeCell_56 : decode cX9_writeCell 56 = .ok (.bipush 15, 2) := by decide +kernel
theorem dX9_writeCell_58 : decode cX9_writeCell 58 = .ok (.iand, 1) := by decide +kernel
theorem dX9_writeCell_59 : decode cX9_writeCell 59 = .ok (.ior, 1) := by decide +kernel
theorem dX9_writeCell_60 : decode cX9_writeCell 60 = .ok (.invokevirtual 17, 3) := by decide +kernel
theorem dX9_writeCell_63 : decode cX9_writeCell 63 = .ok (.aload_n 0, 1) := by decide +kernel
theorem dX9_writeCell_64 : decode cX9_writeCell 64 = .ok (.iload_n 1, 1) := by decide +kernel
theorem dX9_writeCell_65 : decode cX9_writeCell 65 = .ok (.iconst 3, 1) := by decide +kernel
theorem dX9_writeCell_66 : decode cX9_writeCell 66 = .ok (.iadd, 1) := by decide +kernel
theorem dX9_writeCell_67 : decode cX9_writeCell 67 = .ok (.iload_n 2, 1) := by decide +kernel
theorem dX9_writeCell_68 : decode cX9_writeCell 68 = .ok (.sipush 255, 3) := by decide +kernel
theorem dX9_writeCell_71 : decode cX9_writeCell 71 = .ok (.iand, 1) := by decide +kernel
theorem dX9_writeCell_72 : decode cX9_writeCell 72 = .ok (.invokevirtual 17, 3) := by decide +kernel
theorem dX9_writeCell_75 : decode cX9_writeCell 75 = .ok (.return_, 1) := by decide +kernel
theorem dX9_writeSamples_0 : decode cX9_writeSamples 0 = .ok (.iload_n 2, 1) := by decide +kernel
theorem dX9_writeSamples_1 : decode cX9_writeSamples 1 = .ok (.istore_n 3, 1) := by decide +kernel
theorem dX9_writeSamples_2 : decode cX9_writeSamples 2 = .ok (.iconst 1, 1) := by decide +kernel
theorem dX9_writeSamples_3 : decode cX9_writeSamples 3 = .ok (.istore 4, 2) := by decide +kernel
theorem dX9_writeSamples_5 : decode cX9_writeSamples 5 = .ok (.iload 4, 2) := by decide +kernel
theorem dX9_writeSamples_7 : decode cX9_writeSamples 7 = .ok (.bipush 31, 2) := by decide +kernel
theorem dX9_writeSamples_9 : decode cX9_writeSamples 9 = .ok (.if_icmp .gt 146, 3) := by decide +kernel
theorem dX9_writeSamples_12 : decode cX9_writeSamples 12 = .ok (.iload 4, 2) := by decide +kernel
theorem dX9_writeSamples_14 : decode cX9_writeSamples 14 = .ok (.invokestatic 55, 3) := by decide +kernel
theorem dX9_writeSamples_17 : decode cX9_writeSamples 17 = .ok (.istore 5, 2) := by decide +kernel
theorem dX9_writeSamples_19 : decode cX9_writeSamples 19 = .ok (.aload_n 1, 1) := by decide +kernel
theorem dX9_writeSamples_20 : decode cX9_writeSamples 20 = .ok (.iload 4, 2) := by decide +kernel
theorem dX9_writeSamples_22 : decode cX9_writeSamples 22 = .ok (.invokevirtual 58, 3) := by decide +kernel
theorem dX9_writeSamples_25 : decode cX9_writeSamples 25 = .ok (.astore 6, 2) := by decide +kernel
theorem dX9_writeSamples_27 : decode cX9_writeSamples 27 = .ok (.aload_n 0, 1) := by decide +kernel
theorem dX9_writeSamples_28 : decode cX9_writeSamples 28 = .ok (.iload 5, 2) := by decide +kernel
theorem dX9_writeSamples_30 : decode cX9_writeSamples 30 = .ok (.bipush 22, 2) := by decide +kernel
theorem dX9_writeSamples_32 : decode cX9_writeSamples 32 = .ok (.iadd, 1) := by decide +kernel
theorem dX9_writeSamples_33 : decode cX9_writeSamples 33 = .ok (.aload 6, 2) := by decide +kernel
theorem dX9_writeSamples_35 : decode cX9_writeSamples 35 = .ok (.getfield 64, 3) := by decide +kernel
theorem dX9_writeSamples_38 : decode cX9_writeSamples 38 = .ok (.iconst 2, 1) := by decide +kernel
theorem dX9_writeSamples_39 : decode cX9_writeSamples 39 = .ok (.idiv, 1) := by decide +kernel
theorem dX9_writeSamples_40 : decode cX9_writeSamples 40 = .ok (.invokevirtual 67, 3) := by decide +kernel
theorem dX9_writeSamples_43 : decode cX9_writeSamples 43 = .ok (.aload_n 0, 1) := by decide +kernel
theorem dX9_writeSamples_44 : decode cX9_writeSamples 44 = .ok (.iload 5, 2) := by decide +kernel
theorem dX9_writeSamples_46 : decode cX9_writeSamples 46 = .ok (.bipush 24, 2) := by decide +kernel
theorem dX9_writeSamples_48 : decode cX9_writeSamples 48 = .ok (.iadd, 1) := by decide +kernel
theorem dX9_writeSamples_49 : decode cX9_writeSamples 49 = .ok (.aload 6, 2) := by decide +kernel
theorem dX9_writeSamples_51 : decode cX9_writeSamples 51 = .ok (.getfield 70, 3) := by decide +kernel
theorem dX9_writeSamples_54 : decode cX9_writeSamples 54 = .ok (.bipush 15, 2) := by decide +kernel
theorem dX9_writeSamples_56 : decode cX9_writeSamples 56 = .ok (.iand, 1) := by decide +kernel
theorem dX9_writeSamples_57 : decode cX9_writeSamples 57 = .ok (.invokevirtual 17, 3) := by decide +kernel
theorem dX9_writeSamples_60 : decode cX9_writeSamples 60 = .ok (.aload_n 0, 1) := by decide +kernel
theorem dX9_writeSamples_61 : decode cX9_writeSamples 61 = .ok (.iload 5, 2) := by decide +kernel
theorem dX9_writeSamples_63 : decode cX9_writeSamples 63 = .ok (.bipush 25, 2) := by decide +kernel
theorem dX9_writeSamples_65 : decode cX9_writeSamples 65 = .ok (.iadd, 1) := by decide +kernel
theorem dX9_writeSamples_66 : decode cX9_writeSamples 66 = .ok (.aload 6, 2) := by decide +kernel
theorem dX9_writeSamples_68 : decode cX9_writeSamples 68 = .ok (.getfield 73, 3) := by decide +kernel
theorem dX9_writeSamples_71 : decode cX9_writeSamples 71 = .ok (.invokevirtual 17, 3) := by decide +kernel
theorem dX9_writeSamples_74 : decode cX9_writeSamples 74 = .ok (.aload_n 0, 1) := by decide +kernel
theorem dX9_writeSamples_75 : decode cX9_writeSamples 75 = .ok (.iload 5, 2) := by decide +kernel
theorem dX9_writeSamples_77 : decode cX9_writeSamples 77 = .ok (.bipush 26, 2) := by decide +kernel
theorem dX9_writeSamples_79 : decode cX9_writeSamples 79 = .ok (.iadd, 1) := by decide +kernel
theorem dX9_writeSamples_80 : decode cX9_writeSamples 80 = .ok (.aload 6, 2) := by decide +kernel
theorem dX9_writeSamples_82 : decode cX9_writeSamples 82 = .ok (.getfield 76, 3) := by decide +kernel
theorem dX9_writeSamples_85 : decode cX9_writeSamples 85 = .ok (.iconst 2, 1) := by decide +kernel
theorem dX9_writeSamples_86 : decode cX9_writeSamples 86 = .ok (.idiv, 1) := by decide +kernel
theorem dX9_writeSamples_87 : decode cX9_writeSamples 87 = .ok (.invokevirtual 67, 3) := by decide +kernel
theorem dX9_writeSamples_90 : decode cX9_writeSamples 90 = .ok (.aload_n 0, 1) := by decide +kernel
theorem dX9_writeSamples_91 : decode cX9_writeSamples 91 = .ok (.iload 5, 2) := by decide +kernel
theorem dX9_writeSamples_93 : decode cX9_writeSamples 93 = .ok (.bipush 28, 2) := by decide +kernel
theorem dX9_writeSamples_95 : decode cX9_writeSamples 95 = .ok (.iadd, 1) := by decide +kernel
theorem dX9_writeSamples_96 : decode cX9_writeSamples 96 = .ok (.aload 6, 2) := by decide +kernel
theorem dX9_writeSamples_98 : decode cX9_writeSamples 98 = .ok (.getfield 79, 3) := by decide +kernel
theorem dX9_writeSamples_101 : decode cX9_writeSamples 101 = .ok (.iconst 2, 1) := by decide +kernel
theorem dX9_writeSamples_102 : decode cX9_writeSamples 102 = .ok (.idiv, 1) := by decide +kernel
theorem dX9_writeSamples_103 : decode cX9_writeSamples 103 = .ok (.invokevirtual 67, 3) := by decide +kernel
theorem dX9_writeSamples_106 : decode cX9_writeSamples 106 = .ok (.iconst 0, 1) := by decide +kernel
theorem dX9_writeSamples_107 : decode cX9_writeSamples 107 = .ok (.istore 7, 2) := by decide +kernel
theorem dX9_writeSamples_109 : decode cX9_writeSamples 109 = .ok (.iload 7, 2) := by decide +kernel
theorem dX9_writeSamples_111 : decode cX9_writeSamples 111 = .ok (.aload 6, 2) := by decide +kernel
theorem dX9_writeSamples_113 : decode cX9_writeSamples 113 = .ok (.getfield 64, 3) := by decide +kernel
theorem dX9_writeSamples_116 : decode cX9_writeSamples 116 = .ok (.if_icmp .ge 25, 3) := by decide +kernel
theorem dX9_writeSamples_119 : decode cX9_writeSamples 119 = .ok (.aload_n 0, 1) := by decide +kernel
theorem dX9_writeSamples_120 : decode cX9_writeSamples 120 = .ok (.iload_n 3, 1) := by decide +kernel
theorem dX9_writeSamples_121 : decode cX9_writeSamples 121 = .ok (.iload 7, 2) := by decide +kernel
theorem dX9_writeSamples_123 : decode cX9_writeSamples 123 = .ok (.iadd, 1) := by decide +kernel
theorem dX9_writeSamples_124 : decode cX9_writeSamples 124 = .ok (.aload_n 1, 1) := by decide +kernel
theorem dX9_writeSamples_125 : decode cX9_writeSamples 125 = .ok (.aload 6, 2) := by decide +kernel
theorem dX9_writeSamples_127 : decode cX9_writeSamples 127 = .ok (.iload 7, 2) := by decide +kernel
theorem dX9_writeSamples_129 : decode cX9_writeSamples 129 = .ok (.invokevirtual 82, 3) := by decide +kernel
theorem dX9_writeSamples_132 : decode cX9_writeSamples 132 = .ok (.invokevirtual 17, 3) := by decide +kernel
theorem dX9_writeSamples_135 : decode cX9_writeSamples 135 = .ok (.iinc 7 1, 3) := by decide +kernel
theorem dX9_writeSamples_138 : decode cX9_writeSamples 138 = .ok (.goto (-29), 3) := by decide +kernel
theorem dX9_writeSamples_141 : decode cX9_writeSamples 141 = .ok (.iload_n 3, 1) := by decide +kernel
theorem dX9_writeSamples_142 : decode cX9_writeSamples 142 = .ok (.aload 6, 2) := by decide +kernel
theorem dX9_writeSamples_144 : decode cX9_writeSamples 144 = .ok (.getfield 64, 3) := by decide +kernel
theorem dX9_writeSamples_147 : decode cX9_writeSamples 147 = .ok (.iadd, 1) := by decide +kernel
theorem dX9_writeSamples_148 : decode cX9_writeSamples 148 = .ok (.istore_n 3, 1) := by decide +kernel
theorem dX9_writeSamples_149 : decode cX9_writeSamples 149 = .ok (.iinc 4 1, 3) := by decide +kernel
theorem dX9_writeSamples_152 : decode cX9_writeSamples 152 = .ok (.goto (-147), 3) := by decide +kernel
theorem dX9_writeSamples_155 : decode cX9_writeSamples 155 = .ok (.return_, 1) := by decide +kernel
theorem dX10_init_0 : decode cX10_init 0 = .ok (.aload_n 0, 1) := by decide +kernel
theorem dX10_init_1 : decode cX10_init 1 = .ok (.invokespecial 1, 3) := by decide +kernel
theorem dX10_init_4 : decode cX10_init 4 = .ok (.aload_n 0, 1) := by decide +kernel
theorem dX10_init_5 : decode cX10_init 5 = .ok (.new 7, 3) := by decide +kernel
theorem dX10_init_8 : decode cX10_init 8 = .ok (.dup, 1) := by decide +kernel
theorem dX10_init_9 : decode cX10_init 9 = .ok (.invokespecial 9, 3) := by decide +kernel
theorem dX10_init_12 : decode cX10_init 12 = .ok (.putfield 10, 3) := by decide +kernel
theorem dX10_init_15 : decode cX10_init 15 = .ok (.aload_n 0, 1) := by decide +kernel
theorem dX10_init_16 : decode cX10_init 16 = .ok (.new 16, 3) := by decide +kernel
theorem dX10_init_19 : decode cX10_init 19 = .ok (.dup, 1) := by decide +kernel
theorem dX10_init_20 : decode cX10_init 20 = .ok (.invokespecial 18, 3) := by decide +kernel
theorem dX10_init_23 : decode cX10_init 23 = .ok (.putfield 19, 3) := by decide +kernel
theorem dX10_init_26 : decode cX10_init 26 = .ok (.aload_n 0, 1) := by decide +kernel
theorem dX10_init_27 : decode cX10_init 27 = .ok (.new 23, 3) := by decide +kernel
theorem dX10_init_30 : decode cX10_init 30 = .ok (.dup, 1) := by decide +kernel
theorem dX10_init_31 : decode cX10_init 31 = .ok (.invokespecial 25, 3) := by decide +kernel
theorem dX10_init_34 : decode cX10_init 34 = .ok (.putfield 26, 3) := by decide +kernel
theorem dX10_init_37 : decode cX10_init 37 = .ok (.aload_n 0, 1) := by decide +kernel
theorem dX10_init_38 : decode cX10_init 38 = .ok (.new 30, 3) := by decide +kernel
theorem dX10_init_41 : decode cX10_init 41 = .ok (.dup, 1) := by decide +kernel
theorem dX10_init_42 : decode cX10_init 42 = .ok (.invokespecial 32, 3) := by decide +kernel
theorem dX10_init_45 : decode cX10_init 45 = .ok (.putfield 33, 3) := by decide +kernel
theorem dX10_init_48 : decode cX10_init 48 = .ok (.aload_n 0, 1) := by decide +kernel
theorem dX10_init_49 : decode cX10_init 49 = .ok (.new 37, 3) := by decide +kernel
theorem dX10_init_52 : decode cX10_init 52 = .ok (.dup, 1) := by decide +kernel
theorem dX10_init_53 : decode cX10_init 53 = .ok (.aload_n 0, 1) := by decide +kernel
theorem dX10_init_54 : decode cX10_init 54 = .ok (.getfield 26, 3) := by decide +kernel
theorem dX10_init_57 : decode cX10_init 57 = .ok (.invokespecial 39, 3) := by decide +kernel
theorem dX10_init_60 : decode cX10_init 60 = .ok (.putfield 42, 3) := by decide +kernel
theorem dX10_init_63 : decode cX10_init 63 = .ok (.aload_n 0, 1) := by decide +kernel
theorem dX10_init_64 : decode cX10_init 64 = .ok (.iconst 4, 1) := by decide +kernel
theorem dX10_init_65 : decode cX10_init 65 = .ok (.anewarray 46, 3) := by decide +kernel
theorem dX10_init_68 : decode cX10_init 68 = .ok (.putfield 48, 3) := by decide +kernel
theorem dX10_init_71 : decode cX10_init 71 = .ok (.iconst 0, 1) := by decide +kernel
theorem dX10_init_72 : decode cX10_init 72 = .ok (.istore_n 2, 1) := by decide +kernel
theorem dX10_init_73 : decode cX10_init 73 = .ok (.iload_n 2, 1) := by decide +kernel
theorem dX10_init_74 : decode cX10_init 74 = .ok (.iconst 4, 1) := by decide +kernel
theorem dX10_init_75 : decode cX10_init 75 = .ok (.if_icmp .ge 26, 3) := by decide +kernel
theorem dX10_init_78 : decode cX10_init 78 = .ok (.aload_n 0, 1) := by decide +kernel
theorem dX10_init_79 : decode cX10_init 79 = .ok (.getfield 48, 3) := by decide +kernel
theorem dX10_init_82 : decode cX10_init 82 = .ok (.iload_n 2, 1) := by decide +kernel
theorem dX10_init_83 : decode cX10_init 83 = .ok (.new 46, 3) := by decide +kernel
theorem dX10_init_86 : decode cX10_init 86 = .ok (.dup, 1) := by decide +kernel
theorem dX10_init_87 : decode cX10_init 87 = .ok (.aload_n 0, 1) := by decide +kernel
theorem dX10_init_88 : decode cX10_init 88 = .ok (.getfield 19, 3) := by decide +kernel
theorem dX10_init_91 : decode cX10_init 91 = .ok (.invokespecial 52, 3) := by decide +kernel
theorem dX10_init_94 : decode cX10_init 94 = .ok (.aastore, 1) := by decide +kernel
theorem dX10_init_95 : decode cX10_init 95 = .ok (.iinc 2 1, 3) := by decide +kernel
theorem dX10_init_98 : decode cX10_init 98 = .ok (.goto (-25), 3) := by decide +kernel
theorem dX10_init_101 : decode cX10_init 101 = .ok (.aload_n 0, 1) := by decide +kernel
theorem dX10_init_102 : decode cX10_init 102 = .ok (.new 55, 3) := by decide +kernel
theorem dX10_init_105 : decode cX10_init 105 = .ok (.dup, 1) := by decide +kernel
theorem dX10_init_106 : decode cX10_init 106 = .ok (.iload_n 1, 1) := by decide +kernel
theorem dX10_init_107 : decode cX10_init 107 = .ok (.sipush 2000, 3) := by decide +kernel
theorem dX10_init_110 : decode cX10_init 110 = .ok (.sipush 16000, 3) := by decide +kernel
theorem dX10_init_113 : decode cX10_init 113 = .ok (.invokestatic 57, 3) := by decide +kernel
theorem dX10_init_116 : decode cX10_init 116 = .ok (.invokespecial 61, 3) := by decide +kernel
theorem dX10_init_119 : decode cX10_init 119 = .ok (.putfield 64, 3) := by decide +kernel
theorem dX10_init_122 : decode cX10_init 122 = .ok (.aload_n 0, 1) := by decide +kernel
theorem dX10_init_123 : decode cX10_init 123 = .ok (.invokevirtual 68, 3) := by decide +kernel
theorem dX10_init_126 : decode cX10_init 126 = .ok (.return_, 1) := by decide +kernel
theorem dX10_feed_0 : decode cX10_feed 0 = .ok (.aload_n 0, 1) := by decide +kernel
theorem dX10_feed_1 : decode cX10_feed 1 = .ok (.getfield 10, 3) := by decide +kernel
theorem dX10_feed_4 : decode cX10_feed 4 = .ok (.getfield 71, 3) := by decide +kernel
theorem dX10_feed_7 : decode cX10_feed 7 = .ok (.sipush 8980, 3) := by decide +kernel
theorem dX10_feed_10 : decode cX10_feed 10 = .ok (.if_icmp .le 5, 3) := by decide +kernel
theorem dX10_feed_13 : decode cX10_feed 13 = .ok (.iconst (-1), 1) := by decide +kernel
theorem dX10_feed_14 : decode cX10_feed 14 = .ok (.ireturn, 1) := by decide +kernel
theorem dX10_feed_15 : decode cX10_feed 15 = .ok (.aload_n 0, 1) := by decide +kernel
theorem dX10_feed_16 : decode cX10_feed 16 = .ok (.getfield 10, 3) := by decide +kernel
theorem dX10_feed_19 : decode cX10_feed 19 = .ok (.iload_n 1, 1) := by decide +kernel
theorem dX10_feed_20 : decode cX10_feed 20 = .ok (.invokevirtual 75, 3) := by decide +kernel
theorem dX10_feed_23 : decode cX10_feed 23 = .ok (.aload_n 0, 1) := by decide +kernel
theorem dX10_feed_24 : decode cX10_feed 24 = .ok (.getfield 10, 3) := by decide +kernel
theorem dX10_feed_27 : decode cX10_feed 27 = .ok (.iload_n 2, 1) := by decide +kernel
theorem dX10_feed_28 : decode cX10_feed 28 = .ok (.invokevirtual 75, 3) := by decide +kernel
theorem dX10_feed_31 : decode cX10_feed 31 = .ok (.aload_n 0, 1) := by decide +kernel
theorem dX10_feed_32 : decode cX10_feed 32 = .ok (.getfield 10, 3) := by decide +kernel
theorem dX10_feed_35 : decode cX10_feed 35 = .ok (.iload_n 3, 1) := by decide +kernel
theorem dX10_feed_36 : decode cX10_feed 36 = .ok (.invokevirtual 75, 3) := by decide +kernel
theorem dX10_feed_39 : decode cX10_feed 39 = .ok (.aload_n 0, 1) := by decide +kernel
theorem dX10_feed_40 : decode cX10_feed 40 = .ok (.getfield 10, 3) := by decide +kernel
theorem dX10_feed_43 : decode cX10_feed 43 = .ok (.iload 4, 2) := by decide +kernel
theorem dX10_feed_45 : decode cX10_feed 45 = .ok (.invokevirtual 75, 3) := by decide +kernel
theorem dX10_feed_48 : decode cX10_feed 48 = .ok (.aload_n 0, 1) := by decide +kernel
theorem dX10_feed_49 : decode cX10_feed 49 = .ok (.getfield 10, 3) := by decide +kernel
theorem dX10_feed_52 : decode cX10_feed 52 = .ok (.iload 5, 2) := by decide +kernel
theorem dX10_feed_54 : decode cX10_feed 54 = .ok (.invokevirtual 75, 3) := by decide +kernel
theorem dX10_feed_57 : decode cX10_feed 57 = .ok (.aload_n 0, 1) := by decide +kernel
theorem dX10_feed_58 : decode cX10_feed 58 = .ok (.getfield 10, 3) := by decide +kernel
theorem dX10_feed_61 : decode cX10_feed 61 = .ok (.getfield 71, 3) := by decide +kernel
theorem dX10_feed_64 : decode cX10_feed 64 = .ok (.ireturn, 1) := by decide +kernel
theorem dX10_end_0 : decode cX10_end 0 = .ok (.iload_n 1, 1) := by decide +kernel
theorem dX10_end_1 : decode cX10_end 1 = .ok (.ifCond .lt 14, 3) := by decide +kernel
theorem dX10_end_4 : decode cX10_end 4 = .ok (.iload_n 1, 1) := by decide +kernel
theorem dX10_end_5 : decode cX10_end 5 = .ok (.aload_n 0, 1) := by decide +kernel
theorem dX10_end_6 : decode cX10_end 6 = .ok (.getfield 10, 3) := by decide +kernel
theorem dX10_end_9 : decode cX10_end 9 = .ok (.getfield 71, 3) := by decide +kernel
theorem dX10_end_12 : decode cX10_end 12 = .ok (.if_icmp .le 5, 3) := by decide +kernel
theorem dX10_end_15 : decode cX10_end 15 = .ok (.iconst 0, 1) := by decide +kernel
theorem dX10_end_16 : decode cX10_end 16 = .ok (.ireturn, 1) := by decide +kernel
theorem dX10_end_17 : decode cX10_end 17 = .ok (.aload_n 0, 1) := by decide +kernel
theorem dX10_end_18 : decode cX10_end 18 = .ok (.getfield 10, 3) := by decide +kernel
theorem dX10_end_21 : decode cX10_end 21 = .ok (.iload_n 1, 1) := by decide +kernel
theorem dX10_end_22 : decode cX10_end 22 = .ok (.putfield 71, 3) := by decide +kernel
theorem dX10_end_25 : decode cX10_end 25 = .ok (.iconst 1, 1) := by decide +kernel
theorem dX10_end_26 : decode cX10_end 26 = .ok (.ireturn, 1) := by decide +kernel
theorem dX10_poke_0 : decode cX10_poke 0 = .ok (.iload_n 1, 1) := by decide +kernel
theorem dX10_poke_1 : decode cX10_poke 1 = .ok (.sipush 9000, 3) := by decide +kernel
theorem dX10_poke_4 : decode cX10_poke 4 = .ok (.invokestatic 78, 3) := by decide +kernel
theorem dX10_poke_7 : decode cX10_poke 7 = .ok (.ifCond .ne 5, 3) := by decide +kernel
theorem dX10_poke_10 : decode cX10_poke 10 = .ok (.iconst (-1), 1) := by decide +kernel
theorem dX10_poke_11 : decode cX10_poke 11 = .ok (.ireturn, 1) := by decide +kernel
theorem dX10_poke_12 : decode cX10_poke 12 = .ok (.aload_n 0, 1) := by decide +kernel
theorem dX10_poke_13 : decode cX10_poke 13 = .ok (.getfield 10, 3) := by decide +kernel
theorem dX10_poke_16 : decode cX10_poke 16 = .ok (.iload_n 1, 1) := by decide +kernel
theorem dX10_poke_17 : decode cX10_poke 17 = .ok (.iload_n 2, 1) := by decide +kernel
theorem dX10_poke_18 : decode cX10_poke 18 = .ok (.invokevirtual 82, 3) := by decide +kernel
theorem dX10_poke_21 : decode cX10_poke 21 = .ok (.aload_n 0, 1) := by decide +kernel
theorem dX10_poke_22 : decode cX10_poke 22 = .ok (.getfield 10, 3) := by decide +kernel
theorem dX10_poke_25 : decode cX10_poke 25 = .ok (.getfield 71, 3) := by decide +kernel
theorem dX10_poke_28 : decode cX10_poke 28 = .ok (.ireturn, 1) := by decide +kernel
theorem dX10_load_0 : decode cX10_load 0 = .ok (.aload_n 0, 1) := by decide +kernel
theorem dX10_load_1 : decode cX10_load 1 = .ok (.getfield 33, 3) := by decide +kernel
theorem dX10_load_4 : decode cX10_load 4 = .ok (.aload_n 0, 1) := by decide +kernel
theorem dX10_load_5 : decode cX10_load 5 = .ok (.getfield 10, 3) := by decide +kernel
theorem dX10_load_8 : decode cX10_load 8 = .ok (.invokevirtual 86, 3) := by decide +kernel
theorem dX10_load_11 : decode cX10_load 11 = .ok (.ifCond .ne 5, 3) := by decide +kernel
theorem dX10_load_14 : decode cX10_load 14 = .ok (.iconst (-1), 1) := by decide +kernel
theorem dX10_load_15 : decode cX10_load 15 = .ok (.ireturn, 1) := by decide +kernel
theorem dX10_load_16 : decode cX10_load 16 = .ok (.aload_n 0, 1) := by decide +kernel
theorem dX10_load_17 : decode cX10_load 17 = .ok (.getfield 10, 3) := by decide +kernel
theorem dX10_load_20 : decode cX10_load 20 = .ok (.aload_n 0, 1) := by decide +kernel
theorem dX10_load_21 : decode cX10_load 21 = .ok (.getfield 26, 3) := by decide +kernel
theorem dX10_load_24 : decode cX10_load 24 = .ok (.invokestatic 90, 3) := by decide +kernel
theorem dX10_load_27 : decode cX10_load 27 = .ok (.aload_n 0, 1) := by decide +kernel
theorem dX10_load_28 : decode cX10_load 28 = .ok (.getfield 10, 3) := by decide +kernel
theorem dX10_load_31 : decode cX10_load 31 = .ok (.aload_n 0, 1) := by decide +kernel
theorem dX10_load_32 : decode cX10_load 32 = .ok (.getfield 19, 3) := by decide +kernel
theorem dX10_load_35 : decode cX10_load 35 = .ok (.aload_n 0, 1) := by decide +kernel
theorem dX10_load_36 : decode cX10_load 36 = .ok (.getfield 26, 3) := by decide +kernel
theorem dX10_load_39 : decode cX10_load 39 = .ok (.invokevirtual 94, 3) := by decide +kernel
theorem dX10_load_42 : decode cX10_load 42 = .ok (.invokestatic 98, 3) := by decide +kernel
theorem dX10_load_45 : decode cX10_load 45 = .ok (.invokestatic 102, 3) := by decide +kernel
theorem dX10_load_48 : decode cX10_load 48 = .ok (.aload_n 0, 1) := by decide +kernel
theorem dX10_load_49 : decode cX10_load 49 = .ok (.invokevirtual 68, 3) := by decide +kernel
theorem dX10_load_52 : decode cX10_load 52 = .ok (.aload_n 0, 1) := by decide +kernel
theorem dX10_load_53 : decode cX10_load 53 = .ok (.getfield 26, 3) := by decide +kernel
theorem dX10_load_56 : decode cX10_load 56 = .ok (.invokevirtual 94, 3) := by decide +kernel
theorem dX10_load_59 : decode cX10_load 59 = .ok (.ireturn, 1) := by decide +kernel
theorem dX10_fault_0 : decode cX10_fault 0 = .ok (.iload_n 1, 1) := by decide +kernel
theorem dX10_fault_1 : decode cX10_fault 1 = .ok (.lookupswitch 43 #[(0, 27), (1, 35)], 27) := by decide +kernel
theorem dX10_fault_28 : decode cX10_fault 28 = .ok (.aload_n 0, 1) := by decide +kernel
theorem dX10_fault_29 : decode cX10_fault 29 = .ok (.getfield 33, 3) := by decide +kernel
theorem dX10_fault_32 : decode cX10_fault 32 = .ok (.getfield 106, 3) := by decide +kernel
theorem dX10_fault_35 : decode cX10_fault 35 = .ok (.ireturn, 1) := by decide +kernel
theorem dX10_fault_36 : decode cX10_fault 36 = .ok (.aload_n 0, 1) := by decide +kernel
theorem dX10_fault_37 : decode cX10_fault 37 = .ok (.getfield 33, 3) := by decide +kernel
theorem dX10_fault_40 : decode cX10_fault 40 = .ok (.getfield 109, 3) := by decide +kernel
theorem dX10_fault_43 : decode cX10_fault 43 = .ok (.ireturn, 1) := by decide +kernel
theorem dX10_fault_44 : decode cX10_fault 44 = .ok (.iconst (-1), 1) := by decide +kernel
theorem dX10_fault_45 : decode cX10_fault 45 = .ok (.ireturn, 1) := by decide +kernel
theorem dX10_save_0 : decode cX10_save 0 = .ok (.aload_n 0, 1) := by decide +kernel
theorem dX10_save_1 : decode cX10_save 1 = .ok (.getfield 26, 3) := by decide +kernel
theorem dX10_save_4 : decode cX10_save 4 = .ok (.invokevirtual 94, 3) := by decide +kernel
theorem dX10_save_7 : decode cX10_save 7 = .ok (.invokestatic 98, 3) := by decide +kernel
theorem dX10_save_10 : decode cX10_save 10 = .ok (.istore_n 1, 1) := by decide +kernel
theorem dX10_save_11 : decode cX10_save 11 = .ok (.iload_n 1, 1) := by decide +kernel
theorem dX10_save_12 : decode cX10_save 12 = .ok (.aload_n 0, 1) := by decide +kernel
theorem dX10_save_13 : decode cX10_save 13 = .ok (.getfield 19, 3) := by decide +kernel
theorem dX10_save_16 : decode cX10_save 16 = .ok (.getfield 112, 3) := by decide +kernel
theorem dX10_save_19 : decode cX10_save 19 = .ok (.iadd, 1) := by decide +kernel
theorem dX10_save_20 : decode cX10_save 20 = .ok (.sipush 9000, 3) := by decide +kernel
theorem dX10_save_23 : decode cX10_save 23 = .ok (.if_icmp .le 5, 3) := by decide +kernel
theorem dX10_save_26 : decode cX10_save 26 = .ok (.iconst (-1), 1) := by decide +kernel
theorem dX10_save_27 : decode cX10_save 27 = .ok (.ireturn, 1) := by decide +kernel
theorem dX10_save_28 : decode cX10_save 28 = .ok (.aload_n 0, 1) := by decide +kernel
theorem dX10_save_29 : decode cX10_save 29 = .ok (.getfield 10, 3) := by decide +kernel
theorem dX10_save_32 : decode cX10_save 32 = .ok (.iconst 0, 1) := by decide +kernel
theorem dX10_save_33 : decode cX10_save 33 = .ok (.putfield 71, 3) := by decide +kernel
theorem dX10_save_36 : decode cX10_save 36 = .ok (.aload_n 0, 1) := by decide +kernel
theorem dX10_save_37 : decode cX10_save 37 = .ok (.getfield 10, 3) := by decide +kernel
theorem dX10_save_40 : decode cX10_save 40 = .ok (.aload_n 0, 1) := by decide +kernel
theorem dX10_save_41 : decode cX10_save 41 = .ok (.getfield 26, 3) := by decide +kernel
theorem dX10_save_44 : decode cX10_save 44 = .ok (.invokestatic 115, 3) := by decide +kernel
theorem dX10_save_47 : decode cX10_save 47 = .ok (.aload_n 0, 1) := by decide +kernel
theorem dX10_save_48 : decode cX10_save 48 = .ok (.getfield 10, 3) := by decide +kernel
theorem dX10_save_51 : decode cX10_save 51 = .ok (.aload_n 0, 1) := by decide +kernel
theorem dX10_save_52 : decode cX10_save 52 = .ok (.getfield 19, 3) := by decide +kernel
theorem dX10_save_55 : decode cX10_save 55 = .ok (.iload_n 1, 1) := by decide +kernel
theorem dX10_save_56 : decode cX10_save 56 = .ok (.invokestatic 120, 3) := by decide +kernel
theorem dX10_save_59 : decode cX10_save 59 = .ok (.aload_n 0, 1) := by decide +kernel
theorem dX10_save_60 : decode cX10_save 60 = .ok (.getfield 10, 3) := by decide +kernel
theorem dX10_save_63 : decode cX10_save 63 = .ok (.getfield 71, 3) := by decide +kernel
theorem dX10_save_66 : decode cX10_save 66 = .ok (.ireturn, 1) := by decide +kernel
theorem dX10_tape_0 : decode cX10_tape 0 = .ok (.aload_n 0, 1) := by decide +kernel
theorem dX10_tape_1 : decode cX10_tape 1 = .ok (.getfield 10, 3) := by decide +kernel
theorem dX10_tape_4 : decode cX10_tape 4 = .ok (.iload_n 1, 1) := by decide +kernel
theorem dX10_tape_5 : decode cX10_tape 5 = .ok (.invokevirtual 123, 3) := by decide +kernel
theorem dX10_tape_8 : decode cX10_tape 8 = .ok (.ireturn, 1) := by decide +kernel
theorem dX10_sample_0 : decode cX10_sample 0 = .ok (.aload_n 0, 1) := by decide +kernel
theorem dX10_sample_1 : decode cX10_sample 1 = .ok (.getfield 19, 3) := by decide +kernel
theorem dX10_sample_4 : decode cX10_sample 4 = .ok (.iload_n 1, 1) := by decide +kernel
theorem dX10_sample_5 : decode cX10_sample 5 = .ok (.invokevirtual 126, 3) := by decide +kernel
theorem dX10_sample_8 : decode cX10_sample 8 = .ok (.ifCond .eq 39, 3) := by decide +kernel
theorem dX10_sample_11 : decode cX10_sample 11 = .ok (.aload_n 0, 1) := by decide +kernel
theorem dX10_sample_12 : decode cX10_sample 12 = .ok (.getfield 19, 3) := by decide +kernel
theorem dX10_sample_15 : decode cX10_sample 15 = .ok (.iload_n 1, 1) := by decide +kernel
theorem dX10_sample_16 : decode cX10_sample 16 = .ok (.iload_n 2, 1) := by decide +kernel
theorem dX10_sample_17 : decode cX10_sample 17 = .ok (.invokevirtual 130, 3) := by decide +kernel
theorem dX10_sample_20 : decode cX10_sample 20 = .ok (.ifCond .eq 27, 3) := by decide +kernel
theorem dX10_sample_23 : decode cX10_sample 23 = .ok (.iload_n 3, 1) := by decide +kernel
theorem dX10_sample_24 : decode cX10_sample 24 = .ok (.bipush (-8), 2) := by decide +kernel
theorem dX10_sample_26 : decode cX10_sample 26 = .ok (.if_icmp .lt 21, 3) := by decide +kernel
theorem dX10_sample_29 : decode cX10_sample 29 = .ok (.iload_n 3, 1) := by decide +kernel
theorem dX10_sample_30 : decode cX10_sample 30 = .ok (.bipush 7, 2) := by decide +kernel
theorem dX10_sample_32 : decode cX10_sample 32 = .ok (.if_icmp .gt 15, 3) := by decide +kernel
theorem dX10_sample_35 : decode cX10_sample 35 = .ok (.iload 4, 2) := by decide +kernel
theorem dX10_sample_37 : decode cX10_sample 37 = .ok (.ifCond .lt 10, 3) := by decide +kernel
theorem dX10_sample_40 : decode cX10_sample 40 = .ok (.iload 4, 2) := by decide +kernel
theorem dX10_sample_42 : decode cX10_sample 42 = .ok (.bipush 64, 2) := by decide +kernel
theorem dX10_sample_44 : decode cX10_sample 44 = .ok (.if_icmp .le 5, 3) := by decide +kernel
theorem dX10_sample_47 : decode cX10_sample 47 = .ok (.iconst 0, 1) := by decide +kernel
theorem dX10_sample_48 : decode cX10_sample 48 = .ok (.ireturn, 1) := by decide +kernel
theorem dX10_sample_49 : decode cX10_sample 49 = .ok (.aload_n 0, 1) := by decide +kernel
theorem dX10_sample_50 : decode cX10_sample 50 = .ok (.getfield 19, 3) := by decide +kernel
theorem dX10_sample_53 : decode cX10_sample 53 = .ok (.iload_n 1, 1) := by decide +kernel
theorem dX10_sample_54 : decode cX10_sample 54 = .ok (.iload_n 2, 1) := by decide +kernel
theorem dX10_sample_55 : decode cX10_sample 55 = .ok (.iload_n 3, 1) := by decide +kernel
theorem dX10_sample_56 : decode cX10_sample 56 = .ok (.iload 4, 2) := by decide +kernel
theorem dX10_sample_58 : decode cX10_sample 58 = .ok (.invokevirtual 133, 3) := by decide +kernel
theorem dX10_sample_61 : decode cX10_sample 61 = .ok (.iconst 1, 1) := by decide +kernel
theorem dX10_sample_62 : decode cX10_sample 62 = .ok (.ireturn, 1) := by decide +kernel
theorem dX10_loop_0 : decode cX10_loop 0 = .ok (.aload_n 0, 1) := by decide +kernel
theorem dX10_loop_1 : decode cX10_loop 1 = .ok (.getfield 19, 3) := by decide +kernel
theorem dX10_loop_4 : decode cX10_loop 4 = .ok (.iload_n 1, 1) := by decide +kernel
theorem dX10_loop_5 : decode cX10_loop 5 = .ok (.invokevirtual 126, 3) := by decide +kernel
theorem dX10_loop_8 : decode cX10_loop 8 = .ok (.ifCond .ne 5, 3) := by decide +kernel
theorem dX10_loop_11 : decode cX10_loop 11 = .ok (.iconst 0, 1) := by decide +kernel
theorem dX10_loop_12 : decode cX10_loop 12 = .ok (.ireturn, 1) := by decide +kernel
theorem dX10_loop_13 : decode cX10_loop 13 = .ok (.aload_n 0, 1) := by decide +kernel
theorem dX10_loop_14 : decode cX10_loop 14 = .ok (.getfield 19, 3) := by decide +kernel
theorem dX10_loop_17 : decode cX10_loop 17 = .ok (.iload_n 1, 1) := by decide +kernel
theorem dX10_loop_18 : decode cX10_loop 18 = .ok (.invokevirtual 137, 3) := by decide +kernel
theorem dX10_loop_21 : decode cX10_loop 21 = .ok (.astore 4, 2) := by decide +kernel
theorem dX10_loop_23 : decode cX10_loop 23 = .ok (.aload 4, 2) := by decide +kernel
theorem dX10_loop_25 : decode cX10_loop 25 = .ok (.getfield 141, 3) := by decide +kernel
theorem dX10_loop_28 : decode cX10_loop 28 = .ok (.iload_n 2, 1) := by decide +kernel
theorem dX10_loop_29 : decode cX10_loop 29 = .ok (.iload_n 3, 1) := by decide +kernel
theorem dX10_loop_30 : decode cX10_loop 30 = .ok (.invokestatic 144, 3) := by decide +kernel
theorem dX10_loop_33 : decode cX10_loop 33 = .ok (.ifCond .ne 5, 3) := by decide +kernel
theorem dX10_loop_36 : decode cX10_loop 36 = .ok (.iconst 0, 1) := by decide +kernel
theorem dX10_loop_37 : decode cX10_loop 37 = .ok (.ireturn, 1) := by decide +kernel
theorem dX10_loop_38 : decode cX10_loop 38 = .ok (.aload 4, 2) := by decide +kernel
theorem dX10_loop_40 : decode cX10_loop 40 = .ok (.iload_n 2, 1) := by decide +kernel
theorem dX10_loop_41 : decode cX10_loop 41 = .ok (.putfield 148, 3) := by decide +kernel
theorem dX10_loop_44 : decode cX10_loop 44 = .ok (.aload 4, 2) := by decide +kernel
theorem dX10_loop_46 : decode cX10_loop 46 = .ok (.iload_n 3, 1) := by decide +kernel
theorem dX10_loop_47 : decode cX10_loop 47 = .ok (.putfield 151, 3) := by decide +kernel
theorem dX10_loop_50 : decode cX10_loop 50 = .ok (.iconst 1, 1) := by decide +kernel
theorem dX10_loop_51 : decode cX10_loop 51 = .ok (.ireturn, 1) := by decide +kernel
theorem dX10_wave_0 : decode cX10_wave 0 = .ok (.aload_n 0, 1) := by decide +kernel
theorem dX10_wave_1 : decode cX10_wave 1 = .ok (.getfield 19, 3) := by decide +kernel
theorem dX10_wave_4 : decode cX10_wave 4 = .ok (.iload_n 1, 1) := by decide +kernel
theorem dX10_wave_5 : decode cX10_wave 5 = .ok (.invokevirtual 126, 3) := by decide +kernel
theorem dX10_wave_8 : decode cX10_wave 8 = .ok (.ifCond .eq 33, 3) := by decide +kernel
theorem dX10_wave_11 : decode cX10_wave 11 = .ok (.iload_n 2, 1) := by decide +kernel
theorem dX10_wave_12 : decode cX10_wave 12 = .ok (.aload_n 0, 1) := by decide +kernel
theorem dX10_wave_13 : decode cX10_wave 13 = .ok (.getfield 19, 3) := by decide +kernel
theorem dX10_wave_16 : decode cX10_wave 16 = .ok (.iload_n 1, 1) := by decide +kernel
theorem dX10_wave_17 : decode cX10_wave 17 = .ok (.invokevirtual 137, 3) := by decide +kernel
theorem dX10_wave_20 : decode cX10_wave 20 = .ok (.getfield 141, 3) := by decide +kernel
theorem dX10_wave_23 : decode cX10_wave 23 = .ok (.invokestatic 78, 3) := by decide +kernel
theorem dX10_wave_26 : decode cX10_wave 26 = .ok (.ifCond .eq 15, 3) := by decide +kernel
theorem dX10_wave_29 : decode cX10_wave 29 = .ok (.iload_n 3, 1) := by decide +kernel
theorem dX10_wave_30 : decode cX10_wave 30 = .ok (.bipush (-128), 2) := by decide +kernel
theorem dX10_wave_32 : decode cX10_wave 32 = .ok (.if_icmp .lt 9, 3) := by decide +kernel
theorem dX10_wave_35 : decode cX10_wave 35 = .ok (.iload_n 3, 1) := by decide +kernel
theorem dX10_wave_36 : decode cX10_wave 36 = .ok (.bipush 127, 2) := by decide +kernel
theorem dX10_wave_38 : decode cX10_wave 38 = .ok (.if_icmp .le 5, 3) := by decide +kernel
theorem dX10_wave_41 : decode cX10_wave 41 = .ok (.iconst 0, 1) := by decide +kernel
theorem dX10_wave_42 : decode cX10_wave 42 = .ok (.ireturn, 1) := by decide +kernel
theorem dX10_wave_43 : decode cX10_wave 43 = .ok (.aload_n 0, 1) := by decide +kernel
theorem dX10_wave_44 : decode cX10_wave 44 = .ok (.getfield 19, 3) := by decide +kernel
theorem dX10_wave_47 : decode cX10_wave 47 = .ok (.aload_n 0, 1) := by decide +kernel
theorem dX10_wave_48 : decode cX10_wave 48 = .ok (.getfield 19, 3) := by decide +kernel
theorem dX10_wave_51 : decode cX10_wave 51 = .ok (.iload_n 1, 1) := by decide +kernel
theorem dX10_wave_52 : decode cX10_wave 52 = .ok (.invokevirtual 137, 3) := by decide +kernel
theorem dX10_wave_55 : decode cX10_wave 55 = .ok (.iload_n 2, 1) := by decide +kernel
theorem dX10_wave_56 : decode cX10_wave 56 = .ok (.iload_n 3, 1) := by decide +kernel
theorem dX10_wave_57 : decode cX10_wave 57 = .ok (.invokevirtual 154, 3) := by decide +kernel
theorem dX10_wave_60 : decode cX10_wave 60 = .ok (.iconst 1, 1) := by decide +kernel
theorem dX10_wave_61 : decode cX10_wave 61 = .ok (.ireturn, 1) := by decide +kernel
theorem dX10_cell_0 : decode cX10_cell 0 = .ok (.iload_n 1, 1) := by decide +kernel
theorem dX10_cell_1 : decode cX10_cell 1 = .ok (.iload_n 2, 1) := by decide +kernel
theorem dX10_cell_2 : decode cX10_cell 2 = .ok (.iload_n 3, 1) := by decide +kernel
theorem dX10_cell_3 : decode cX10_cell 3 = .ok (.invokestatic 158, 3) := by decide +kernel
theorem dX10_cell_6 : decode cX10_cell 6 = .ok (.ifCond .eq 15, 3) := by decide +kernel
theorem dX10_cell_9 : decode cX10_cell 9 = .ok (.iload 4, 2) := by decide +kernel
theorem dX10_cell_11 : decode cX10_cell 11 = .ok (.ifCond .lt 10, 3) := by decide +kernel
theorem dX10_cell_14 : decode cX10_cell 14 = .ok (.iload 4, 2) := by decide +kernel
theorem dX10_cell_16 : decode cX10_cell 16 = .ok (.ldc 161, 2) := by decide +kernel
theorem dX10_cell_18 : decode cX10_cell 18 = .ok (.if_icmp .le 5, 3) := by decide +kernel
theorem dX10_cell_21 : decode cX10_cell 21 = .ok (.iconst 0, 1) := by decide +kernel
theorem dX10_cell_22 : decode cX10_cell 22 = .ok (.ireturn, 1) := by decide +kernel
theorem dX10_cell_23 : decode cX10_cell 23 = .ok (.aload_n 0, 1) := by decide +kernel
theorem dX10_cell_24 : decode cX10_cell 24 = .ok (.getfield 26, 3) := by decide +kernel
theorem dX10_cell_27 : decode cX10_cell 27 = .ok (.iload_n 1, 1) := by decide +kernel
theorem dX10_cell_28 : decode cX10_cell 28 = .ok (.iload_n 2, 1) := by decide +kernel
theorem dX10_cell_29 : decode cX10_cell 29 = .ok (.iload_n 3, 1) := by decide +kernel
theorem dX10_cell_30 : decode cX10_cell 30 = .ok (.iload 4, 2) := by decide +kernel
theorem dX10_cell_32 : decode cX10_cell 32 = .ok (.invokevirtual 162, 3) := by decide +kernel
theorem dX10_cell_35 : decode cX10_cell 35 = .ok (.iconst 1, 1) := by decide +kernel
theorem dX10_cell_36 : decode cX10_cell 36 = .ok (.ireturn, 1) := by decide +kernel
theorem dX10_cellOf_0 : decode cX10_cellOf 0 = .ok (.iload_n 1, 1) := by decide +kernel
theorem dX10_cellOf_1 : decode cX10_cellOf 1 = .ok (.iload_n 2, 1) := by decide +kernel
theorem dX10_cellOf_2 : decode cX10_cellOf 2 = .ok (.iload_n 3, 1) := by decide +kernel
theorem dX10_cellOf_3 : decode cX10_cellOf 3 = .ok (.invokestatic 158, 3) := by decide +kernel
theorem dX10_cellOf_6 : decode cX10_cellOf 6 = .ok (.ifCond .eq 16, 3) := by decide +kernel
theorem dX10_cellOf_9 : decode cX10_cellOf 9 = .ok (.aload_n 0, 1) := by decide +kernel
theorem dX10_cellOf_10 : decode cX10_cellOf 10 = .ok (.getfield 26, 3) := by decide +kernel
theorem dX10_cellOf_13 : decode cX10_cellOf 13 = .ok (.iload_n 1, 1) := by decide +kernel
theorem dX10_cellOf_14 : decode cX10_cellOf 14 = .ok (.iload_n 2, 1) := by decide +kernel
theorem dX10_cellOf_15 : decode cX10_cellOf 15 = .ok (.iload_n 3, 1) := by decide +kernel
theorem dX10_cellOf_16 : decode cX10_cellOf 16 = .ok (.invokevirtual 165, 3) := by decide +kernel
theorem dX10_cellOf_19 : decode cX10_cellOf 19 = .ok (.goto 4, 3) := by decide +kernel
theorem dX10_cellOf_22 : decode cX10_cellOf 22 = .ok (.iconst (-1), 1) := by decide +kernel
theorem dX10_cellOf_23 : decode cX10_cellOf 23 = .ok (.ireturn, 1) := by decide +kernel
theorem dX10_place_0 : decode cX10_place 0 = .ok (.iload_n 1, 1) := by decide +kernel
theorem dX10_place_1 : decode cX10_place 1 = .ok (.sipush 128, 3) := by decide +kernel
theorem dX10_place_4 : decode cX10_place 4 = .ok (.invokestatic 78, 3) := by decide +kernel
theorem dX10_place_7 : decode cX10_place 7 = .ok (.ifCond .eq 12, 3) := by decide +kernel
theorem dX10_place_10 : decode cX10_place 10 = .ok (.iload_n 2, 1) := by decide +kernel
theorem dX10_place_11 : decode cX10_place 11 = .ok (.bipush 8, 2) := by decide +kernel
theorem dX10_place_13 : decode cX10_place 13 = .ok (.invokestatic 78, 3) := by decide +kernel
theorem dX10_place_16 : decode cX10_place 16 = .ok (.ifCond .ne 5, 3) := by decide +kernel
theorem dX10_place_19 : decode cX10_place 19 = .ok (.iconst 0, 1) := by decide +kernel
theorem dX10_place_20 : decode cX10_place 20 = .ok (.ireturn, 1) := by decide +kernel
theorem dX10_place_21 : decode cX10_place 21 = .ok (.aload_n 0, 1) := by decide +kernel
theorem dX10_place_22 : decode cX10_place 22 = .ok (.getfield 26, 3) := by decide +kernel
theorem dX10_place_25 : decode cX10_place 25 = .ok (.getfield 168, 3) := by decide +kernel
theorem dX10_place_28 : decode cX10_place 28 = .ok (.iload_n 1, 1) := by decide +kernel
theorem dX10_place_29 : decode cX10_place 29 = .ok (.iload_n 2, 1) := by decide +kernel
theorem dX10_place_30 : decode cX10_place 30 = .ok (.iastore, 1) := by decide +kernel
theorem dX10_place_31 : decode cX10_place 31 = .ok (.iconst 1, 1) := by decide +kernel
theorem dX10_place_32 : decode cX10_place 32 = .ok (.ireturn, 1) := by decide +kernel
theorem dX10_song_0 : decode cX10_song 0 = .ok (.iload_n 1, 1) := by decide +kernel
theorem dX10_song_1 : decode cX10_song 1 = .ok (.iconst 1, 1) := by decide +kernel
theorem dX10_song_2 : decode cX10_song 2 = .ok (.if_icmp .lt 21, 3) := by decide +kernel
theorem dX10_song_5 : decode cX10_song 5 = .ok (.iload_n 1, 1) := by decide +kernel
theorem dX10_song_6 : decode cX10_song 6 = .ok (.sipush 128, 3) := by decide +kernel
theorem dX10_song_9 : decode cX10_song 9 = .ok (.if_icmp .gt 14, 3) := by decide +kernel
theorem dX10_song_12 : decode cX10_song 12 = .ok (.iload_n 2, 1) := by decide +kernel
theorem dX10_song_13 : decode cX10_song 13 = .ok (.ifCond .lt 10, 3) := by decide +kernel
theorem dX10_song_16 : decode cX10_song 16 = .ok (.iload_n 2, 1) := by decide +kernel
theorem dX10_song_17 : decode cX10_song 17 = .ok (.sipush 255, 3) := by decide +kernel
theorem dX10_song_20 : decode cX10_song 20 = .ok (.if_icmp .le 5, 3) := by decide +kernel
theorem dX10_song_23 : decode cX10_song 23 = .ok (.iconst 0, 1) := by decide +kernel
theorem dX10_song_24 : decode cX10_song 24 = .ok (.ireturn, 1) := by decide +kernel
theorem dX10_song_25 : decode cX10_song 25 = .ok (.aload_n 0, 1) := by decide +kernel
theorem dX10_song_26 : decode cX10_song 26 = .ok (.getfield 26, 3) := by decide +kernel
theorem dX10_song_29 : decode cX10_song 29 = .ok (.iload_n 1, 1) := by decide +kernel
theorem dX10_song_30 : decode cX10_song 30 = .ok (.putfield 172, 3) := by decide +kernel
theorem dX10_song_33 : decode cX10_song 33 = .ok (.aload_n 0, 1) := by decide +kernel
theorem dX10_song_34 : decode cX10_song 34 = .ok (.getfield 26, 3) := by decide +kernel
theorem dX10_song_37 : decode cX10_song 37 = .ok (.iload_n 2, 1) := by decide +kernel
theorem dX10_song_38 : decode cX10_song 38 = .ok (.putfield 173, 3) := by decide +kernel
theorem dX10_song_41 : decode cX10_song 41 = .ok (.iconst 1, 1) := by decide +kernel
theorem dX10_song_42 : decode cX10_song 42 = .ok (.ireturn, 1) := by decide +kernel
theorem dX10_start_0 : decode cX10_start 0 = .ok (.aload_n 0, 1) := by decide +kernel
theorem dX10_start_1 : decode cX10_start 1 = .ok (.invokevirtual 68, 3) := by decide +kernel
theorem dX10_start_4 : decode cX10_start 4 = .ok (.return_, 1) := by decide +kernel
theorem dX10_mute_0 : decode cX10_mute 0 = .ok (.iload_n 1, 1) := by decide +kernel
theorem dX10_mute_1 : decode cX10_mute 1 = .ok (.iconst 4, 1) := by decide +kernel
theorem dX10_mute_2 : decode cX10_mute 2 = .ok (.invokestatic 78, 3) := by decide +kernel
theorem dX10_mute_5 : decode cX10_mute 5 = .ok (.ifCond .ne 5, 3) := by decide +kernel
theorem dX10_mute_8 : decode cX10_mute 8 = .ok (.iconst 0, 1) := by decide +kernel
theorem dX10_mute_9 : decode cX10_mute 9 = .ok (.ireturn, 1) := by decide +kernel
theorem dX10_mute_10 : decode cX10_mute 10 = .ok (.aload_n 0, 1) := by decide +kernel
theorem dX10_mute_11 : decode cX10_mute 11 = .ok (.getfield 48, 3) := by decide +kernel
theorem dX10_mute_14 : decode cX10_mute 14 = .ok (.iload_n 1, 1) := by decide +kernel
theorem dX10_mute_15 : decode cX10_mute 15 = .ok (.aaload, 1) := by decide +kernel
theorem dX10_mute_16 : decode cX10_mute 16 = .ok (.getfield 176, 3) := by decide +kernel
theorem dX10_mute_19 : decode cX10_mute 19 = .ok (.istore_n 3, 1) := by decide +kernel
theorem dX10_mute_20 : decode cX10_mute 20 = .ok (.aload_n 0, 1) := by decide +kernel
theorem dX10_mute_21 : decode cX10_mute 21 = .ok (.getfield 48, 3) := by decide +kernel
theorem dX10_mute_24 : decode cX10_mute 24 = .ok (.iload_n 1, 1) := by decide +kernel
theorem dX10_mute_25 : decode cX10_mute 25 = .ok (.aaload, 1) := by decide +kernel
theorem dX10_mute_26 : decode cX10_mute 26 = .ok (.iload_n 2, 1) := by decide +kernel
theorem dX10_mute_27 : decode cX10_mute 27 = .ok (.putfield 176, 3) := by decide +kernel
theorem dX10_mute_30 : decode cX10_mute 30 = .ok (.iload_n 3, 1) := by decide +kernel
theorem dX10_mute_31 : decode cX10_mute 31 = .ok (.ireturn, 1) := by decide +kernel
theorem dX10_play_0 : decode cX10_play 0 = .ok (.iload_n 1, 1) := by decide +kernel
theorem dX10_play_1 : decode cX10_play 1 = .ok (.ifCond .lt 10, 3) := by decide +kernel
theorem dX10_play_4 : decode cX10_play 4 = .ok (.iload_n 1, 1) := by decide +kernel
theorem dX10_play_5 : decode cX10_play 5 = .ok (.sipush 400, 3) := by decide +kernel
theorem dX10_play_8 : decode cX10_play 8 = .ok (.if_icmp .le 5, 3) := by decide +kernel
theorem dX10_play_11 : decode cX10_play 11 = .ok (.iconst (-1), 1) := by decide +kernel
theorem dX10_play_12 : decode cX10_play 12 = .ok (.ireturn, 1) := by decide +kernel
theorem dX10_play_13 : decode cX10_play 13 = .ok (.iconst 0, 1) := by decide +kernel
theorem dX10_play_14 : decode cX10_play 14 = .ok (.istore_n 2, 1) := by decide +kernel
theorem dX10_play_15 : decode cX10_play 15 = .ok (.iload_n 2, 1) := by decide +kernel
theorem dX10_play_16 : decode cX10_play 16 = .ok (.iload_n 1, 1) := by decide +kernel
theorem dX10_play_17 : decode cX10_play 17 = .ok (.if_icmp .ge 13, 3) := by decide +kernel
theorem dX10_play_20 : decode cX10_play 20 = .ok (.aload_n 0, 1) := by decide +kernel
theorem dX10_play_21 : decode cX10_play 21 = .ok (.invokevirtual 180, 3) := by decide +kernel
theorem dX10_play_24 : decode cX10_play 24 = .ok (.iinc 2 1, 3) := by decide +kernel
theorem dX10_play_27 : decode cX10_play 27 = .ok (.goto (-12), 3) := by decide +kernel
theorem dX10_play_30 : decode cX10_play 30 = .ok (.aload_n 0, 1) := by decide +kernel
theorem dX10_play_31 : decode cX10_play 31 = .ok (.getfield 42, 3) := by decide +kernel
theorem dX10_play_34 : decode cX10_play 34 = .ok (.getfield 183, 3) := by decide +kernel
theorem dX10_play_37 : decode cX10_play 37 = .ok (.ireturn, 1) := by decide +kernel
theorem dX10_now_0 : decode cX10_now 0 = .ok (.aload_n 0, 1) := by decide +kernel
theorem dX10_now_1 : decode cX10_now 1 = .ok (.getfield 42, 3) := by decide +kernel
theorem dX10_now_4 : decode cX10_now 4 = .ok (.getfield 183, 3) := by decide +kernel
theorem dX10_now_7 : decode cX10_now 7 = .ok (.ifCond .ne 14, 3) := by decide +kernel
theorem dX10_now_10 : decode cX10_now 10 = .ok (.iload_n 1, 1) := by decide +kernel
theorem dX10_now_11 : decode cX10_now 11 = .ok (.ifCond .lt 10, 3) := by decide +kernel
theorem dX10_now_14 : decode cX10_now 14 = .ok (.iload_n 1, 1) := by decide +kernel
theorem dX10_now_15 : decode cX10_now 15 = .ok (.iconst 3, 1) := by decide +kernel
theorem dX10_now_16 : decode cX10_now 16 = .ok (.if_icmp .gt 5, 3) := by decide +kernel
theorem dX10_now_19 : decode cX10_now 19 = .ok (.iconst (-1), 1) := by decide +kernel
theorem dX10_now_20 : decode cX10_now 20 = .ok (.ireturn, 1) := by decide +kernel
theorem dX10_now_21 : decode cX10_now 21 = .ok (.iload_n 1, 1) := by decide +kernel
theorem dX10_now_22 : decode cX10_now 22 = .ok (.tableswitch 122 0 8 #[50, 58, 66, 74, 82, 90, 98, 106, 114], 50) := by decide +kernel
theorem dX10_now_72 : decode cX10_now 72 = .ok (.aload_n 0, 1) := by decide +kernel
theorem dX10_now_73 : decode cX10_now 73 = .ok (.getfield 42, 3) := by decide +kernel
theorem dX10_now_76 : decode cX10_now 76 = .ok (.getfield 186, 3) := by decide +kernel
theorem dX10_now_79 : decode cX10_now 79 = .ok (.ireturn, 1) := by decide +kernel
theorem dX10_now_80 : decode cX10_now 80 = .ok (.aload_n 0, 1) := by decide +kernel
theorem dX10_now_81 : decode cX10_now 81 = .ok (.getfield 42, 3) := by decide +kernel
theorem dX10_now_84 : decode cX10_now 84 = .ok (.getfield 189, 3) := by decide +kernel
theorem dX10_now_87 : decode cX10_now 87 = .ok (.ireturn, 1) := by decide +kernel
theorem dX10_now_88 : decode cX10_now 88 = .ok (.aload_n 0, 1) := by decide +kernel
theorem dX10_now_89 : decode cX10_now 89 = .ok (.getfield 42, 3) := by decide +kernel
theorem dX10_now_92 : decode cX10_now 92 = .ok (.getfield 192, 3) := by decide +kernel
theorem dX10_now_95 : decode cX10_now 95 = .ok (.ireturn, 1) := by decide +kernel
theorem dX10_now_96 : decode cX10_now 96 = .ok (.aload_n 0, 1) := by decide +kernel
theorem dX10_now_97 : decode cX10_now 97 = .ok (.getfield 64, 3) := by decide +kernel
theorem dX10_now_100 : decode cX10_now 100 = .ok (.getfield 195, 3) := by decide +kernel
theorem dX10_now_103 : decode cX10_now 103 = .ok (.ireturn, 1) := by decide +kernel
theorem dX10_now_104 : decode cX10_now 104 = .ok (.aload_n 0, 1) := by decide +kernel
theorem dX10_now_105 : decode cX10_now 105 = .ok (.getfield 42, 3) := by decide +kernel
theorem dX10_now_108 : decode cX10_now 108 = .ok (.getfield 198, 3) := by decide +kernel
theorem dX10_now_111 : decode cX10_now 111 = .ok (.ireturn, 1) := by decide +kernel
theorem dX10_now_112 : decode cX10_now 112 = .ok (.aload_n 0, 1) := by decide +kernel
theorem dX10_now_113 : decode cX10_now 113 = .ok (.getfield 42, 3) := by decide +kernel
theorem dX10_now_116 : decode cX10_now 116 = .ok (.getfield 201, 3) := by decide +kernel
theorem dX10_now_119 : decode cX10_now 119 = .ok (.ireturn, 1) := by decide +kernel
theorem dX10_now_120 : decode cX10_now 120 = .ok (.aload_n 0, 1) := by decide +kernel
theorem dX10_now_121 : decode cX10_now 121 = .ok (.getfield 42, 3) := by decide +kernel
theorem dX10_now_124 : decode cX10_now 124 = .ok (.getfield 204, 3) := by decide +kernel
theorem dX10_now_127 : decode cX10_now 127 = .ok (.ireturn, 1) := by decide +kernel
theorem dX10_now_128 : decode cX10_now 128 = .ok (.aload_n 0, 1) := by decide +kernel
theorem dX10_now_129 : decode cX10_now 129 = .ok (.getfield 64, 3) := by decide +kernel
theorem dX10_now_132 : decode cX10_now 132 = .ok (.getfield 207, 3) := by decide +kernel
theorem dX10_now_135 : decode cX10_now 135 = .ok (.ireturn, 1) := by decide +kernel
theorem dX10_now_136 : decode cX10_now 136 = .ok (.aload_n 0, 1) := by decide +kernel
theorem dX10_now_137 : decode cX10_now 137 = .ok (.getfield 42, 3) := by decide +kernel
theorem dX10_now_140 : decode cX10_now 140 = .ok (.getfield 183, 3) := by decide +kernel
theorem dX10_now_143 : decode cX10_now 143 = .ok (.ireturn, 1) := by decide +kernel
theorem dX10_now_144 : decode cX10_now 144 = .ok (.iconst (-1), 1) := by decide +kernel
theorem dX10_now_145 : decode cX10_now 145 = .ok (.ireturn, 1) := by decide +kernel
theorem dX10_channel_0 : decode cX10_channel 0 = .ok (.iload_n 1, 1) := by decide +kernel
theorem dX10_channel_1 : decode cX10_channel 1 = .ok (.iconst 4, 1) := by decide +kernel
theorem dX10_channel_2 : decode cX10_channel 2 = .ok (.invokestatic 78, 3) := by decide +kernel
theorem dX10_channel_5 : decode cX10_channel 5 = .ok (.ifCond .ne 5, 3) := by decide +kernel
theorem dX10_channel_8 : decode cX10_channel 8 = .ok (.iconst (-1), 1) := by decide +kernel
theorem dX10_channel_9 : decode cX10_channel 9 = .ok (.ireturn, 1) := by decide +kernel
theorem dX10_channel_10 : decode cX10_channel 10 = .ok (.aload_n 0, 1) := by decide +kernel
theorem dX10_channel_11 : decode cX10_channel 11 = .ok (.getfield 48, 3) := by decide +kernel
theorem dX10_channel_14 : decode cX10_channel 14 = .ok (.iload_n 1, 1) := by decide +kernel
theorem dX10_channel_15 : decode cX10_channel 15 = .ok (.aaload, 1) := by decide +kernel
theorem dX10_channel_16 : decode cX10_channel 16 = .ok (.astore_n 3, 1) := by decide +kernel
theorem dX10_channel_17 : decode cX10_channel 17 = .ok (.iload_n 2, 1) := by decide +kernel
theorem dX10_channel_18 : decode cX10_channel 18 = .ok (.tableswitch 163 0 13 #[70, 75, 80, 85, 94, 107, 112, 117, 122, 127, 137, 145, 153, 158], 70) := by decide +kernel
theorem dX10_channel_88 : decode cX10_channel 88 = .ok (.aload_n 3, 1) := by decide +kernel
theorem dX10_channel_89 : decode cX10_channel 89 = .ok (.getfield 210, 3) := by decide +kernel
theorem dX10_channel_92 : decode cX10_channel 92 = .ok (.ireturn, 1) := by decide +kernel
theorem dX10_channel_93 : decode cX10_channel 93 = .ok (.aload_n 3, 1) := by decide +kernel
theorem dX10_channel_94 : decode cX10_channel 94 = .ok (.getfield 213, 3) := by decide +kernel
theorem dX10_channel_97 : decode cX10_channel 97 = .ok (.ireturn, 1) := by decide +kernel
theorem dX10_channel_98 : decode cX10_channel 98 = .ok (.aload_n 3, 1) := by decide +kernel
theorem dX10_channel_99 : decode cX10_channel 99 = .ok (.getfield 216, 3) := by decide +kernel
theorem dX10_channel_102 : decode cX10_channel 102 = .ok (.ireturn, 1) := by decide +kernel
theorem dX10_channel_103 : decode cX10_channel 103 = .ok (.aload_n 3, 1) := by decide +kernel
theorem dX10_channel_104 : decode cX10_channel 104 = .ok (.getfield 219, 3) := by decide +kernel
theorem dX10_channel_107 : decode cX10_channel 107 = .ok (.bipush 16, 2) := by decide +kernel
theorem dX10_channel_109 : decode cX10_channel 109 = .ok (.lshr, 1) := by decide +kernel
theorem dX10_channel_110 : decode cX10_channel 110 = .ok (.l2i, 1) := by decide +kernel
theorem dX10_channel_111 : decode cX10_channel 111 = .ok (.ireturn, 1) := by decide +kernel
theorem dX10_channel_112 : decode cX10_channel 112 = .ok (.aload_n 3, 1) := by decide +kernel
theorem dX10_channel_113 : decode cX10_channel 113 = .ok (.getfield 222, 3) := by decide +kernel
theorem dX10_channel_116 : decode cX10_channel 116 = .ok (.ifCond .eq 7, 3) := by decide +kernel
theorem dX10_channel_119 : decode cX10_channel 119 = .ok (.iconst 1, 1) := by decide +kernel
theorem dX10_channel_120 : decode cX10_channel 120 = .ok (.goto 4, 3) := by decide +kernel
theorem dX10_channel_123 : decode cX10_channel 123 = .ok (.iconst 0, 1) := by decide +kernel
theorem dX10_channel_124 : decode cX10_channel 124 = .ok (.ireturn, 1) := by decide +kernel
theorem dX10_channel_125 : decode cX10_channel 125 = .ok (.aload_n 3, 1) := by decide +kernel
theorem dX10_channel_126 : decode cX10_channel 126 = .ok (.getfield 225, 3) := by decide +kernel
theorem dX10_channel_129 : decode cX10_channel 129 = .ok (.ireturn, 1) := by decide +kernel
theorem dX10_channel_130 : decode cX10_channel 130 = .ok (.aload_n 3, 1) := by decide +kernel
theorem dX10_channel_131 : decode cX10_channel 131 = .ok (.getfield 228, 3) := by decide +kernel
theorem dX10_channel_134 : decode cX10_channel 134 = .ok (.ireturn, 1) := by decide +kernel
theorem dX10_channel_135 : decode cX10_channel 135 = .ok (.aload_n 3, 1) := by decide +kernel
theorem dX10_channel_136 : decode cX10_channel 136 = .ok (.getfield 231, 3) := by decide +kernel
theorem dX10_channel_139 : decode cX10_channel 139 = .ok (.ireturn, 1) := by decide +kernel
theorem dX10_channel_140 : decode cX10_channel 140 = .ok (.aload_n 3, 1) := by decide +kernel
theorem dX10_channel_141 : decode cX10_channel 141 = .ok (.getfield 234, 3) := by decide +kernel
theorem dX10_channel_144 : decode cX10_channel 144 = .ok (.ireturn, 1) := by decide +kernel
theorem dX10_channel_145 : decode cX10_channel 145 = .ok (.aload_n 3, 1) := by decide +kernel
theorem dX10_channel_146 : decode cX10_channel 146 = .ok (.getfield 219, 3) := by decide +kernel
theorem dX10_channel_149 : decode cX10_channel 149 = .ok (.ldc2_w 237, 3) := by decide +kernel
theorem dX10_channel_152 : decode cX10_channel 152 = .ok (.land, 1) := by decide +kernel
theorem dX10_channel_153 : decode cX10_channel 153 = .ok (.l2i, 1) := by decide +kernel
theorem dX10_channel_154 : decode cX10_channel 154 = .ok (.ireturn, 1) := by decide +kernel
theorem dX10_channel_155 : decode cX10_channel 155 = .ok (.aload_n 3, 1) := by decide +kernel
theorem dX10_channel_156 : decode cX10_channel 156 = .ok (.getfield 239, 3) := by decide +kernel
theorem dX10_channel_159 : decode cX10_channel 159 = .ok (.getfield 243, 3) := by decide +kernel
theorem dX10_channel_162 : decode cX10_channel 162 = .ok (.ireturn, 1) := by decide +kernel
theorem dX10_channel_163 : decode cX10_channel 163 = .ok (.aload_n 3, 1) := by decide +kernel
theorem dX10_channel_164 : decode cX10_channel 164 = .ok (.getfield 246, 3) := by decide +kernel
theorem dX10_channel_167 : decode cX10_channel 167 = .ok (.getfield 243, 3) := by decide +kernel
theorem dX10_channel_170 : decode cX10_channel 170 = .ok (.ireturn, 1) := by decide +kernel
theorem dX10_channel_171 : decode cX10_channel 171 = .ok (.aload_n 3, 1) := by decide +kernel
theorem dX10_channel_172 : decode cX10_channel 172 = .ok (.getfield 249, 3) := by decide +kernel
theorem dX10_channel_175 : decode cX10_channel 175 = .ok (.ireturn, 1) := by decide +kernel
theorem dX10_channel_176 : decode cX10_channel 176 = .ok (.aload_n 3, 1) := by decide +kernel
theorem dX10_channel_177 : decode cX10_channel 177 = .ok (.getfield 252, 3) := by decide +kernel
theorem dX10_channel_180 : decode cX10_channel 180 = .ok (.ireturn, 1) := by decide +kernel
theorem dX10_channel_181 : decode cX10_channel 181 = .ok (.iconst (-1), 1) := by decide +kernel
theorem dX10_channel_182 : decode cX10_channel 182 = .ok (.ireturn, 1) := by decide +kernel
theorem dX10_frame_0 : decode cX10_frame 0 = .ok (.iload_n 1, 1) := by decide +kernel
theorem dX10_frame_1 : decode cX10_frame 1 = .ok (.aload_n 0, 1) := by decide +kernel
theorem dX10_frame_2 : decode cX10_frame 2 = .ok (.getfield 64, 3) := by decide +kernel
theorem dX10_frame_5 : decode cX10_frame 5 = .ok (.getfield 195, 3) := by decide +kernel
theorem dX10_frame_8 : decode cX10_frame 8 = .ok (.invokestatic 78, 3) := by decide +kernel
theorem dX10_frame_11 : decode cX10_frame 11 = .ok (.ifCond .ne 5, 3) := by decide +kernel
theorem dX10_frame_14 : decode cX10_frame 14 = .ok (.iconst 0, 1) := by decide +kernel
theorem dX10_frame_15 : decode cX10_frame 15 = .ok (.ireturn, 1) := by decide +kernel
theorem dX10_frame_16 : decode cX10_frame 16 = .ok (.iload_n 2, 1) := by decide +kernel
theorem dX10_frame_17 : decode cX10_frame 17 = .ok (.lookupswitch 47 #[(0, 27), (1, 37)], 27) := by decide +kernel
theorem dX10_frame_44 : decode cX10_frame 44 = .ok (.aload_n 0, 1) := by decide +kernel
theorem dX10_frame_45 : decode cX10_frame 45 = .ok (.getfield 64, 3) := by decide +kernel
theorem dX10_frame_48 : decode cX10_frame 48 = .ok (.getfield 255, 3) := by decide +kernel
theorem dX10_frame_51 : decode cX10_frame 51 = .ok (.iload_n 1, 1) := by decide +kernel
theorem dX10_frame_52 : decode cX10_frame 52 = .ok (.iaload, 1) := by decide +kernel
theorem dX10_frame_53 : decode cX10_frame 53 = .ok (.ireturn, 1) := by decide +kernel
theorem dX10_frame_54 : decode cX10_frame 54 = .ok (.aload_n 0, 1) := by decide +kernel
theorem dX10_frame_55 : decode cX10_frame 55 = .ok (.getfield 64, 3) := by decide +kernel
theorem dX10_frame_58 : decode cX10_frame 58 = .ok (.getfield 258, 3) := by decide +kernel
theorem dX10_frame_61 : decode cX10_frame 61 = .ok (.iload_n 1, 1) := by decide +kernel
theorem dX10_frame_62 : decode cX10_frame 62 = .ok (.iaload, 1) := by decide +kernel
theorem dX10_frame_63 : decode cX10_frame 63 = .ok (.ireturn, 1) := by decide +kernel
theorem dX10_frame_64 : decode cX10_frame 64 = .ok (.iconst 0, 1) := by decide +kernel
theorem dX10_frame_65 : decode cX10_frame 65 = .ok (.ireturn, 1) := by decide +kernel
theorem dX10_goToBegin_0 : decode cX10_goToBegin 0 = .ok (.aload_n 0, 1) := by decide +kernel
theorem dX10_goToBegin_1 : decode cX10_goToBegin 1 = .ok (.getfield 42, 3) := by decide +kernel
theorem dX10_goToBegin_4 : decode cX10_goToBegin 4 = .ok (.invokevirtual 261, 3) := by decide +kernel
theorem dX10_goToBegin_7 : decode cX10_goToBegin 7 = .ok (.aload_n 0, 1) := by decide +kernel
theorem dX10_goToBegin_8 : decode cX10_goToBegin 8 = .ok (.getfield 64, 3) := by decide +kernel
theorem dX10_goToBegin_11 : decode cX10_goToBegin 11 = .ok (.invokevirtual 264, 3) := by decide +kernel
theorem dX10_goToBegin_14 : decode cX10_goToBegin 14 = .ok (.iconst 0, 1) := by decide +kernel
theorem dX10_goToBegin_15 : decode cX10_goToBegin 15 = .ok (.istore_n 1, 1) := by decide +kernel
theorem dX10_goToBegin_16 : decode cX10_goToBegin 16 = .ok (.iload_n 1, 1) := by decide +kernel
theorem dX10_goToBegin_17 : decode cX10_goToBegin 17 = .ok (.iconst 4, 1) := by decide +kernel
theorem dX10_goToBegin_18 : decode cX10_goToBegin 18 = .ok (.if_icmp .ge 18, 3) := by decide +kernel
theorem dX10_goToBegin_21 : decode cX10_goToBegin 21 = .ok (.aload_n 0, 1) := by decide +kernel
theorem dX10_goToBegin_22 : decode cX10_goToBegin 22 = .ok (.getfield 48, 3) := by decide +kernel
theorem dX10_goToBegin_25 : decode cX10_goToBegin 25 = .ok (.iload_n 1, 1) := by decide +kernel
theorem dX10_goToBegin_26 : decode cX10_goToBegin 26 = .ok (.aaload, 1) := by decide +kernel
theorem dX10_goToBegin_27 : decode cX10_goToBegin 27 = .ok (.invokevirtual 265, 3) := by decide +kernel
theorem dX10_goToBegin_30 : decode cX10_goToBegin 30 = .ok (.iinc 1 1, 3) := by decide +kernel
theorem dX10_goToBegin_33 : decode cX10_goToBegin 33 = .ok (.goto (-17), 3) := by decide +kernel
theorem dX10_goToBegin_36 : decode cX10_goToBegin 36 = .ok (.return_, 1) := by decide +kernel
theorem dX10_playTick_0 : decode cX10_playTick 0 = .ok (.aload_n 0, 1) := by decide +kernel
theorem dX10_playTick_1 : decode cX10_playTick 1 = .ok (.getfield 42, 3) := by decide +kernel
theorem dX10_playTick_4 : decode cX10_playTick 4 = .ok (.aload_n 0, 1) := by decide +kernel
theorem dX10_playTick_5 : decode cX10_playTick 5 = .ok (.getfield 48, 3) := by decide +kernel
theorem dX10_playTick_8 : decode cX10_playTick 8 = .ok (.invokevirtual 266, 3) := by decide +kernel
theorem dX10_playTick_11 : decode cX10_playTick 11 = .ok (.iconst 0, 1) := by decide +kernel
theorem dX10_playTick_12 : decode cX10_playTick 12 = .ok (.istore_n 1, 1) := by decide +kernel
theorem dX10_playTick_13 : decode cX10_playTick 13 = .ok (.iload_n 1, 1) := by decide +kernel
theorem dX10_playTick_14 : decode cX10_playTick 14 = .ok (.iconst 4, 1) := by decide +kernel
theorem dX10_playTick_15 : decode cX10_playTick 15 = .ok (.if_icmp .ge 22, 3) := by decide +kernel
theorem dX10_playTick_18 : decode cX10_playTick 18 = .ok (.aload_n 0, 1) := by decide +kernel
theorem dX10_playTick_19 : decode cX10_playTick 19 = .ok (.getfield 48, 3) := by decide +kernel
theorem dX10_playTick_22 : decode cX10_playTick 22 = .ok (.iload_n 1, 1) := by decide +kernel
theorem dX10_playTick_23 : decode cX10_playTick 23 = .ok (.aaload, 1) := by decide +kernel
theorem dX10_playTick_24 : decode cX10_playTick 24 = .ok (.aload_n 0, 1) := by decide +kernel
theorem dX10_playTick_25 : decode cX10_playTick 25 = .ok (.getfield 42, 3) := by decide +kernel
theorem dX10_playTick_28 : decode cX10_playTick 28 = .ok (.invokevirtual 270, 3) := by decide +kernel
theorem dX10_playTick_31 : decode cX10_playTick 31 = .ok (.iinc 1 1, 3) := by decide +kernel
theorem dX10_playTick_34 : decode cX10_playTick 34 = .ok (.goto (-21), 3) := by decide +kernel
theorem dX10_playTick_37 : decode cX10_playTick 37 = .ok (.aload_n 0, 1) := by decide +kernel
theorem dX10_playTick_38 : decode cX10_playTick 38 = .ok (.getfield 64, 3) := by decide +kernel
theorem dX10_playTick_41 : decode cX10_playTick 41 = .ok (.aload_n 0, 1) := by decide +kernel
theorem dX10_playTick_42 : decode cX10_playTick 42 = .ok (.getfield 48, 3) := by decide +kernel
theorem dX10_playTick_45 : decode cX10_playTick 45 = .ok (.aload_n 0, 1) := by decide +kernel
theorem dX10_playTick_46 : decode cX10_playTick 46 = .ok (.getfield 42, 3) := by decide +kernel
theorem dX10_playTick_49 : decode cX10_playTick 49 = .ok (.getfield 201, 3) := by decide +kernel
theorem dX10_playTick_52 : decode cX10_playTick 52 = .ok (.invokevirtual 274, 3) := by decide +kernel
theorem dX10_playTick_55 : decode cX10_playTick 55 = .ok (.return_, 1) := by decide +kernel
theorem dX10_isIn_0 : decode cX10_isIn 0 = .ok (.iload_n 0, 1) := by decide +kernel
theorem dX10_isIn_1 : decode cX10_isIn 1 = .ok (.ifCond .lt 12, 3) := by decide +kernel
theorem dX10_isIn_4 : decode cX10_isIn 4 = .ok (.iload_n 0, 1) := by decide +kernel
theorem dX10_isIn_5 : decode cX10_isIn 5 = .ok (.iload_n 1, 1) := by decide +kernel
theorem dX10_isIn_6 : decode cX10_isIn 6 = .ok (.if_icmp .ge 7, 3) := by decide +kernel
theorem dX10_isIn_9 : decode cX10_isIn 9 = .ok (.iconst 1, 1) := by decide +kernel
theorem dX10_isIn_10 : decode cX10_isIn 10 = .ok (.goto 4, 3) := by decide +kernel
theorem dX10_isIn_13 : decode cX10_isIn 13 = .ok (.iconst 0, 1) := by decide +kernel
theorem dX10_isIn_14 : decode cX10_isIn 14 = .ok (.ireturn, 1) := by decide +kernel
theorem dX10_limit_0 : decode cX10_limit 0 = .ok (.iload_n 0, 1) := by decide +kernel
theorem dX10_limit_1 : decode cX10_limit 1 = .ok (.iload_n 1, 1) := by decide +kernel
theorem dX10_limit_2 : decode cX10_limit 2 = .ok (.if_icmp .ge 5, 3) := by decide +kernel
theorem dX10_limit_5 : decode cX10_limit 5 = .ok (.iload_n 1, 1) := by decide +kernel
theorem dX10_limit_6 : decode cX10_limit 6 = .ok (.ireturn, 1) := by decide +kernel
theorem dX10_limit_7 : decode cX10_limit 7 = .ok (.iload_n 0, 1) := by decide +kernel
theorem dX10_limit_8 : decode cX10_limit 8 = .ok (.iload_n 2, 1) := by decide +kernel
theorem dX10_limit_9 : decode cX10_limit 9 = .ok (.if_icmp .le 7, 3) := by decide +kernel
theorem dX10_limit_12 : decode cX10_limit 12 = .ok (.iload_n 2, 1) := by decide +kernel
theorem dX10_limit_13 : decode cX10_limit 13 = .ok (.goto 4, 3) := by decide +kernel
theorem dX10_limit_16 : decode cX10_limit 16 = .ok (.iload_n 0, 1) := by decide +kernel
theorem dX10_limit_17 : decode cX10_limit 17 = .ok (.ireturn, 1) := by decide +kernel
theorem dX11_init_0 : decode cX11_init 0 = .ok (.aload_n 0, 1) := by decide +kernel
theorem dX11_init_1 : decode cX11_init 1 = .ok (.invokespecial 1, 3) := by decide +kernel
theorem dX11_init_4 : decode cX11_init 4 = .ok (.aload_n 0, 1) := by decide +kernel
theorem dX11_init_5 : decode cX11_init 5 = .ok (.sipush 9000, 3) := by decide +kernel
theorem dX11_init_8 : decode cX11_init 8 = .ok (.newarray .byte, 2) := by decide +kernel
theorem dX11_init_10 : decode cX11_init 10 = .ok (.putfield 9, 3) := by decide +kernel
theorem dX11_init_13 : decode cX11_init 13 = .ok (.aload_n 0, 1) := by decide +kernel
theorem dX11_init_14 : decode cX11_init 14 = .ok (.iconst (-1), 1) := by decide +kernel
theorem dX11_init_15 : decode cX11_init 15 = .ok (.putfield 13, 3) := by decide +kernel
theorem dX11_init_18 : decode cX11_init 18 = .ok (.aload_n 0, 1) := by decide +kernel
theorem dX11_init_19 : decode cX11_init 19 = .ok (.bipush 32, 2) := by decide +kernel
theorem dX11_init_21 : decode cX11_init 21 = .ok (.newarray .int, 2) := by decide +kernel
theorem dX11_init_23 : decode cX11_init 23 = .ok (.putfield 17, 3) := by decide +kernel
theorem dX11_init_26 : decode cX11_init 26 = .ok (.aload_n 0, 1) := by decide +kernel
theorem dX11_init_27 : decode cX11_init 27 = .ok (.bipush 32, 2) := by decide +kernel
theorem dX11_init_29 : decode cX11_init 29 = .ok (.newarray .int, 2) := by decide +kernel
theorem dX11_init_31 : decode cX11_init 31 = .ok (.putfield 21, 3) := by decide +kernel
theorem dX11_init_34 : decode cX11_init 34 = .ok (.aload_n 0, 1) := by decide +kernel
theorem dX11_init_35 : decode cX11_init 35 = .ok (.bipush 32, 2) := by decide +kernel
theorem dX11_init_37 : decode cX11_init 37 = .ok (.newarray .int, 2) := by decide +kernel
theorem dX11_init_39 : decode cX11_init 39 = .ok (.putfield 24, 3) := by decide +kernel
theorem dX11_init_42 : decode cX11_init 42 = .ok (.aload_n 0, 1) := by decide +kernel
theorem dX11_init_43 : decode cX11_init 43 = .ok (.bipush 32, 2) := by decide +kernel
theorem dX11_init_45 : decode cX11_init 45 = .ok (.newarray .int, 2) := by decide +kernel
theorem dX11_init_47 : decode cX11_init 47 = .ok (.putfield 27, 3) := by decide +kernel
theorem dX11_init_50 : decode cX11_init 50 = .ok (.aload_n 0, 1) := by decide +kernel
theorem dX11_init_51 : decode cX11_init 51 = .ok (.bipush 32, 2) := by decide +kernel
theorem dX11_init_53 : decode cX11_init 53 = .ok (.newarray .int, 2) := by decide +kernel
theorem dX11_init_55 : decode cX11_init 55 = .ok (.putfield 30, 3) := by decide +kernel
theorem dX11_init_58 : decode cX11_init 58 = .ok (.aload_n 0, 1) := by decide +kernel
theorem dX11_init_59 : decode cX11_init 59 = .ok (.ldc 33, 2) := by decide +kernel
theorem dX11_init_61 : decode cX11_init 61 = .ok (.newarray .byte, 2) := by decide +kernel
theorem dX11_init_63 : decode cX11_init 63 = .ok (.putfield 34, 3) := by decide +kernel
theorem dX11_init_66 : decode cX11_init 66 = .ok (.aload_n 0, 1) := by decide +kernel
theorem dX11_init_67 : decode cX11_init 67 = .ok (.sipush 2048, 3) := by decide +kernel
theorem dX11_init_70 : decode cX11_init 70 = .ok (.newarray .int, 2) := by decide +kernel
theorem dX11_init_72 : decode cX11_init 72 = .ok (.putfield 37, 3) := by decide +kernel
theorem dX11_init_75 : decode cX11_init 75 = .ok (.aload_n 0, 1) := by decide +kernel
theorem dX11_init_76 : decode cX11_init 76 = .ok (.sipush 128, 3) := by decide +kernel
theorem dX11_init_79 : decode cX11_init 79 = .ok (.newarray .int, 2) := by decide +kernel
theorem dX11_init_81 : decode cX11_init 81 = .ok (.putfield 40, 3) := by decide +kernel
theorem dX11_init_84 : decode cX11_init 84 = .ok (.aload_n 0, 1) := by decide +kernel
theorem dX11_init_85 : decode cX11_init 85 = .ok (.iconst 1, 1) := by decide +kernel
theorem dX11_init_86 : decode cX11_init 86 = .ok (.putfield 43, 3) := by decide +kernel
theorem dX11_init_89 : decode cX11_init 89 = .ok (.aload_n 0, 1) := by decide +kernel
theorem dX11_init_90 : decode cX11_init 90 = .ok (.sipush 8192, 3) := by decide +kernel
theorem dX11_init_93 : decode cX11_init 93 = .ok (.newarray .boolean, 2) := by decide +kernel
theorem dX11_init_95 : decode cX11_init 95 = .ok (.putfield 46, 3) := by decide +kernel
theorem dX11_init_98 : decode cX11_init 98 = .ok (.aload_n 0, 1) := by decide +kernel
theorem dX11_init_99 : decode cX11_init 99 = .ok (.sipush 1300, 3) := by decide +kernel
theorem dX11_init_102 : decode cX11_init 102 = .ok (.newarray .int, 2) := by decide +kernel
theorem dX11_init_104 : decode cX11_init 104 = .ok (.putfield 50, 3) := by decide +kernel
theorem dX11_init_107 : decode cX11_init 107 = .ok (.aload_n 0, 1) := by decide +kernel
theorem dX11_init_108 : decode cX11_init 108 = .ok (.sipush 1300, 3) := by decide +kernel
theorem dX11_init_111 : decode cX11_init 111 = .ok (.newarray .int, 2) := by decide +kernel
theorem dX11_init_113 : decode cX11_init 113 = .ok (.putfield 53, 3) := by decide +kernel
theorem dX11_init_116 : decode cX11_init 116 = .ok (.aload_n 0, 1) := by decide +kernel
theorem dX11_init_117 : decode cX11_init 117 = .ok (.iconst 4, 1) := by decide +kernel
theorem dX11_init_118 : decode cX11_init 118 = .ok (.newarray .int, 2) := by decide +kernel
theorem dX11_init_120 : decode cX11_init 120 = .ok (.putfield 56, 3) := by decide +kernel
theorem dX11_init_123 : decode cX11_init 123 = .ok (.aload_n 0, 1) := by decide +kernel
theorem dX11_init_124 : decode cX11_init 124 = .ok (.iconst 4, 1) := by decide +kernel
theorem dX11_init_125 : decode cX11_init 125 = .ok (.newarray .int, 2) := by decide +kernel
theorem dX11_init_127 : decode cX11_init 127 = .ok (.putfield 59, 3) := by decide +kernel
theorem dX11_init_130 : decode cX11_init 130 = .ok (.aload_n 0, 1) := by decide +kernel
theorem dX11_init_131 : decode cX11_init 131 = .ok (.iconst 4, 1) := by decide +kernel
theorem dX11_init_132 : decode cX11_init 132 = .ok (.newarray .int, 2) := by decide +kernel
theorem dX11_init_134 : decode cX11_init 134 = .ok (.putfield 62, 3) := by decide +kernel
theorem dX11_init_137 : decode cX11_init 137 = .ok (.aload_n 0, 1) := by decide +kernel
theorem dX11_init_138 : decode cX11_init 138 = .ok (.iconst 4, 1) := by decide +kernel
theorem dX11_init_139 : decode cX11_init 139 = .ok (.newarray .int, 2) := by decide +kernel
theorem dX11_init_141 : decode cX11_init 141 = .ok (.putfield 65, 3) := by decide +kernel
theorem dX11_init_144 : decode cX11_init 144 = .ok (.aload_n 0, 1) := by decide +kernel
theorem dX11_init_145 : decode cX11_init 145 = .ok (.iconst 4, 1) := by decide +kernel
theorem dX11_init_146 : decode cX11_init 146 = .ok (.newarray .int, 2) := by decide +kernel
theorem dX11_init_148 : decode cX11_init 148 = .ok (.putfield 68, 3) := by decide +kernel
theorem dX11_init_151 : decode cX11_init 151 = .ok (.aload_n 0, 1) := by decide +kernel
theorem dX11_init_152 : decode cX11_init 152 = .ok (.iconst 4, 1) := by decide +kernel
theorem dX11_init_153 : decode cX11_init 153 = .ok (.newarray .int, 2) := by decide +kernel
theorem dX11_init_155 : decode cX11_init 155 = .ok (.putfield 71, 3) := by decide +kernel
theorem dX11_init_158 : decode cX11_init 158 = .ok (.aload_n 0, 1) := by decide +kernel
theorem dX11_init_159 : decode cX11_init 159 = .ok (.iconst 4, 1) := by decide +kernel
theorem dX11_init_160 : decode cX11_init 160 = .ok (.newarray .int, 2) := by decide +kernel
theorem dX11_init_162 : decode cX11_init 162 = .ok (.putfield 74, 3) := by decide +kernel
theorem dX11_init_165 : decode cX11_init 165 = .ok (.aload_n 0, 1) := by decide +kernel
theorem dX11_init_166 : decode cX11_init 166 = .ok (.iconst 4, 1) := by decide +kernel
theorem dX11_init_167 : decode cX11_init 167 = .ok (.newarray .int, 2) := by decide +kernel
theorem dX11_init_169 : decode cX11_init 169 = .ok (.putfield 77, 3) := by decide +kernel
theorem dX11_init_172 : decode cX11_init 172 = .ok (.aload_n 0, 1) := by decide +kernel
theorem dX11_init_173 : decode cX11_init 173 = .ok (.iconst 4, 1) := by decide +kernel
theorem dX11_init_174 : decode cX11_init 174 = .ok (.newarray .int, 2) := by decide +kernel
theorem dX11_init_176 : decode cX11_init 176 = .ok (.putfield 80, 3) := by decide +kernel
theorem dX11_init_179 : decode cX11_init 179 = .ok (.aload_n 0, 1) := by decide +kernel
theorem dX11_init_180 : decode cX11_init 180 = .ok (.iconst 4, 1) := by decide +kernel
theorem dX11_init_181 : decode cX11_init 181 = .ok (.newarray .int, 2) := by decide +kernel
theorem dX11_init_183 : decode cX11_init 183 = .ok (.putfield 83, 3) := by decide +kernel
theorem dX11_init_186 : decode cX11_init 186 = .ok (.aload_n 0, 1) := by decide +kernel
theorem dX11_init_187 : decode cX11_init 187 = .ok (.iconst 4, 1) := by decide +kernel
theorem dX11_init_188 : decode cX11_init 188 = .ok (.newarray .int, 2) := by decide +kernel
theorem dX11_init_190 : decode cX11_init 190 = .ok (.putfield 86, 3) := by decide +kernel
theorem dX11_init_193 : decode cX11_init 193 = .ok (.aload_n 0, 1) := by decide +kernel
theorem dX11_init_194 : decode cX11_init 194 = .ok (.iconst 4, 1) := by decide +kernel
theorem dX11_init_195 : decode cX11_init 195 = .ok (.newarray .int, 2) := by decide +kernel
theorem dX11_init_197 : decode cX11_init 197 = .ok (.putfield 89, 3) := by decide +kernel
theorem dX11_init_200 : decode cX11_init 200 = .ok (.aload_n 0, 1) := by decide +kernel
theorem dX11_init_201 : decode cX11_init 201 = .ok (.iconst 4, 1) := by decide +kernel
theorem dX11_init_202 : decode cX11_init 202 = .ok (.newarray .int, 2) := by decide +kernel
theorem dX11_init_204 : decode cX11_init 204 = .ok (.putfield 92, 3) := by decide +kernel
theorem dX11_init_207 : decode cX11_init 207 = .ok (.aload_n 0, 1) := by decide +kernel
theorem dX11_init_208 : decode cX11_init 208 = .ok (.iconst 4, 1) := by decide +kernel
theorem dX11_init_209 : decode cX11_init 209 = .ok (.newarray .int, 2) := by decide +kernel
theorem dX11_init_211 : decode cX11_init 211 = .ok (.putfield 95, 3) := by decide +kernel
theorem dX11_init_214 : decode cX11_init 214 = .ok (.aload_n 0, 1) := by decide +kernel
theorem dX11_init_215 : decode cX11_init 215 = .ok (.iconst 4, 1) := by decide +kernel
theorem dX11_init_216 : decode cX11_init 216 = .ok (.newarray .int, 2) := by decide +kernel
theorem dX11_init_218 : decode cX11_init 218 = .ok (.putfield 98, 3) := by decide +kernel
theorem dX11_init_221 : decode cX11_init 221 = .ok (.aload_n 0, 1) := by decide +kernel
theorem dX11_init_222 : decode cX11_init 222 = .ok (.iconst 4, 1) := by decide +kernel
theorem dX11_init_223 : decode cX11_init 223 = .ok (.newarray .int, 2) := by decide +kernel
theorem dX11_init_225 : decode cX11_init 225 = .ok (.putfield 101, 3) := by decide +kernel
theorem dX11_init_228 : decode cX11_init 228 = .ok (.aload_n 0, 1) := by decide +kernel
theorem dX11_init_229 : decode cX11_init 229 = .ok (.iconst 4, 1) := by decide +kernel
theorem dX11_init_230 : decode cX11_init 230 = .ok (.newarray .int, 2) := by decide +kernel
theorem dX11_init_232 : decode cX11_init 232 = .ok (.putfield 104, 3) := by decide +kernel
theorem dX11_init_235 : decode cX11_init 235 = .ok (.aload_n 0, 1) := by decide +kernel
theorem dX11_init_236 : decode cX11_init 236 = .ok (.iconst 4, 1) := by decide +kernel
theorem dX11_init_237 : decode cX11_init 237 = .ok (.newarray .int, 2) := by decide +kernel
theorem dX11_init_239 : decode cX11_init 239 = .ok (.putfield 107, 3) := by decide +kernel
theorem dX11_init_242 : decode cX11_init 242 = .ok (.aload_n 0, 1) := by decide +kernel
theorem dX11_init_243 : decode cX11_init 243 = .ok (.iconst 4, 1) := by decide +kernel
theorem dX11_init_244 : decode cX11_init 244 = .ok (.newarray .int, 2) := by decide +kernel
theorem dX11_init_246 : decode cX11_init 246 = .ok (.putfield 110, 3) := by decide +kernel
theorem dX11_init_249 : decode cX11_init 249 = .ok (.aload_n 0, 1) := by decide +kernel
theorem dX11_init_250 : decode cX11_init 250 = .ok (.iconst 4, 1) := by decide +kernel
theorem dX11_init_251 : decode cX11_init 251 = .ok (.newarray .long, 2) := by decide +kernel
theorem dX11_init_253 : decode cX11_init 253 = .ok (.putfield 113, 3) := by decide +kernel
theorem dX11_init_256 : decode cX11_init 256 = .ok (.aload_n 0, 1) := by decide +kernel
theorem dX11_init_257 : decode cX11_init 257 = .ok (.iconst 4, 1) := by decide +kernel
theorem dX11_init_258 : decode cX11_init 258 = .ok (.newarray .boolean, 2) := by decide +kernel
theorem dX11_init_260 : decode cX11_init 260 = .ok (.putfield 117, 3) := by decide +kernel
theorem dX11_init_263 : decode cX11_init 263 = .ok (.aload_n 0, 1) := by decide +kernel
theorem dX11_init_264 : decode cX11_init 264 = .ok (.iconst 4, 1) := by decide +kernel
theorem dX11_init_265 : decode cX11_init 265 = .ok (.newarray .boolean, 2) := by decide +kernel
theorem dX11_init_267 : decode cX11_init 267 = .ok (.putfield 120, 3) := by decide +kernel
theorem dX11_init_270 : decode cX11_init 270 = .ok (.aload_n 0, 1) := by decide +kernel
theorem dX11_init_271 : decode cX11_init 271 = .ok (.sipush 2000, 3) := by decide +kernel
theorem dX11_init_274 : decode cX11_init 274 = .ok (.sipush 16000, 3) := by decide +kernel
theorem dX11_init_277 : decode cX11_init 277 = .ok (.iload_n 1, 1) := by decide +kernel
theorem dX11_init_278 : decode cX11_init 278 = .ok (.invokestatic 123, 3) := by decide +kernel
theorem dX11_init_281 : decode cX11_init 281 = .ok (.invokestatic 129, 3) := by decide +kernel
theorem dX11_init_284 : decode cX11_init 284 = .ok (.putfield 132, 3) := by decide +kernel
theorem dX11_init_287 : decode cX11_init 287 = .ok (.aload_n 0, 1) := by decide +kernel
theorem dX11_init_288 : decode cX11_init 288 = .ok (.invokevirtual 135, 3) := by decide +kernel
theorem dX11_init_291 : decode cX11_init 291 = .ok (.return_, 1) := by decide +kernel
theorem dX11_in_0 : decode cX11_in 0 = .ok (.iload_n 0, 1) := by decide +kernel
theorem dX11_in_1 : decode cX11_in 1 = .ok (.iload_n 1, 1) := by decide +kernel
theorem dX11_in_2 : decode cX11_in 2 = .ok (.if_icmp .lt 12, 3) := by decide +kernel
theorem dX11_in_5 : decode cX11_in 5 = .ok (.iload_n 0, 1) := by decide +kernel
theorem dX11_in_6 : decode cX11_in 6 = .ok (.iload_n 2, 1) := by decide +kernel
theorem dX11_in_7 : decode cX11_in 7 = .ok (.if_icmp .gt 7, 3) := by decide +kernel
theorem dX11_in_10 : decode cX11_in 10 = .ok (.iconst 1, 1) := by decide +kernel
theorem dX11_in_11 : decode cX11_in 11 = .ok (.goto 4, 3) := by decide +kernel
theorem dX11_in_14 : decode cX11_in 14 = .ok (.iconst 0, 1) := by decide +kernel
theorem dX11_in_15 : decode cX11_in 15 = .ok (.ireturn, 1) := by decide +kernel
theorem dX11_within_0 : decode cX11_within 0 = .ok (.iload_n 1, 1) := by decide +kernel
theorem dX11_within_1 : decode cX11_within 1 = .ok (.iload_n 2, 1) := by decide +kernel
theorem dX11_within_2 : decode cX11_within 2 = .ok (.iload_n 0, 1) := by decide +kernel
theorem dX11_within_3 : decode cX11_within 3 = .ok (.invokestatic 123, 3) := by decide +kernel
theorem dX11_within_6 : decode cX11_within 6 = .ok (.invokestatic 129, 3) := by decide +kernel
theorem dX11_within_9 : decode cX11_within 9 = .ok (.ireturn, 1) := by decide +kernel
theorem dX11_types_0 : decode cX11_types 0 = .ok (.bipush 24, 2) := by decide +kernel
theorem dX11_types_2 : decode cX11_types 2 = .ok (.istore_n 2, 1) := by decide +kernel
theorem dX11_types_3 : decode cX11_types 3 = .ok (.iload_n 2, 1) := by decide +kernel
theorem dX11_types_4 : decode cX11_types 4 = .ok (.ifCond .lt 32, 3) := by decide +kernel
theorem dX11_types_7 : decode cX11_types 7 = .ok (.aload_n 0, 1) := by decide +kernel
theorem dX11_types_8 : decode cX11_types 8 = .ok (.getfield 9, 3) := by decide +kernel
theorem dX11_types_11 : decode cX11_types 11 = .ok (.aload_n 0, 1) := by decide +kernel
theorem dX11_types_12 : decode cX11_types 12 = .ok (.getfield 138, 3) := by decide +kernel
theorem dX11_types_15 : decode cX11_types 15 = .ok (.iload_n 1, 1) := by decide +kernel
theorem dX11_types_16 : decode cX11_types 16 = .ok (.iload_n 2, 1) := by decide +kernel
theorem dX11_types_17 : decode cX11_types 17 = .ok (.ishr, 1) := by decide +kernel
theorem dX11_types_18 : decode cX11_types 18 = .ok (.i2b, 1) := by decide +kernel
theorem dX11_types_19 : decode cX11_types 19 = .ok (.bastore, 1) := by decide +kernel
theorem dX11_types_20 : decode cX11_types 20 = .ok (.aload_n 0, 1) := by decide +kernel
theorem dX11_types_21 : decode cX11_types 21 = .ok (.dup, 1) := by decide +kernel
theorem dX11_types_22 : decode cX11_types 22 = .ok (.getfield 138, 3) := by decide +kernel
theorem dX11_types_25 : decode cX11_types 25 = .ok (.iconst 1, 1) := by decide +kernel
theorem dX11_types_26 : decode cX11_types 26 = .ok (.iadd, 1) := by decide +kernel
theorem dX11_types_27 : decode cX11_types 27 = .ok (.putfield 138, 3) := by decide +kernel
theorem dX11_types_30 : decode cX11_types 30 = .ok (.iinc 2 (-8), 3) := by decide +kernel
theorem dX11_types_33 : decode cX11_types 33 = .ok (.goto (-30), 3) := by decide +kernel
theorem dX11_types_36 : decode cX11_types 36 = .ok (.return_, 1) := by decide +kernel
theorem dX11_feed_0 : decode cX11_feed 0 = .ok (.aload_n 0, 1) := by decide +kernel
