theorem dX2_moveOn_53 : decode cX2_moveOn 53 = .ok (.goto 7, 3) := by decide +kernel
theorem dX2_moveOn_56 : decode cX2_moveOn 56 = .ok (.aload_n 0, 1) := by decide +kernel
theorem dX2_moveOn_57 : decode cX2_moveOn 57 = .ok (.getfield 56, 3) := by decide +kernel
theorem dX2_moveOn_60 : decode cX2_moveOn 60 = .ok (.putfield 35, 3) := by decide +kernel
theorem dX2_moveOn_63 : decode cX2_moveOn 63 = .ok (.goto 40, 3) := by decide +kernel
theorem dX2_moveOn_66 : decode cX2_moveOn 66 = .ok (.aload_n 0, 1) := by decide +kernel
theorem dX2_moveOn_67 : decode cX2_moveOn 67 = .ok (.getfield 35, 3) := by decide +kernel
theorem dX2_moveOn_70 : decode cX2_moveOn 70 = .ok (.bipush 63, 2) := by decide +kernel
theorem dX2_moveOn_72 : decode cX2_moveOn 72 = .ok (.if_icmp .ge 16, 3) := by decide +kernel
theorem dX2_moveOn_75 : decode cX2_moveOn 75 = .ok (.aload_n 0, 1) := by decide +kernel
theorem dX2_moveOn_76 : decode cX2_moveOn 76 = .ok (.dup, 1) := by decide +kernel
theorem dX2_moveOn_77 : decode cX2_moveOn 77 = .ok (.getfield 35, 3) := by decide +kernel
theorem dX2_moveOn_80 : decode cX2_moveOn 80 = .ok (.iconst 1, 1) := by decide +kernel
theorem dX2_moveOn_81 : decode cX2_moveOn 81 = .ok (.iadd, 1) := by decide +kernel
theorem dX2_moveOn_82 : decode cX2_moveOn 82 = .ok (.putfield 35, 3) := by decide +kernel
theorem dX2_moveOn_85 : decode cX2_moveOn 85 = .ok (.goto 18, 3) := by decide +kernel
theorem dX2_moveOn_88 : decode cX2_moveOn 88 = .ok (.aload_n 0, 1) := by decide +kernel
theorem dX2_moveOn_89 : decode cX2_moveOn 89 = .ok (.iconst 0, 1) := by decide +kernel
theorem dX2_moveOn_90 : decode cX2_moveOn 90 = .ok (.putfield 35, 3) := by decide +kernel
theorem dX2_moveOn_93 : decode cX2_moveOn 93 = .ok (.aload_n 0, 1) := by decide +kernel
theorem dX2_moveOn_94 : decode cX2_moveOn 94 = .ok (.dup, 1) := by decide +kernel
theorem dX2_moveOn_95 : decode cX2_moveOn 95 = .ok (.getfield 32, 3) := by decide +kernel
theorem dX2_moveOn_98 : decode cX2_moveOn 98 = .ok (.iconst 1, 1) := by decide +kernel
theorem dX2_moveOn_99 : decode cX2_moveOn 99 = .ok (.iadd, 1) := by decide +kernel
theorem dX2_moveOn_100 : decode cX2_moveOn 100 = .ok (.putfield 32, 3) := by decide +kernel
theorem dX2_moveOn_103 : decode cX2_moveOn 103 = .ok (.aload_n 0, 1) := by decide +kernel
theorem dX2_moveOn_104 : decode cX2_moveOn 104 = .ok (.getfield 32, 3) := by decide +kernel
theorem dX2_moveOn_107 : decode cX2_moveOn 107 = .ok (.aload_n 0, 1) := by decide +kernel
theorem dX2_moveOn_108 : decode cX2_moveOn 108 = .ok (.getfield 15, 3) := by decide +kernel
theorem dX2_moveOn_111 : decode cX2_moveOn 111 = .ok (.getfield 73, 3) := by decide +kernel
theorem dX2_moveOn_114 : decode cX2_moveOn 114 = .ok (.if_icmp .lt 35, 3) := by decide +kernel
theorem dX2_moveOn_117 : decode cX2_moveOn 117 = .ok (.aload_n 0, 1) := by decide +kernel
theorem dX2_moveOn_118 : decode cX2_moveOn 118 = .ok (.aload_n 0, 1) := by decide +kernel
theorem dX2_moveOn_119 : decode cX2_moveOn 119 = .ok (.getfield 15, 3) := by decide +kernel
theorem dX2_moveOn_122 : decode cX2_moveOn 122 = .ok (.getfield 78, 3) := by decide +kernel
theorem dX2_moveOn_125 : decode cX2_moveOn 125 = .ok (.aload_n 0, 1) := by decide +kernel
theorem dX2_moveOn_126 : decode cX2_moveOn 126 = .ok (.getfield 15, 3) := by decide +kernel
theorem dX2_moveOn_129 : decode cX2_moveOn 129 = .ok (.getfield 73, 3) := by decide +kernel
theorem dX2_moveOn_132 : decode cX2_moveOn 132 = .ok (.if_icmp .ge 13, 3) := by decide +kernel
theorem dX2_moveOn_135 : decode cX2_moveOn 135 = .ok (.aload_n 0, 1) := by decide +kernel
theorem dX2_moveOn_136 : decode cX2_moveOn 136 = .ok (.getfield 15, 3) := by decide +kernel
theorem dX2_moveOn_139 : decode cX2_moveOn 139 = .ok (.getfield 78, 3) := by decide +kernel
theorem dX2_moveOn_142 : decode cX2_moveOn 142 = .ok (.goto 4, 3) := by decide +kernel
theorem dX2_moveOn_145 : decode cX2_moveOn 145 = .ok (.iconst 0, 1) := by decide +kernel
theorem dX2_moveOn_146 : decode cX2_moveOn 146 = .ok (.putfield 32, 3) := by decide +kernel
theorem dX2_moveOn_149 : decode cX2_moveOn 149 = .ok (.return_, 1) := by decide +kernel
theorem dX2_placeOfTurn_0 : decode cX2_placeOfTurn 0 = .ok (.aload_n 0, 1) := by decide +kernel
theorem dX2_placeOfTurn_1 : decode cX2_placeOfTurn 1 = .ok (.getfield 53, 3) := by decide +kernel
theorem dX2_placeOfTurn_4 : decode cX2_placeOfTurn 4 = .ok (.iconst (-1), 1) := by decide +kernel
theorem dX2_placeOfTurn_5 : decode cX2_placeOfTurn 5 = .ok (.if_icmp .ne 10, 3) := by decide +kernel
theorem dX2_placeOfTurn_8 : decode cX2_placeOfTurn 8 = .ok (.aload_n 0, 1) := by decide +kernel
theorem dX2_placeOfTurn_9 : decode cX2_placeOfTurn 9 = .ok (.getfield 32, 3) := by decide +kernel
theorem dX2_placeOfTurn_12 : decode cX2_placeOfTurn 12 = .ok (.iconst 1, 1) := by decide +kernel
theorem dX2_placeOfTurn_13 : decode cX2_placeOfTurn 13 = .ok (.iadd, 1) := by decide +kernel
theorem dX2_placeOfTurn_14 : decode cX2_placeOfTurn 14 = .ok (.ireturn, 1) := by decide +kernel
theorem dX2_placeOfTurn_15 : decode cX2_placeOfTurn 15 = .ok (.aload_n 0, 1) := by decide +kernel
theorem dX2_placeOfTurn_16 : decode cX2_placeOfTurn 16 = .ok (.getfield 53, 3) := by decide +kernel
theorem dX2_placeOfTurn_19 : decode cX2_placeOfTurn 19 = .ok (.aload_n 0, 1) := by decide +kernel
theorem dX2_placeOfTurn_20 : decode cX2_placeOfTurn 20 = .ok (.getfield 15, 3) := by decide +kernel
theorem dX2_placeOfTurn_23 : decode cX2_placeOfTurn 23 = .ok (.getfield 73, 3) := by decide +kernel
theorem dX2_placeOfTurn_26 : decode cX2_placeOfTurn 26 = .ok (.if_icmp .ge 10, 3) := by decide +kernel
theorem dX2_placeOfTurn_29 : decode cX2_placeOfTurn 29 = .ok (.aload_n 0, 1) := by decide +kernel
theorem dX2_placeOfTurn_30 : decode cX2_placeOfTurn 30 = .ok (.getfield 53, 3) := by decide +kernel
theorem dX2_placeOfTurn_33 : decode cX2_placeOfTurn 33 = .ok (.goto 4, 3) := by decide +kernel
theorem dX2_placeOfTurn_36 : decode cX2_placeOfTurn 36 = .ok (.iconst 0, 1) := by decide +kernel
theorem dX2_placeOfTurn_37 : decode cX2_placeOfTurn 37 = .ok (.ireturn, 1) := by decide +kernel
theorem dX2_beginRow_0 : decode cX2_beginRow 0 = .ok (.aload_n 0, 1) := by decide +kernel
theorem dX2_beginRow_1 : decode cX2_beginRow 1 = .ok (.iconst 0, 1) := by decide +kernel
theorem dX2_beginRow_2 : decode cX2_beginRow 2 = .ok (.putfield 38, 3) := by decide +kernel
theorem dX2_beginRow_5 : decode cX2_beginRow 5 = .ok (.aload_n 0, 1) := by decide +kernel
theorem dX2_beginRow_6 : decode cX2_beginRow 6 = .ok (.invokevirtual 47, 3) := by decide +kernel
theorem dX2_beginRow_9 : decode cX2_beginRow 9 = .ok (.aload_n 0, 1) := by decide +kernel
theorem dX2_beginRow_10 : decode cX2_beginRow 10 = .ok (.aload_n 1, 1) := by decide +kernel
theorem dX2_beginRow_11 : decode cX2_beginRow 11 = .ok (.invokestatic 81, 3) := by decide +kernel
theorem dX2_beginRow_14 : decode cX2_beginRow 14 = .ok (.invokevirtual 85, 3) := by decide +kernel
theorem dX2_beginRow_17 : decode cX2_beginRow 17 = .ok (.aload_n 0, 1) := by decide +kernel
theorem dX2_beginRow_18 : decode cX2_beginRow 18 = .ok (.getfield 15, 3) := by decide +kernel
theorem dX2_beginRow_21 : decode cX2_beginRow 21 = .ok (.aload_n 0, 1) := by decide +kernel
theorem dX2_beginRow_22 : decode cX2_beginRow 22 = .ok (.getfield 32, 3) := by decide +kernel
theorem dX2_beginRow_25 : decode cX2_beginRow 25 = .ok (.invokevirtual 89, 3) := by decide +kernel
theorem dX2_beginRow_28 : decode cX2_beginRow 28 = .ok (.istore_n 2, 1) := by decide +kernel
theorem dX2_beginRow_29 : decode cX2_beginRow 29 = .ok (.iconst 0, 1) := by decide +kernel
theorem dX2_beginRow_30 : decode cX2_beginRow 30 = .ok (.istore_n 3, 1) := by decide +kernel
theorem dX2_beginRow_31 : decode cX2_beginRow 31 = .ok (.iload_n 3, 1) := by decide +kernel
theorem dX2_beginRow_32 : decode cX2_beginRow 32 = .ok (.aload_n 1, 1) := by decide +kernel
theorem dX2_beginRow_33 : decode cX2_beginRow 33 = .ok (.arraylength, 1) := by decide +kernel
theorem dX2_beginRow_34 : decode cX2_beginRow 34 = .ok (.if_icmp .ge 28, 3) := by decide +kernel
theorem dX2_beginRow_37 : decode cX2_beginRow 37 = .ok (.aload_n 1, 1) := by decide +kernel
theorem dX2_beginRow_38 : decode cX2_beginRow 38 = .ok (.iload_n 3, 1) := by decide +kernel
theorem dX2_beginRow_39 : decode cX2_beginRow 39 = .ok (.aaload, 1) := by decide +kernel
theorem dX2_beginRow_40 : decode cX2_beginRow 40 = .ok (.aload_n 0, 1) := by decide +kernel
theorem dX2_beginRow_41 : decode cX2_beginRow 41 = .ok (.getfield 15, 3) := by decide +kernel
theorem dX2_beginRow_44 : decode cX2_beginRow 44 = .ok (.iload_n 2, 1) := by decide +kernel
theorem dX2_beginRow_45 : decode cX2_beginRow 45 = .ok (.aload_n 0, 1) := by decide +kernel
theorem dX2_beginRow_46 : decode cX2_beginRow 46 = .ok (.getfield 35, 3) := by decide +kernel
theorem dX2_beginRow_49 : decode cX2_beginRow 49 = .ok (.iload_n 3, 1) := by decide +kernel
theorem dX2_beginRow_50 : decode cX2_beginRow 50 = .ok (.invokevirtual 93, 3) := by decide +kernel
theorem dX2_beginRow_53 : decode cX2_beginRow 53 = .ok (.putfield 97, 3) := by decide +kernel
theorem dX2_beginRow_56 : decode cX2_beginRow 56 = .ok (.iinc 3 1, 3) := by decide +kernel
theorem dX2_beginRow_59 : decode cX2_beginRow 59 = .ok (.goto (-28), 3) := by decide +kernel
theorem dX2_beginRow_62 : decode cX2_beginRow 62 = .ok (.return_, 1) := by decide +kernel
theorem dX2_isLooping_0 : decode cX2_isLooping 0 = .ok (.iconst 0, 1) := by decide +kernel
theorem dX2_isLooping_1 : decode cX2_isLooping 1 = .ok (.istore_n 1, 1) := by decide +kernel
theorem dX2_isLooping_2 : decode cX2_isLooping 2 = .ok (.iload_n 1, 1) := by decide +kernel
theorem dX2_isLooping_3 : decode cX2_isLooping 3 = .ok (.aload_n 0, 1) := by decide +kernel
theorem dX2_isLooping_4 : decode cX2_isLooping 4 = .ok (.arraylength, 1) := by decide +kernel
theorem dX2_isLooping_5 : decode cX2_isLooping 5 = .ok (.if_icmp .ge 20, 3) := by decide +kernel
theorem dX2_isLooping_8 : decode cX2_isLooping 8 = .ok (.aload_n 0, 1) := by decide +kernel
theorem dX2_isLooping_9 : decode cX2_isLooping 9 = .ok (.iload_n 1, 1) := by decide +kernel
theorem dX2_isLooping_10 : decode cX2_isLooping 10 = .ok (.aaload, 1) := by decide +kernel
theorem dX2_isLooping_11 : decode cX2_isLooping 11 = .ok (.getfield 102, 3) := by decide +kernel
theorem dX2_isLooping_14 : decode cX2_isLooping 14 = .ok (.ifCond .le 5, 3) := by decide +kernel
theorem dX2_isLooping_17 : decode cX2_isLooping 17 = .ok (.iconst 1, 1) := by decide +kernel
theorem dX2_isLooping_18 : decode cX2_isLooping 18 = .ok (.ireturn, 1) := by decide +kernel
theorem dX2_isLooping_19 : decode cX2_isLooping 19 = .ok (.iinc 1 1, 3) := by decide +kernel
theorem dX2_isLooping_22 : decode cX2_isLooping 22 = .ok (.goto (-20), 3) := by decide +kernel
theorem dX2_isLooping_25 : decode cX2_isLooping 25 = .ok (.iconst 0, 1) := by decide +kernel
theorem dX2_isLooping_26 : decode cX2_isLooping 26 = .ok (.ireturn, 1) := by decide +kernel
theorem dX2_noteBegun_0 : decode cX2_noteBegun 0 = .ok (.aload_n 0, 1) := by decide +kernel
theorem dX2_noteBegun_1 : decode cX2_noteBegun 1 = .ok (.getfield 32, 3) := by decide +kernel
theorem dX2_noteBegun_4 : decode cX2_noteBegun 4 = .ok (.sipush 128, 3) := by decide +kernel
theorem dX2_noteBegun_7 : decode cX2_noteBegun 7 = .ok (.invokestatic 105, 3) := by decide +kernel
theorem dX2_noteBegun_10 : decode cX2_noteBegun 10 = .ok (.ifCond .ne 4, 3) := by decide +kernel
theorem dX2_noteBegun_13 : decode cX2_noteBegun 13 = .ok (.return_, 1) := by decide +kernel
theorem dX2_noteBegun_14 : decode cX2_noteBegun 14 = .ok (.lconst 1, 1) := by decide +kernel
theorem dX2_noteBegun_15 : decode cX2_noteBegun 15 = .ok (.aload_n 0, 1) := by decide +kernel
theorem dX2_noteBegun_16 : decode cX2_noteBegun 16 = .ok (.getfield 35, 3) := by decide +kernel
theorem dX2_noteBegun_19 : decode cX2_noteBegun 19 = .ok (.lshl, 1) := by decide +kernel
theorem dX2_noteBegun_20 : decode cX2_noteBegun 20 = .ok (.lstore_n 2, 1) := by decide +kernel
theorem dX2_noteBegun_21 : decode cX2_noteBegun 21 = .ok (.iload_n 1, 1) := by decide +kernel
theorem dX2_noteBegun_22 : decode cX2_noteBegun 22 = .ok (.ifCond .ne 29, 3) := by decide +kernel
theorem dX2_noteBegun_25 : decode cX2_noteBegun 25 = .ok (.aload_n 0, 1) := by decide +kernel
theorem dX2_noteBegun_26 : decode cX2_noteBegun 26 = .ok (.getfield 9, 3) := by decide +kernel
theorem dX2_noteBegun_29 : decode cX2_noteBegun 29 = .ok (.aload_n 0, 1) := by decide +kernel
theorem dX2_noteBegun_30 : decode cX2_noteBegun 30 = .ok (.getfield 32, 3) := by decide +kernel
theorem dX2_noteBegun_33 : decode cX2_noteBegun 33 = .ok (.laload, 1) := by decide +kernel
theorem dX2_noteBegun_34 : decode cX2_noteBegun 34 = .ok (.lload_n 2, 1) := by decide +kernel
theorem dX2_noteBegun_35 : decode cX2_noteBegun 35 = .ok (.land, 1) := by decide +kernel
theorem dX2_noteBegun_36 : decode cX2_noteBegun 36 = .ok (.lconst 0, 1) := by decide +kernel
theorem dX2_noteBegun_37 : decode cX2_noteBegun 37 = .ok (.lcmp, 1) := by decide +kernel
theorem dX2_noteBegun_38 : decode cX2_noteBegun 38 = .ok (.ifCond .eq 13, 3) := by decide +kernel
theorem dX2_noteBegun_41 : decode cX2_noteBegun 41 = .ok (.aload_n 0, 1) := by decide +kernel
theorem dX2_noteBegun_42 : decode cX2_noteBegun 42 = .ok (.dup, 1) := by decide +kernel
theorem dX2_noteBegun_43 : decode cX2_noteBegun 43 = .ok (.getfield 44, 3) := by decide +kernel
theorem dX2_noteBegun_46 : decode cX2_noteBegun 46 = .ok (.iconst 1, 1) := by decide +kernel
theorem dX2_noteBegun_47 : decode cX2_noteBegun 47 = .ok (.iadd, 1) := by decide +kernel
theorem dX2_noteBegun_48 : decode cX2_noteBegun 48 = .ok (.putfield 44, 3) := by decide +kernel
theorem dX2_noteBegun_51 : decode cX2_noteBegun 51 = .ok (.aload_n 0, 1) := by decide +kernel
theorem dX2_noteBegun_52 : decode cX2_noteBegun 52 = .ok (.getfield 9, 3) := by decide +kernel
theorem dX2_noteBegun_55 : decode cX2_noteBegun 55 = .ok (.aload_n 0, 1) := by decide +kernel
theorem dX2_noteBegun_56 : decode cX2_noteBegun 56 = .ok (.getfield 32, 3) := by decide +kernel
theorem dX2_noteBegun_59 : decode cX2_noteBegun 59 = .ok (.dup2, 1) := by decide +kernel
theorem dX2_noteBegun_60 : decode cX2_noteBegun 60 = .ok (.laload, 1) := by decide +kernel
theorem dX2_noteBegun_61 : decode cX2_noteBegun 61 = .ok (.lload_n 2, 1) := by decide +kernel
theorem dX2_noteBegun_62 : decode cX2_noteBegun 62 = .ok (.lor, 1) := by decide +kernel
theorem dX2_noteBegun_63 : decode cX2_noteBegun 63 = .ok (.lastore, 1) := by decide +kernel
theorem dX2_noteBegun_64 : decode cX2_noteBegun 64 = .ok (.return_, 1) := by decide +kernel
theorem dX3_init_0 : decode cX3_init 0 = .ok (.aload_n 0, 1) := by decide +kernel
theorem dX3_init_1 : decode cX3_init 1 = .ok (.invokespecial 3, 3) := by decide +kernel
theorem dX3_init_4 : decode cX3_init 4 = .ok (.aload_n 0, 1) := by decide +kernel
theorem dX3_init_5 : decode cX3_init 5 = .ok (.iload_n 1, 1) := by decide +kernel
theorem dX3_init_6 : decode cX3_init 6 = .ok (.putfield 9, 3) := by decide +kernel
theorem dX3_init_9 : decode cX3_init 9 = .ok (.iconst 0, 1) := by decide +kernel
theorem dX3_init_10 : decode cX3_init 10 = .ok (.iload_n 1, 1) := by decide +kernel
theorem dX3_init_11 : decode cX3_init 11 = .ok (.iconst 5, 1) := by decide +kernel
theorem dX3_init_12 : decode cX3_init 12 = .ok (.imul, 1) := by decide +kernel
theorem dX3_init_13 : decode cX3_init 13 = .ok (.bipush 64, 2) := by decide +kernel
theorem dX3_init_15 : decode cX3_init 15 = .ok (.idiv, 1) := by decide +kernel
theorem dX3_init_16 : decode cX3_init 16 = .ok (.invokestatic 15, 3) := by decide +kernel
theorem dX3_init_19 : decode cX3_init 19 = .ok (.istore_n 2, 1) := by decide +kernel
theorem dX3_init_20 : decode cX3_init 20 = .ok (.aload_n 0, 1) := by decide +kernel
theorem dX3_init_21 : decode cX3_init 21 = .ok (.iload_n 2, 1) := by decide +kernel
theorem dX3_init_22 : decode cX3_init 22 = .ok (.newarray .int, 2) := by decide +kernel
theorem dX3_init_24 : decode cX3_init 24 = .ok (.putfield 21, 3) := by decide +kernel
theorem dX3_init_27 : decode cX3_init 27 = .ok (.aload_n 0, 1) := by decide +kernel
theorem dX3_init_28 : decode cX3_init 28 = .ok (.iload_n 2, 1) := by decide +kernel
theorem dX3_init_29 : decode cX3_init 29 = .ok (.newarray .int, 2) := by decide +kernel
theorem dX3_init_31 : decode cX3_init 31 = .ok (.putfield 25, 3) := by decide +kernel
theorem dX3_init_34 : decode cX3_init 34 = .ok (.return_, 1) := by decide +kernel
theorem dX3_rewind_0 : decode cX3_rewind 0 = .ok (.aload_n 0, 1) := by decide +kernel
theorem dX3_rewind_1 : decode cX3_rewind 1 = .ok (.iconst 0, 1) := by decide +kernel
theorem dX3_rewind_2 : decode cX3_rewind 2 = .ok (.putfield 28, 3) := by decide +kernel
theorem dX3_rewind_5 : decode cX3_rewind 5 = .ok (.aload_n 0, 1) := by decide +kernel
theorem dX3_rewind_6 : decode cX3_rewind 6 = .ok (.bipush 17, 2) := by decide +kernel
theorem dX3_rewind_8 : decode cX3_rewind 8 = .ok (.putfield 31, 3) := by decide +kernel
theorem dX3_rewind_11 : decode cX3_rewind 11 = .ok (.return_, 1) := by decide +kernel
theorem dX3_mix_0 : decode cX3_mix 0 = .ok (.aload_n 0, 1) := by decide +kernel
theorem dX3_mix_1 : decode cX3_mix 1 = .ok (.iload_n 2, 1) := by decide +kernel
theorem dX3_mix_2 : decode cX3_mix 2 = .ok (.ifCond .le 24, 3) := by decide +kernel
theorem dX3_mix_5 : decode cX3_mix 5 = .ok (.aload_n 0, 1) := by decide +kernel
theorem dX3_mix_6 : decode cX3_mix 6 = .ok (.getfield 9, 3) := by decide +kernel
theorem dX3_mix_9 : decode cX3_mix 9 = .ok (.iconst 5, 1) := by decide +kernel
theorem dX3_mix_10 : decode cX3_mix 10 = .ok (.imul, 1) := by decide +kernel
theorem dX3_mix_11 : decode cX3_mix 11 = .ok (.iconst 2, 1) := by decide +kernel
theorem dX3_mix_12 : decode cX3_mix 12 = .ok (.iload_n 2, 1) := by decide +kernel
theorem dX3_mix_13 : decode cX3_mix 13 = .ok (.imul, 1) := by decide +kernel
theorem dX3_mix_14 : decode cX3_mix 14 = .ok (.idiv, 1) := by decide +kernel
theorem dX3_mix_15 : decode cX3_mix 15 = .ok (.aload_n 0, 1) := by decide +kernel
theorem dX3_mix_16 : decode cX3_mix 16 = .ok (.getfield 21, 3) := by decide +kernel
theorem dX3_mix_19 : decode cX3_mix 19 = .ok (.arraylength, 1) := by decide +kernel
theorem dX3_mix_20 : decode cX3_mix 20 = .ok (.invokestatic 34, 3) := by decide +kernel
theorem dX3_mix_23 : decode cX3_mix 23 = .ok (.goto 4, 3) := by decide +kernel
theorem dX3_mix_26 : decode cX3_mix 26 = .ok (.iconst 0, 1) := by decide +kernel
theorem dX3_mix_27 : decode cX3_mix 27 = .ok (.putfield 28, 3) := by decide +kernel
theorem dX3_mix_30 : decode cX3_mix 30 = .ok (.aload_n 0, 1) := by decide +kernel
theorem dX3_mix_31 : decode cX3_mix 31 = .ok (.getfield 21, 3) := by decide +kernel
theorem dX3_mix_34 : decode cX3_mix 34 = .ok (.iconst 0, 1) := by decide +kernel
theorem dX3_mix_35 : decode cX3_mix 35 = .ok (.aload_n 0, 1) := by decide +kernel
theorem dX3_mix_36 : decode cX3_mix 36 = .ok (.getfield 28, 3) := by decide +kernel
theorem dX3_mix_39 : decode cX3_mix 39 = .ok (.iconst 0, 1) := by decide +kernel
theorem dX3_mix_40 : decode cX3_mix 40 = .ok (.invokestatic 37, 3) := by decide +kernel
theorem dX3_mix_43 : decode cX3_mix 43 = .ok (.aload_n 0, 1) := by decide +kernel
theorem dX3_mix_44 : decode cX3_mix 44 = .ok (.getfield 25, 3) := by decide +kernel
theorem dX3_mix_47 : decode cX3_mix 47 = .ok (.iconst 0, 1) := by decide +kernel
theorem dX3_mix_48 : decode cX3_mix 48 = .ok (.aload_n 0, 1) := by decide +kernel
theorem dX3_mix_49 : decode cX3_mix 49 = .ok (.getfield 28, 3) := by decide +kernel
theorem dX3_mix_52 : decode cX3_mix 52 = .ok (.iconst 0, 1) := by decide +kernel
theorem dX3_mix_53 : decode cX3_mix 53 = .ok (.invokestatic 37, 3) := by decide +kernel
theorem dX3_mix_56 : decode cX3_mix 56 = .ok (.iconst 0, 1) := by decide +kernel
theorem dX3_mix_57 : decode cX3_mix 57 = .ok (.istore_n 3, 1) := by decide +kernel
theorem dX3_mix_58 : decode cX3_mix 58 = .ok (.iload_n 3, 1) := by decide +kernel
theorem dX3_mix_59 : decode cX3_mix 59 = .ok (.aload_n 1, 1) := by decide +kernel
theorem dX3_mix_60 : decode cX3_mix 60 = .ok (.arraylength, 1) := by decide +kernel
theorem dX3_mix_61 : decode cX3_mix 61 = .ok (.if_icmp .ge 36, 3) := by decide +kernel
theorem dX3_mix_64 : decode cX3_mix 64 = .ok (.aload_n 0, 1) := by decide +kernel
theorem dX3_mix_65 : decode cX3_mix 65 = .ok (.aload_n 1, 1) := by decide +kernel
theorem dX3_mix_66 : decode cX3_mix 66 = .ok (.iload_n 3, 1) := by decide +kernel
theorem dX3_mix_67 : decode cX3_mix 67 = .ok (.aaload, 1) := by decide +kernel
theorem dX3_mix_68 : decode cX3_mix 68 = .ok (.iload_n 3, 1) := by decide +kernel
theorem dX3_mix_69 : decode cX3_mix 69 = .ok (.ifCond .eq 8, 3) := by decide +kernel
theorem dX3_mix_72 : decode cX3_mix 72 = .ok (.iload_n 3, 1) := by decide +kernel
theorem dX3_mix_73 : decode cX3_mix 73 = .ok (.iconst 3, 1) := by decide +kernel
theorem dX3_mix_74 : decode cX3_mix 74 = .ok (.if_icmp .ne 10, 3) := by decide +kernel
theorem dX3_mix_77 : decode cX3_mix 77 = .ok (.aload_n 0, 1) := by decide +kernel
theorem dX3_mix_78 : decode cX3_mix 78 = .ok (.getfield 21, 3) := by decide +kernel
theorem dX3_mix_81 : decode cX3_mix 81 = .ok (.goto 7, 3) := by decide +kernel
theorem dX3_mix_84 : decode cX3_mix 84 = .ok (.aload_n 0, 1) := by decide +kernel
theorem dX3_mix_85 : decode cX3_mix 85 = .ok (.getfield 25, 3) := by decide +kernel
theorem dX3_mix_88 : decode cX3_mix 88 = .ok (.invokevirtual 43, 3) := by decide +kernel
theorem dX3_mix_91 : decode cX3_mix 91 = .ok (.iinc 3 1, 3) := by decide +kernel
theorem dX3_mix_94 : decode cX3_mix 94 = .ok (.goto (-36), 3) := by decide +kernel
theorem dX3_mix_97 : decode cX3_mix 97 = .ok (.iconst 0, 1) := by decide +kernel
theorem dX3_mix_98 : decode cX3_mix 98 = .ok (.istore_n 3, 1) := by decide +kernel
theorem dX3_mix_99 : decode cX3_mix 99 = .ok (.iload_n 3, 1) := by decide +kernel
theorem dX3_mix_100 : decode cX3_mix 100 = .ok (.aload_n 0, 1) := by decide +kernel
theorem dX3_mix_101 : decode cX3_mix 101 = .ok (.getfield 28, 3) := by decide +kernel
theorem dX3_mix_104 : decode cX3_mix 104 = .ok (.if_icmp .ge 45, 3) := by decide +kernel
theorem dX3_mix_107 : decode cX3_mix 107 = .ok (.aload_n 0, 1) := by decide +kernel
theorem dX3_mix_108 : decode cX3_mix 108 = .ok (.bipush 31, 2) := by decide +kernel
theorem dX3_mix_110 : decode cX3_mix 110 = .ok (.aload_n 0, 1) := by decide +kernel
theorem dX3_mix_111 : decode cX3_mix 111 = .ok (.getfield 31, 3) := by decide +kernel
theorem dX3_mix_114 : decode cX3_mix 114 = .ok (.imul, 1) := by decide +kernel
theorem dX3_mix_115 : decode cX3_mix 115 = .ok (.aload_n 0, 1) := by decide +kernel
theorem dX3_mix_116 : decode cX3_mix 116 = .ok (.getfield 21, 3) := by decide +kernel
theorem dX3_mix_119 : decode cX3_mix 119 = .ok (.iload_n 3, 1) := by decide +kernel
theorem dX3_mix_120 : decode cX3_mix 120 = .ok (.iaload, 1) := by decide +kernel
theorem dX3_mix_121 : decode cX3_mix 121 = .ok (.iadd, 1) := by decide +kernel
theorem dX3_mix_122 : decode cX3_mix 122 = .ok (.putfield 31, 3) := by decide +kernel
theorem dX3_mix_125 : decode cX3_mix 125 = .ok (.aload_n 0, 1) := by decide +kernel
theorem dX3_mix_126 : decode cX3_mix 126 = .ok (.bipush 31, 2) := by decide +kernel
theorem dX3_mix_128 : decode cX3_mix 128 = .ok (.aload_n 0, 1) := by decide +kernel
theorem dX3_mix_129 : decode cX3_mix 129 = .ok (.getfield 31, 3) := by decide +kernel
theorem dX3_mix_132 : decode cX3_mix 132 = .ok (.imul, 1) := by decide +kernel
theorem dX3_mix_133 : decode cX3_mix 133 = .ok (.aload_n 0, 1) := by decide +kernel
theorem dX3_mix_134 : decode cX3_mix 134 = .ok (.getfield 25, 3) := by decide +kernel
theorem dX3_mix_137 : decode cX3_mix 137 = .ok (.iload_n 3, 1) := by decide +kernel
theorem dX3_mix_138 : decode cX3_mix 138 = .ok (.iaload, 1) := by decide +kernel
theorem dX3_mix_139 : decode cX3_mix 139 = .ok (.iadd, 1) := by decide +kernel
theorem dX3_mix_140 : decode cX3_mix 140 = .ok (.putfield 31, 3) := by decide +kernel
theorem dX3_mix_143 : decode cX3_mix 143 = .ok (.iinc 3 1, 3) := by decide +kernel
theorem dX3_mix_146 : decode cX3_mix 146 = .ok (.goto (-47), 3) := by decide +kernel
theorem dX3_mix_149 : decode cX3_mix 149 = .ok (.return_, 1) := by decide +kernel
theorem dX3_addChannel_0 : decode cX3_addChannel 0 = .ok (.aload_n 1, 1) := by decide +kernel
theorem dX3_addChannel_1 : decode cX3_addChannel 1 = .ok (.getfield 47, 3) := by decide +kernel
theorem dX3_addChannel_4 : decode cX3_addChannel 4 = .ok (.ifCond .le 10, 3) := by decide +kernel
theorem dX3_addChannel_7 : decode cX3_addChannel 7 = .ok (.aload_n 0, 1) := by decide +kernel
theorem dX3_addChannel_8 : decode cX3_addChannel 8 = .ok (.getfield 9, 3) := by decide +kernel
theorem dX3_addChannel_11 : decode cX3_addChannel 11 = .ok (.ifCond .gt 4, 3) := by decide +kernel
theorem dX3_addChannel_14 : decode cX3_addChannel 14 = .ok (.return_, 1) := by decide +kernel
theorem dX3_addChannel_15 : decode cX3_addChannel 15 = .ok (.ldc2_w 52, 3) := by decide +kernel
theorem dX3_addChannel_18 : decode cX3_addChannel 18 = .ok (.aload_n 1, 1) := by decide +kernel
theorem dX3_addChannel_19 : decode cX3_addChannel 19 = .ok (.getfield 47, 3) := by decide +kernel
theorem dX3_addChannel_22 : decode cX3_addChannel 22 = .ok (.i2l, 1) := by decide +kernel
theorem dX3_addChannel_23 : decode cX3_addChannel 23 = .ok (.aload_n 0, 1) := by decide +kernel
theorem dX3_addChannel_24 : decode cX3_addChannel 24 = .ok (.getfield 9, 3) := by decide +kernel
theorem dX3_addChannel_27 : decode cX3_addChannel 27 = .ok (.i2l, 1) := by decide +kernel
theorem dX3_addChannel_28 : decode cX3_addChannel 28 = .ok (.lmul, 1) := by decide +kernel
theorem dX3_addChannel_29 : decode cX3_addChannel 29 = .ok (.ldiv, 1) := by decide +kernel
theorem dX3_addChannel_30 : decode cX3_addChannel 30 = .ok (.lstore_n 3, 1) := by decide +kernel
theorem dX3_addChannel_31 : decode cX3_addChannel 31 = .ok (.aload_n 1, 1) := by decide +kernel
theorem dX3_addChannel_32 : decode cX3_addChannel 32 = .ok (.getfield 54, 3) := by decide +kernel
theorem dX3_addChannel_35 : decode cX3_addChannel 35 = .ok (.ifCond .eq 7, 3) := by decide +kernel
theorem dX3_addChannel_38 : decode cX3_addChannel 38 = .ok (.iconst 0, 1) := by decide +kernel
theorem dX3_addChannel_39 : decode cX3_addChannel 39 = .ok (.goto 7, 3) := by decide +kernel
theorem dX3_addChannel_42 : decode cX3_addChannel 42 = .ok (.aload_n 1, 1) := by decide +kernel
theorem dX3_addChannel_43 : decode cX3_addChannel 43 = .ok (.getfield 58, 3) := by decide +kernel
theorem dX3_addChannel_46 : decode cX3_addChannel 46 = .ok (.istore 5, 2) := by decide +kernel
theorem dX3_addChannel_48 : decode cX3_addChannel 48 = .ok (.iconst 0, 1) := by decide +kernel
theorem dX3_addChannel_49 : decode cX3_addChannel 49 = .ok (.istore 6, 2) := by decide +kernel
theorem dX3_addChannel_51 : decode cX3_addChannel 51 = .ok (.iload 6, 2) := by decide +kernel
theorem dX3_addChannel_53 : decode cX3_addChannel 53 = .ok (.aload_n 0, 1) := by decide +kernel
theorem dX3_addChannel_54 : decode cX3_addChannel 54 = .ok (.getfield 28, 3) := by decide +kernel
theorem dX3_addChannel_57 : decode cX3_addChannel 57 = .ok (.if_icmp .ge 38, 3) := by decide +kernel
theorem dX3_addChannel_60 : decode cX3_addChannel 60 = .ok (.iload 6, 2) := by decide +kernel
theorem dX3_addChannel_62 : decode cX3_addChannel 62 = .ok (.aload_n 2, 1) := by decide +kernel
theorem dX3_addChannel_63 : decode cX3_addChannel 63 = .ok (.arraylength, 1) := by decide +kernel
theorem dX3_addChannel_64 : decode cX3_addChannel 64 = .ok (.if_icmp .ge 31, 3) := by decide +kernel
theorem dX3_addChannel_67 : decode cX3_addChannel 67 = .ok (.aload_n 1, 1) := by decide +kernel
theorem dX3_addChannel_68 : decode cX3_addChannel 68 = .ok (.getfield 61, 3) := by decide +kernel
theorem dX3_addChannel_71 : decode cX3_addChannel 71 = .ok (.ifCond .eq 24, 3) := by decide +kernel
theorem dX3_addChannel_74 : decode cX3_addChannel 74 = .ok (.aload_n 2, 1) := by decide +kernel
theorem dX3_addChannel_75 : decode cX3_addChannel 75 = .ok (.iload 6, 2) := by decide +kernel
theorem dX3_addChannel_77 : decode cX3_addChannel 77 = .ok (.dup2, 1) := by decide +kernel
theorem dX3_addChannel_78 : decode cX3_addChannel 78 = .ok (.iaload, 1) := by decide +kernel
theorem dX3_addChannel_79 : decode cX3_addChannel 79 = .ok (.aload_n 1, 1) := by decide +kernel
theorem dX3_addChannel_80 : decode cX3_addChannel 80 = .ok (.lload_n 3, 1) := by decide +kernel
theorem dX3_addChannel_81 : decode cX3_addChannel 81 = .ok (.invokevirtual 64, 3) := by decide +kernel
theorem dX3_addChannel_84 : decode cX3_addChannel 84 = .ok (.iload 5, 2) := by decide +kernel
theorem dX3_addChannel_86 : decode cX3_addChannel 86 = .ok (.imul, 1) := by decide +kernel
theorem dX3_addChannel_87 : decode cX3_addChannel 87 = .ok (.iadd, 1) := by decide +kernel
theorem dX3_addChannel_88 : decode cX3_addChannel 88 = .ok (.iastore, 1) := by decide +kernel
theorem dX3_addChannel_89 : decode cX3_addChannel 89 = .ok (.iinc 6 1, 3) := by decide +kernel
theorem dX3_addChannel_92 : decode cX3_addChannel 92 = .ok (.goto (-41), 3) := by decide +kernel
theorem dX3_addChannel_95 : decode cX3_addChannel 95 = .ok (.return_, 1) := by decide +kernel
theorem dX4_init_0 : decode cX4_init 0 = .ok (.aload_n 0, 1) := by decide +kernel
theorem dX4_init_1 : decode cX4_init 1 = .ok (.invokespecial 5, 3) := by decide +kernel
theorem dX4_init_4 : decode cX4_init 4 = .ok (.aload_n 0, 1) := by decide +kernel
theorem dX4_init_5 : decode cX4_init 5 = .ok (.iconst 0, 1) := by decide +kernel
theorem dX4_init_6 : decode cX4_init 6 = .ok (.putfield 11, 3) := by decide +kernel
theorem dX4_init_9 : decode cX4_init 9 = .ok (.aload_n 0, 1) := by decide +kernel
theorem dX4_init_10 : decode cX4_init 10 = .ok (.iconst (-1), 1) := by decide +kernel
theorem dX4_init_11 : decode cX4_init 11 = .ok (.putfield 15, 3) := by decide +kernel
theorem dX4_init_14 : decode cX4_init 14 = .ok (.return_, 1) := by decide +kernel
theorem dX4_markByte_0 : decode cX4_markByte 0 = .ok (.iload_n 0, 1) := by decide +kernel
theorem dX4_markByte_1 : decode cX4_markByte 1 = .ok (.iconst 4, 1) := by decide +kernel
theorem dX4_markByte_2 : decode cX4_markByte 2 = .ok (.invokestatic 18, 3) := by decide +kernel
theorem dX4_markByte_5 : decode cX4_markByte 5 = .ok (.ifCond .eq 11, 3) := by decide +kernel
theorem dX4_markByte_8 : decode cX4_markByte 8 = .ok (.getstatic 22, 3) := by decide +kernel
theorem dX4_markByte_11 : decode cX4_markByte 11 = .ok (.iload_n 0, 1) := by decide +kernel
theorem dX4_markByte_12 : decode cX4_markByte 12 = .ok (.iaload, 1) := by decide +kernel
theorem dX4_markByte_13 : decode cX4_markByte 13 = .ok (.goto 4, 3) := by decide +kernel
theorem dX4_markByte_16 : decode cX4_markByte 16 = .ok (.iconst (-1), 1) := by decide +kernel
theorem dX4_markByte_17 : decode cX4_markByte 17 = .ok (.ireturn, 1) := by decide +kernel
theorem dX4_sampleAt_0 : decode cX4_sampleAt 0 = .ok (.bipush 20, 2) := by decide +kernel
theorem dX4_sampleAt_2 : decode cX4_sampleAt 2 = .ok (.bipush 30, 2) := by decide +kernel
theorem dX4_sampleAt_4 : decode cX4_sampleAt 4 = .ok (.iload_n 0, 1) := by decide +kernel
theorem dX4_sampleAt_5 : decode cX4_sampleAt 5 = .ok (.iconst 1, 1) := by decide +kernel
theorem dX4_sampleAt_6 : decode cX4_sampleAt 6 = .ok (.isub, 1) := by decide +kernel
theorem dX4_sampleAt_7 : decode cX4_sampleAt 7 = .ok (.imul, 1) := by decide +kernel
theorem dX4_sampleAt_8 : decode cX4_sampleAt 8 = .ok (.iadd, 1) := by decide +kernel
theorem dX4_sampleAt_9 : decode cX4_sampleAt 9 = .ok (.ireturn, 1) := by decide +kernel
theorem dX4_cellAt_0 : decode cX4_cellAt 0 = .ok (.iload_n 0, 1) := by decide +kernel
theorem dX4_cellAt_1 : decode cX4_cellAt 1 = .ok (.invokestatic 26, 3) := by decide +kernel
theorem dX4_cellAt_4 : decode cX4_cellAt 4 = .ok (.iload_n 1, 1) := by decide +kernel
theorem dX4_cellAt_5 : decode cX4_cellAt 5 = .ok (.iconst 4, 1) := by decide +kernel
theorem dX4_cellAt_6 : decode cX4_cellAt 6 = .ok (.imul, 1) := by decide +kernel
theorem dX4_cellAt_7 : decode cX4_cellAt 7 = .ok (.iload_n 2, 1) := by decide +kernel
theorem dX4_cellAt_8 : decode cX4_cellAt 8 = .ok (.iadd, 1) := by decide +kernel
theorem dX4_cellAt_9 : decode cX4_cellAt 9 = .ok (.iconst 4, 1) := by decide +kernel
theorem dX4_cellAt_10 : decode cX4_cellAt 10 = .ok (.imul, 1) := by decide +kernel
theorem dX4_cellAt_11 : decode cX4_cellAt 11 = .ok (.iadd, 1) := by decide +kernel
theorem dX4_cellAt_12 : decode cX4_cellAt 12 = .ok (.ireturn, 1) := by decide +kernel
theorem dX4_patternsEnd_0 : decode cX4_patternsEnd 0 = .ok (.sipush 1084, 3) := by decide +kernel
theorem dX4_patternsEnd_3 : decode cX4_patternsEnd 3 = .ok (.sipush 1024, 3) := by decide +kernel
theorem dX4_patternsEnd_6 : decode cX4_patternsEnd 6 = .ok (.iload_n 0, 1) := by decide +kernel
theorem dX4_patternsEnd_7 : decode cX4_patternsEnd 7 = .ok (.imul, 1) := by decide +kernel
theorem dX4_patternsEnd_8 : decode cX4_patternsEnd 8 = .ok (.iadd, 1) := by decide +kernel
theorem dX4_patternsEnd_9 : decode cX4_patternsEnd 9 = .ok (.ireturn, 1) := by decide +kernel
theorem dX4_accepts_0 : decode cX4_accepts 0 = .ok (.aload_n 1, 1) := by decide +kernel
theorem dX4_accepts_1 : decode cX4_accepts 1 = .ok (.getfield 30, 3) := by decide +kernel
theorem dX4_accepts_4 : decode cX4_accepts 4 = .ok (.sipush 1084, 3) := by decide +kernel
theorem dX4_accepts_7 : decode cX4_accepts 7 = .ok (.if_icmp .ge 13, 3) := by decide +kernel
theorem dX4_accepts_10 : decode cX4_accepts 10 = .ok (.aload_n 0, 1) := by decide +kernel
theorem dX4_accepts_11 : decode cX4_accepts 11 = .ok (.iconst 1, 1) := by decide +kernel
theorem dX4_accepts_12 : decode cX4_accepts 12 = .ok (.aload_n 1, 1) := by decide +kernel
theorem dX4_accepts_13 : decode cX4_accepts 13 = .ok (.getfield 30, 3) := by decide +kernel
theorem dX4_accepts_16 : decode cX4_accepts 16 = .ok (.invokevirtual 35, 3) := by decide +kernel
theorem dX4_accepts_19 : decode cX4_accepts 19 = .ok (.ireturn, 1) := by decide +kernel
theorem dX4_accepts_20 : decode cX4_accepts 20 = .ok (.aload_n 1, 1) := by decide +kernel
theorem dX4_accepts_21 : decode cX4_accepts 21 = .ok (.invokestatic 38, 3) := by decide +kernel
theorem dX4_accepts_24 : decode cX4_accepts 24 = .ok (.istore_n 2, 1) := by decide +kernel
theorem dX4_accepts_25 : decode cX4_accepts 25 = .ok (.iload_n 2, 1) := by decide +kernel
theorem dX4_accepts_26 : decode cX4_accepts 26 = .ok (.iconst (-1), 1) := by decide +kernel
theorem dX4_accepts_27 : decode cX4_accepts 27 = .ok (.if_icmp .eq 10, 3) := by decide +kernel
theorem dX4_accepts_30 : decode cX4_accepts 30 = .ok (.aload_n 0, 1) := by decide +kernel
theorem dX4_accepts_31 : decode cX4_accepts 31 = .ok (.iconst 2, 1) := by decide +kernel
theorem dX4_accepts_32 : decode cX4_accepts 32 = .ok (.iload_n 2, 1) := by decide +kernel
theorem dX4_accepts_33 : decode cX4_accepts 33 = .ok (.invokevirtual 35, 3) := by decide +kernel
theorem dX4_accepts_36 : decode cX4_accepts 36 = .ok (.ireturn, 1) := by decide +kernel
theorem dX4_accepts_37 : decode cX4_accepts 37 = .ok (.aload_n 1, 1) := by decide +kernel
theorem dX4_accepts_38 : decode cX4_accepts 38 = .ok (.invokestatic 42, 3) := by decide +kernel
theorem dX4_accepts_41 : decode cX4_accepts 41 = .ok (.istore_n 2, 1) := by decide +kernel
theorem dX4_accepts_42 : decode cX4_accepts 42 = .ok (.iload_n 2, 1) := by decide +kernel
theorem dX4_accepts_43 : decode cX4_accepts 43 = .ok (.iconst (-1), 1) := by decide +kernel
theorem dX4_accepts_44 : decode cX4_accepts 44 = .ok (.if_icmp .ne 8, 3) := by decide +kernel
theorem dX4_accepts_47 : decode cX4_accepts 47 = .ok (.aload_n 1, 1) := by decide +kernel
theorem dX4_accepts_48 : decode cX4_accepts 48 = .ok (.invokestatic 45, 3) := by decide +kernel
theorem dX4_accepts_51 : decode cX4_accepts 51 = .ok (.istore_n 2, 1) := by decide +kernel
theorem dX4_accepts_52 : decode cX4_accepts 52 = .ok (.iload_n 2, 1) := by decide +kernel
theorem dX4_accepts_53 : decode cX4_accepts 53 = .ok (.iconst (-1), 1) := by decide +kernel
theorem dX4_accepts_54 : decode cX4_accepts 54 = .ok (.if_icmp .eq 10, 3) := by decide +kernel
theorem dX4_accepts_57 : decode cX4_accepts 57 = .ok (.aload_n 0, 1) := by decide +kernel
theorem dX4_accepts_58 : decode cX4_accepts 58 = .ok (.iconst 3, 1) := by decide +kernel
theorem dX4_accepts_59 : decode cX4_accepts 59 = .ok (.iload_n 2, 1) := by decide +kernel
theorem dX4_accepts_60 : decode cX4_accepts 60 = .ok (.invokevirtual 35, 3) := by decide +kernel
theorem dX4_accepts_63 : decode cX4_accepts 63 = .ok (.ireturn, 1) := by decide +kernel
theorem dX4_accepts_64 : decode cX4_accepts 64 = .ok (.aload_n 1, 1) := by decide +kernel
theorem dX4_accepts_65 : decode cX4_accepts 65 = .ok (.getfield 30, 3) := by decide +kernel
theorem dX4_accepts_68 : decode cX4_accepts 68 = .ok (.aload_n 1, 1) := by decide +kernel
theorem dX4_accepts_69 : decode cX4_accepts 69 = .ok (.invokestatic 48, 3) := by decide +kernel
theorem dX4_accepts_72 : decode cX4_accepts 72 = .ok (.if_icmp .ge 13, 3) := by decide +kernel
theorem dX4_accepts_75 : decode cX4_accepts 75 = .ok (.aload_n 0, 1) := by decide +kernel
theorem dX4_accepts_76 : decode cX4_accepts 76 = .ok (.iconst 4, 1) := by decide +kernel
theorem dX4_accepts_77 : decode cX4_accepts 77 = .ok (.aload_n 1, 1) := by decide +kernel
theorem dX4_accepts_78 : decode cX4_accepts 78 = .ok (.getfield 30, 3) := by decide +kernel
theorem dX4_accepts_81 : decode cX4_accepts 81 = .ok (.invokevirtual 35, 3) := by decide +kernel
theorem dX4_accepts_84 : decode cX4_accepts 84 = .ok (.ireturn, 1) := by decide +kernel
theorem dX4_accepts_85 : decode cX4_accepts 85 = .ok (.aload_n 0, 1) := by decide +kernel
theorem dX4_accepts_86 : decode cX4_accepts 86 = .ok (.iconst 0, 1) := by decide +kernel
theorem dX4_accepts_87 : decode cX4_accepts 87 = .ok (.putfield 11, 3) := by decide +kernel
theorem dX4_accepts_90 : decode cX4_accepts 90 = .ok (.aload_n 0, 1) := by decide +kernel
theorem dX4_accepts_91 : decode cX4_accepts 91 = .ok (.iconst (-1), 1) := by decide +kernel
theorem dX4_accepts_92 : decode cX4_accepts 92 = .ok (.putfield 15, 3) := by decide +kernel
theorem dX4_accepts_95 : decode cX4_accepts 95 = .ok (.iconst 1, 1) := by decide +kernel
theorem dX4_accepts_96 : decode cX4_accepts 96 = .ok (.ireturn, 1) := by decide +kernel
theorem dX4_refuse_0 : decode cX4_refuse 0 = .ok (.aload_n 0, 1) := by decide +kernel
theorem dX4_refuse_1 : decode cX4_refuse 1 = .ok (.iload_n 1, 1) := by decide +kernel
theorem dX4_refuse_2 : decode cX4_refuse 2 = .ok (.putfield 11, 3) := by decide +kernel
theorem dX4_refuse_5 : decode cX4_refuse 5 = .ok (.aload_n 0, 1) := by decide +kernel
theorem dX4_refuse_6 : decode cX4_refuse 6 = .ok (.iload_n 2, 1) := by decide +kernel
theorem dX4_refuse_7 : decode cX4_refuse 7 = .ok (.putfield 15, 3) := by decide +kernel
theorem dX4_refuse_10 : decode cX4_refuse 10 = .ok (.iconst 0, 1) := by decide +kernel
theorem dX4_refuse_11 : decode cX4_refuse 11 = .ok (.ireturn, 1) := by decide +kernel
theorem dX4_wrongMark_0 : decode cX4_wrongMark 0 = .ok (.iconst 0, 1) := by decide +kernel
theorem dX4_wrongMark_1 : decode cX4_wrongMark 1 = .ok (.istore_n 1, 1) := by decide +kernel
theorem dX4_wrongMark_2 : decode cX4_wrongMark 2 = .ok (.iload_n 1, 1) := by decide +kernel
theorem dX4_wrongMark_3 : decode cX4_wrongMark 3 = .ok (.iconst 4, 1) := by decide +kernel
theorem dX4_wrongMark_4 : decode cX4_wrongMark 4 = .ok (.if_icmp .ge 31, 3) := by decide +kernel
theorem dX4_wrongMark_7 : decode cX4_wrongMark 7 = .ok (.aload_n 0, 1) := by decide +kernel
theorem dX4_wrongMark_8 : decode cX4_wrongMark 8 = .ok (.sipush 1080, 3) := by decide +kernel
theorem dX4_wrongMark_11 : decode cX4_wrongMark 11 = .ok (.iload_n 1, 1) := by decide +kernel
theorem dX4_wrongMark_12 : decode cX4_wrongMark 12 = .ok (.iadd, 1) := by decide +kernel
theorem dX4_wrongMark_13 : decode cX4_wrongMark 13 = .ok (.invokevirtual 51, 3) := by decide +kernel
theorem dX4_wrongMark_16 : decode cX4_wrongMark 16 = .ok (.iload_n 1, 1) := by decide +kernel
theorem dX4_wrongMark_17 : decode cX4_wrongMark 17 = .ok (.invokestatic 54, 3) := by decide +kernel
theorem dX4_wrongMark_20 : decode cX4_wrongMark 20 = .ok (.if_icmp .eq 9, 3) := by decide +kernel
theorem dX4_wrongMark_23 : decode cX4_wrongMark 23 = .ok (.sipush 1080, 3) := by decide +kernel
theorem dX4_wrongMark_26 : decode cX4_wrongMark 26 = .ok (.iload_n 1, 1) := by decide +kernel
theorem dX4_wrongMark_27 : decode cX4_wrongMark 27 = .ok (.iadd, 1) := by decide +kernel
theorem dX4_wrongMark_28 : decode cX4_wrongMark 28 = .ok (.ireturn, 1) := by decide +kernel
theorem dX4_wrongMark_29 : decode cX4_wrongMark 29 = .ok (.iinc 1 1, 3) := by decide +kernel
theorem dX4_wrongMark_32 : decode cX4_wrongMark 32 = .ok (.goto (-30), 3) := by decide +kernel
theorem dX4_wrongMark_35 : decode cX4_wrongMark 35 = .ok (.iconst (-1), 1) := by decide +kernel
theorem dX4_wrongMark_36 : decode cX4_wrongMark 36 = .ok (.ireturn, 1) := by decide +kernel
theorem dX4_wrongSample_0 : decode cX4_wrongSample 0 = .ok (.iconst 0, 1) := by decide +kernel
theorem dX4_wrongSample_1 : decode cX4_wrongSample 1 = .ok (.istore_n 1, 1) := by decide +kernel
theorem dX4_wrongSample_2 : decode cX4_wrongSample 2 = .ok (.iconst 1, 1) := by decide +kernel
theorem dX4_wrongSample_3 : decode cX4_wrongSample 3 = .ok (.istore_n 2, 1) := by decide +kernel
theorem dX4_wrongSample_4 : decode cX4_wrongSample 4 = .ok (.iload_n 2, 1) := by decide +kernel
theorem dX4_wrongSample_5 : decode cX4_wrongSample 5 = .ok (.bipush 31, 2) := by decide +kernel
theorem dX4_wrongSample_7 : decode cX4_wrongSample 7 = .ok (.if_icmp .gt 122, 3) := by decide +kernel
theorem dX4_wrongSample_10 : decode cX4_wrongSample 10 = .ok (.iload_n 2, 1) := by decide +kernel
theorem dX4_wrongSample_11 : decode cX4_wrongSample 11 = .ok (.invokestatic 57, 3) := by decide +kernel
theorem dX4_wrongSample_14 : decode cX4_wrongSample 14 = .ok (.istore_n 3, 1) := by decide +kernel
theorem dX4_wrongSample_15 : decode cX4_wrongSample 15 = .ok (.iconst 2, 1) := by decide +kernel
theorem dX4_wrongSample_16 : decode cX4_wrongSample 16 = .ok (.aload_n 0, 1) := by decide +kernel
theorem dX4_wrongSample_17 : decode cX4_wrongSample 17 = .ok (.iload_n 3, 1) := by decide +kernel
theorem dX4_wrongSample_18 : decode cX4_wrongSample 18 = .ok (.bipush 22, 2) := by decide +kernel
theorem dX4_wrongSample_20 : decode cX4_wrongSample 20 = .ok (.iadd, 1) := by decide +kernel
theorem dX4_wrongSample_21 : decode cX4_wrongSample 21 = .ok (.invokevirtual 60, 3) := by decide +kernel
theorem dX4_wrongSample_24 : decode cX4_wrongSample 24 = .ok (.imul, 1) := by decide +kernel
theorem dX4_wrongSample_25 : decode cX4_wrongSample 25 = .ok (.istore 4, 2) := by decide +kernel
theorem dX4_wrongSample_27 : decode cX4_wrongSample 27 = .ok (.iload 4, 2) := by decide +kernel
theorem dX4_wrongSample_29 : decode cX4_wrongSample 29 = .ok (.iload_n 1, 1) := by decide +kernel
theorem dX4_wrongSample_30 : decode cX4_wrongSample 30 = .ok (.invokestatic 63, 3) := by decide +kernel
theorem dX4_wrongSample_33 : decode cX4_wrongSample 33 = .ok (.ifCond .ne 8, 3) := by decide +kernel
theorem dX4_wrongSample_36 : decode cX4_wrongSample 36 = .ok (.iload_n 3, 1) := by decide +kernel
theorem dX4_wrongSample_37 : decode cX4_wrongSample 37 = .ok (.bipush 22, 2) := by decide +kernel
theorem dX4_wrongSample_39 : decode cX4_wrongSample 39 = .ok (.iadd, 1) := by decide +kernel
theorem dX4_wrongSample_40 : decode cX4_wrongSample 40 = .ok (.ireturn, 1) := by decide +kernel
theorem dX4_wrongSample_41 : decode cX4_wrongSample 41 = .ok (.iload_n 1, 1) := by decide +kernel
theorem dX4_wrongSample_42 : decode cX4_wrongSample 42 = .ok (.iload 4, 2) := by decide +kernel
theorem dX4_wrongSample_44 : decode cX4_wrongSample 44 = .ok (.iadd, 1) := by decide +kernel
theorem dX4_wrongSample_45 : decode cX4_wrongSample 45 = .ok (.istore_n 1, 1) := by decide +kernel
theorem dX4_wrongSample_46 : decode cX4_wrongSample 46 = .ok (.aload_n 0, 1) := by decide +kernel
theorem dX4_wrongSample_47 : decode cX4_wrongSample 47 = .ok (.iload_n 3, 1) := by decide +kernel
theorem dX4_wrongSample_48 : decode cX4_wrongSample 48 = .ok (.bipush 24, 2) := by decide +kernel
theorem dX4_wrongSample_50 : decode cX4_wrongSample 50 = .ok (.iadd, 1) := by decide +kernel
theorem dX4_wrongSample_51 : decode cX4_wrongSample 51 = .ok (.invokevirtual 51, 3) := by decide +kernel
theorem dX4_wrongSample_54 : decode cX4_wrongSample 54 = .ok (.bipush 15, 2) := by decide +kernel
theorem dX4_wrongSample_56 : decode cX4_wrongSample 56 = .ok (.if_icmp .le 8, 3) := by decide +kernel
theorem dX4_wrongSample_59 : decode cX4_wrongSample 59 = .ok (.iload_n 3, 1) := by decide +kernel
theorem dX4_wrongSample_60 : decode cX4_wrongSample 60 = .ok (.bipush 24, 2) := by decide +kernel
theorem dX4_wrongSample_62 : decode cX4_wrongSample 62 = .ok (.iadd, 1) := by decide +kernel
theorem dX4_wrongSample_63 : decode cX4_wrongSample 63 = .ok (.ireturn, 1) := by decide +kernel
theorem dX4_wrongSample_64 : decode cX4_wrongSample 64 = .ok (.aload_n 0, 1) := by decide +kernel
theorem dX4_wrongSample_65 : decode cX4_wrongSample 65 = .ok (.iload_n 3, 1) := by decide +kernel
theorem dX4_wrongSample_66 : decode cX4_wrongSample 66 = .ok (.bipush 25, 2) := by decide +kernel
theorem dX4_wrongSample_68 : decode cX4_wrongSample 68 = .ok (.iadd, 1) := by decide +kernel
theorem dX4_wrongSample_69 : decode cX4_wrongSample 69 = .ok (.invokevirtual 51, 3) := by decide +kernel
theorem dX4_wrongSample_72 : decode cX4_wrongSample 72 = .ok (.bipush 64, 2) := by decide +kernel
theorem dX4_wrongSample_74 : decode cX4_wrongSample 74 = .ok (.if_icmp .le 8, 3) := by decide +kernel
theorem dX4_wrongSample_77 : decode cX4_wrongSample 77 = .ok (.iload_n 3, 1) := by decide +kernel
theorem dX4_wrongSample_78 : decode cX4_wrongSample 78 = .ok (.bipush 25, 2) := by decide +kernel
theorem dX4_wrongSample_80 : decode cX4_wrongSample 80 = .ok (.iadd, 1) := by decide +kernel
theorem dX4_wrongSample_81 : decode cX4_wrongSample 81 = .ok (.ireturn, 1) := by decide +kernel
theorem dX4_wrongSample_82 : decode cX4_wrongSample 82 = .ok (.iconst 2, 1) := by decide +kernel
theorem dX4_wrongSample_83 : decode cX4_wrongSample 83 = .ok (.aload_n 0, 1) := by decide +kernel
theorem dX4_wrongSample_84 : decode cX4_wrongSample 84 = .ok (.iload_n 3, 1) := by decide +kernel
theorem dX4_wrongSample_85 : decode cX4_wrongSample 85 = .ok (.bipush 26, 2) := by decide +kernel
theorem dX4_wrongSample_87 : decode cX4_wrongSample 87 = .ok (.iadd, 1) := by decide +kernel
theorem dX4_wrongSample_88 : decode cX4_wrongSample 88 = .ok (.invokevirtual 60, 3) := by decide +kernel
theorem dX4_wrongSample_91 : decode cX4_wrongSample 91 = .ok (.imul, 1) := by decide +kernel
theorem dX4_wrongSample_92 : decode cX4_wrongSample 92 = .ok (.istore 5, 2) := by decide +kernel
theorem dX4_wrongSample_94 : decode cX4_wrongSample 94 = .ok (.iconst 2, 1) := by decide +kernel
theorem dX4_wrongSample_95 : decode cX4_wrongSample 95 = .ok (.aload_n 0, 1) := by decide +kernel
theorem dX4_wrongSample_96 : decode cX4_wrongSample 96 = .ok (.iload_n 3, 1) := by decide +kernel
theorem dX4_wrongSample_97 : decode cX4_wrongSample 97 = .ok (.bipush 28, 2) := by decide +kernel
theorem dX4_wrongSample_99 : decode cX4_wrongSample 99 = .ok (.iadd, 1) := by decide +kernel
theorem dX4_wrongSample_100 : decode cX4_wrongSample 100 = .ok (.invokevirtual 60, 3) := by decide +kernel
theorem dX4_wrongSample_103 : decode cX4_wrongSample 103 = .ok (.imul, 1) := by decide +kernel
theorem dX4_wrongSample_104 : decode cX4_wrongSample 104 = .ok (.istore 6, 2) := by decide +kernel
theorem dX4_wrongSample_106 : decode cX4_wrongSample 106 = .ok (.iload 4, 2) := by decide +kernel
theorem dX4_wrongSample_108 : decode cX4_wrongSample 108 = .ok (.iload 5, 2) := by decide +kernel
theorem dX4_wrongSample_110 : decode cX4_wrongSample 110 = .ok (.iload 6, 2) := by decide +kernel
theorem dX4_wrongSample_112 : decode cX4_wrongSample 112 = .ok (.invokestatic 68, 3) := by decide +kernel
theorem dX4_wrongSample_115 : decode cX4_wrongSample 115 = .ok (.ifCond .ne 8, 3) := by decide +kernel
theorem dX4_wrongSample_118 : decode cX4_wrongSample 118 = .ok (.iload_n 3, 1) := by decide +kernel
theorem dX4_wrongSample_119 : decode cX4_wrongSample 119 = .ok (.bipush 26, 2) := by decide +kernel
theorem dX4_wrongSample_121 : decode cX4_wrongSample 121 = .ok (.iadd, 1) := by decide +kernel
theorem dX4_wrongSample_122 : decode cX4_wrongSample 122 = .ok (.ireturn, 1) := by decide +kernel
theorem dX4_wrongSample_123 : decode cX4_wrongSample 123 = .ok (.iinc 2 1, 3) := by decide +kernel
theorem dX4_wrongSample_126 : decode cX4_wrongSample 126 = .ok (.goto (-122), 3) := by decide +kernel
theorem dX4_wrongSample_129 : decode cX4_wrongSample 129 = .ok (.iconst (-1), 1) := by decide +kernel
theorem dX4_wrongSample_130 : decode cX4_wrongSample 130 = .ok (.ireturn, 1) := by decide +kernel
theorem dX4_wrongSong_0 : decode cX4_wrongSong 0 = .ok (.aload_n 0, 1) := by decide +kernel
theorem dX4_wrongSong_1 : decode cX4_wrongSong 1 = .ok (.sipush 950, 3) := by decide +kernel
theorem dX4_wrongSong_4 : decode cX4_wrongSong 4 = .ok (.invokevirtual 51, 3) := by decide +kernel
theorem dX4_wrongSong_7 : decode cX4_wrongSong 7 = .ok (.istore_n 1, 1) := by decide +kernel
theorem dX4_wrongSong_8 : decode cX4_wrongSong 8 = .ok (.iload_n 1, 1) := by decide +kernel
theorem dX4_wrongSong_9 : decode cX4_wrongSong 9 = .ok (.iconst 1, 1) := by decide +kernel
theorem dX4_wrongSong_10 : decode cX4_wrongSong 10 = .ok (.if_icmp .lt 10, 3) := by decide +kernel
theorem dX4_wrongSong_13 : decode cX4_wrongSong 13 = .ok (.iload_n 1, 1) := by decide +kernel
theorem dX4_wrongSong_14 : decode cX4_wrongSong 14 = .ok (.sipush 128, 3) := by decide +kernel
theorem dX4_wrongSong_17 : decode cX4_wrongSong 17 = .ok (.if_icmp .le 7, 3) := by decide +kernel
theorem dX4_wrongSong_20 : decode cX4_wrongSong 20 = .ok (.sipush 950, 3) := by decide +kernel
theorem dX4_wrongSong_23 : decode cX4_wrongSong 23 = .ok (.ireturn, 1) := by decide +kernel
theorem dX4_wrongSong_24 : decode cX4_wrongSong 24 = .ok (.iconst 0, 1) := by decide +kernel
theorem dX4_wrongSong_25 : decode cX4_wrongSong 25 = .ok (.istore_n 2, 1) := by decide +kernel
theorem dX4_wrongSong_26 : decode cX4_wrongSong 26 = .ok (.iload_n 2, 1) := by decide +kernel
theorem dX4_wrongSong_27 : decode cX4_wrongSong 27 = .ok (.iload_n 1, 1) := by decide +kernel
theorem dX4_wrongSong_28 : decode cX4_wrongSong 28 = .ok (.if_icmp .ge 29, 3) := by decide +kernel
theorem dX4_wrongSong_31 : decode cX4_wrongSong 31 = .ok (.aload_n 0, 1) := by decide +kernel
theorem dX4_wrongSong_32 : decode cX4_wrongSong 32 = .ok (.sipush 952, 3) := by decide +kernel
theorem dX4_wrongSong_35 : decode cX4_wrongSong 35 = .ok (.iload_n 2, 1) := by decide +kernel
theorem dX4_wrongSong_36 : decode cX4_wrongSong 36 = .ok (.iadd, 1) := by decide +kernel
theorem dX4_wrongSong_37 : decode cX4_wrongSong 37 = .ok (.invokevirtual 51, 3) := by decide +kernel
theorem dX4_wrongSong_40 : decode cX4_wrongSong 40 = .ok (.bipush 8, 2) := by decide +kernel
theorem dX4_wrongSong_42 : decode cX4_wrongSong 42 = .ok (.if_icmp .lt 9, 3) := by decide +kernel
theorem dX4_wrongSong_45 : decode cX4_wrongSong 45 = .ok (.sipush 952, 3) := by decide +kernel
theorem dX4_wrongSong_48 : decode cX4_wrongSong 48 = .ok (.iload_n 2, 1) := by decide +kernel
theorem dX4_wrongSong_49 : decode cX4_wrongSong 49 = .ok (.iadd, 1) := by decide +kernel
theorem dX4_wrongSong_50 : decode cX4_wrongSong 50 = .ok (.ireturn, 1) := by decide +kernel
theorem dX4_wrongSong_51 : decode cX4_wrongSong 51 = .ok (.iinc 2 1, 3) := by decide +kernel
theorem dX4_wrongSong_54 : decode cX4_wrongSong 54 = .ok (.goto (-28), 3) := by decide +kernel
theorem dX4_wrongSong_57 : decode cX4_wrongSong 57 = .ok (.iconst (-1), 1) := by decide +kernel
theorem dX4_wrongSong_58 : decode cX4_wrongSong 58 = .ok (.ireturn, 1) := by decide +kernel
theorem dX4_bytesNeeded_0 : decode cX4_bytesNeeded 0 = .ok (.aload_n 0, 1) := by decide +kernel
theorem dX4_bytesNeeded_1 : decode cX4_bytesNeeded 1 = .ok (.sipush 950, 3) := by decide +kernel
theorem dX4_bytesNeeded_4 : decode cX4_bytesNeeded 4 = .ok (.invokevirtual 51, 3) := by decide +kernel
theorem dX4_bytesNeeded_7 : decode cX4_bytesNeeded 7 = .ok (.istore_n 1, 1) := by decide +kernel
theorem dX4_bytesNeeded_8 : decode cX4_bytesNeeded 8 = .ok (.iconst 0, 1) := by decide +kernel
theorem dX4_bytesNeeded_9 : decode cX4_bytesNeeded 9 = .ok (.istore_n 2, 1) := by decide +kernel
theorem dX4_bytesNeeded_10 : decode cX4_bytesNeeded 10 = .ok (.iconst 0, 1) := by decide +kernel
theorem dX4_bytesNeeded_11 : decode cX4_bytesNeeded 11 = .ok (.istore_n 3, 1) := by decide +kernel
theorem dX4_bytesNeeded_12 : decode cX4_bytesNeeded 12 = .ok (.iload_n 3, 1) := by decide +kernel
theorem dX4_bytesNeeded_13 : decode cX4_bytesNeeded 13 = .ok (.iload_n 1, 1) := by decide +kernel
theorem dX4_bytesNeeded_14 : decode cX4_bytesNeeded 14 = .ok (.if_icmp .ge 30, 3) := by decide +kernel
theorem dX4_bytesNeeded_17 : decode cX4_bytesNeeded 17 = .ok (.iload_n 3, 1) := by decide +kernel
theorem dX4_bytesNeeded_18 : decode cX4_bytesNeeded 18 = .ok (.sipush 128, 3) := by decide +kernel
theorem dX4_bytesNeeded_21 : decode cX4_bytesNeeded 21 = .ok (.if_icmp .ge 23, 3) := by decide +kernel
theorem dX4_bytesNeeded_24 : decode cX4_bytesNeeded 24 = .ok (.iload_n 2, 1) := by decide +kernel
theorem dX4_bytesNeeded_25 : decode cX4_bytesNeeded 25 = .ok (.aload_n 0, 1) := by decide +kernel
theorem dX4_bytesNeeded_26 : decode cX4_bytesNeeded 26 = .ok (.sipush 952, 3) := by decide +kernel
theorem dX4_bytesNeeded_29 : decode cX4_bytesNeeded 29 = .ok (.iload_n 3, 1) := by decide +kernel
theorem dX4_bytesNeeded_30 : decode cX4_bytesNeeded 30 = .ok (.iadd, 1) := by decide +kernel
theorem dX4_bytesNeeded_31 : decode cX4_bytesNeeded 31 = .ok (.invokevirtual 51, 3) := by decide +kernel
theorem dX4_bytesNeeded_34 : decode cX4_bytesNeeded 34 = .ok (.invokestatic 74, 3) := by decide +kernel
theorem dX4_bytesNeeded_37 : decode cX4_bytesNeeded 37 = .ok (.istore_n 2, 1) := by decide +kernel
theorem dX4_bytesNeeded_38 : decode cX4_bytesNeeded 38 = .ok (.iinc 3 1, 3) := by decide +kernel
theorem dX4_bytesNeeded_41 : decode cX4_bytesNeeded 41 = .ok (.goto (-29), 3) := by decide +kernel
theorem dX4_bytesNeeded_44 : decode cX4_bytesNeeded 44 = .ok (.iload_n 2, 1) := by decide +kernel
theorem dX4_bytesNeeded_45 : decode cX4_bytesNeeded 45 = .ok (.iconst 1, 1) := by decide +kernel
theorem dX4_bytesNeeded_46 : decode cX4_bytesNeeded 46 = .ok (.iadd, 1) := by decide +kernel
theorem dX4_bytesNeeded_47 : decode cX4_bytesNeeded 47 = .ok (.invokestatic 26, 3) := by decide +kernel
theorem dX4_bytesNeeded_50 : decode cX4_bytesNeeded 50 = .ok (.istore_n 3, 1) := by decide +kernel
theorem dX4_bytesNeeded_51 : decode cX4_bytesNeeded 51 = .ok (.iconst 1, 1) := by decide +kernel
theorem dX4_bytesNeeded_52 : decode cX4_bytesNeeded 52 = .ok (.istore 4, 2) := by decide +kernel
theorem dX4_bytesNeeded_54 : decode cX4_bytesNeeded 54 = .ok (.iload 4, 2) := by decide +kernel
theorem dX4_bytesNeeded_56 : decode cX4_bytesNeeded 56 = .ok (.bipush 31, 2) := by decide +kernel
theorem dX4_bytesNeeded_58 : decode cX4_bytesNeeded 58 = .ok (.if_icmp .gt 26, 3) := by decide +kernel
theorem dX4_bytesNeeded_61 : decode cX4_bytesNeeded 61 = .ok (.iload_n 3, 1) := by decide +kernel
theorem dX4_bytesNeeded_62 : decode cX4_bytesNeeded 62 = .ok (.iconst 2, 1) := by decide +kernel
theorem dX4_bytesNeeded_63 : decode cX4_bytesNeeded 63 = .ok (.aload_n 0, 1) := by decide +kernel
theorem dX4_bytesNeeded_64 : decode cX4_bytesNeeded 64 = .ok (.iload 4, 2) := by decide +kernel
theorem dX4_bytesNeeded_66 : decode cX4_bytesNeeded 66 = .ok (.invokestatic 57, 3) := by decide +kernel
theorem dX4_bytesNeeded_69 : decode cX4_bytesNeeded 69 = .ok (.bipush 22, 2) := by decide +kernel
theorem dX4_bytesNeeded_71 : decode cX4_bytesNeeded 71 = .ok (.iadd, 1) := by decide +kernel
theorem dX4_bytesNeeded_72 : decode cX4_bytesNeeded 72 = .ok (.invokevirtual 60, 3) := by decide +kernel
theorem dX4_bytesNeeded_75 : decode cX4_bytesNeeded 75 = .ok (.imul, 1) := by decide +kernel
theorem dX4_bytesNeeded_76 : decode cX4_bytesNeeded 76 = .ok (.iadd, 1) := by decide +kernel
theorem dX4_bytesNeeded_77 : decode cX4_bytesNeeded 77 = .ok (.istore_n 3, 1) := by decide +kernel
theorem dX4_bytesNeeded_78 : decode cX4_bytesNeeded 78 = .ok (.iinc 4 1, 3) := by decide +kernel
theorem dX4_bytesNeeded_81 : decode cX4_bytesNeeded 81 = .ok (.goto (-27), 3) := by decide +kernel
theorem dX4_bytesNeeded_84 : decode cX4_bytesNeeded 84 = .ok (.iload_n 3, 1) := by decide +kernel
theorem dX4_bytesNeeded_85 : decode cX4_bytesNeeded 85 = .ok (.ireturn, 1) := by decide +kernel
theorem dX4_readSong_0 : decode cX4_readSong 0 = .ok (.aload_n 1, 1) := by decide +kernel
theorem dX4_readSong_1 : decode cX4_readSong 1 = .ok (.invokevirtual 80, 3) := by decide +kernel
theorem dX4_readSong_4 : decode cX4_readSong 4 = .ok (.aload_n 1, 1) := by decide +kernel
theorem dX4_readSong_5 : decode cX4_readSong 5 = .ok (.aload_n 0, 1) := by decide +kernel
theorem dX4_readSong_6 : decode cX4_readSong 6 = .ok (.sipush 950, 3) := by decide +kernel
theorem dX4_readSong_9 : decode cX4_readSong 9 = .ok (.invokevirtual 51, 3) := by decide +kernel
theorem dX4_readSong_12 : decode cX4_readSong 12 = .ok (.putfield 85, 3) := by decide +kernel
theorem dX4_readSong_15 : decode cX4_readSong 15 = .ok (.aload_n 1, 1) := by decide +kernel
theorem dX4_readSong_16 : decode cX4_readSong 16 = .ok (.aload_n 0, 1) := by decide +kernel
theorem dX4_readSong_17 : decode cX4_readSong 17 = .ok (.sipush 951, 3) := by decide +kernel
theorem dX4_readSong_20 : decode cX4_readSong 20 = .ok (.invokevirtual 51, 3) := by decide +kernel
theorem dX4_readSong_23 : decode cX4_readSong 23 = .ok (.putfield 86, 3) := by decide +kernel
theorem dX4_readSong_26 : decode cX4_readSong 26 = .ok (.iconst 0, 1) := by decide +kernel
theorem dX4_readSong_27 : decode cX4_readSong 27 = .ok (.istore_n 2, 1) := by decide +kernel
theorem dX4_readSong_28 : decode cX4_readSong 28 = .ok (.iload_n 2, 1) := by decide +kernel
theorem dX4_readSong_29 : decode cX4_readSong 29 = .ok (.aload_n 1, 1) := by decide +kernel
theorem dX4_readSong_30 : decode cX4_readSong 30 = .ok (.getfield 85, 3) := by decide +kernel
theorem dX4_readSong_33 : decode cX4_readSong 33 = .ok (.if_icmp .ge 31, 3) := by decide +kernel
theorem dX4_readSong_36 : decode cX4_readSong 36 = .ok (.iload_n 2, 1) := by decide +kernel
theorem dX4_readSong_37 : decode cX4_readSong 37 = .ok (.sipush 128, 3) := by decide +kernel
theorem dX4_readSong_40 : decode cX4_readSong 40 = .ok (.if_icmp .ge 24, 3) := by decide +kernel
theorem dX4_readSong_43 : decode cX4_readSong 43 = .ok (.aload_n 1, 1) := by decide +kernel
theorem dX4_readSong_44 : decode cX4_readSong 44 = .ok (.getfield 89, 3) := by decide +kernel
theorem dX4_readSong_47 : decode cX4_readSong 47 = .ok (.iload_n 2, 1) := by decide +kernel
theorem dX4_readSong_48 : decode cX4_readSong 48 = .ok (.aload_n 0, 1) := by decide +kernel
theorem dX4_readSong_49 : decode cX4_readSong 49 = .ok (.sipush 952, 3) := by decide +kernel
theorem dX4_readSong_52 : decode cX4_readSong 52 = .ok (.iload_n 2, 1) := by decide +kernel
theorem dX4_readSong_53 : decode cX4_readSong 53 = .ok (.iadd, 1) := by decide +kernel
theorem dX4_readSong_54 : decode cX4_readSong 54 = .ok (.invokevirtual 51, 3) := by decide +kernel
theorem dX4_readSong_57 : decode cX4_readSong 57 = .ok (.iastore, 1) := by decide +kernel
theorem dX4_readSong_58 : decode cX4_readSong 58 = .ok (.iinc 2 1, 3) := by decide +kernel
theorem dX4_readSong_61 : decode cX4_readSong 61 = .ok (.goto (-33), 3) := by decide +kernel
theorem dX4_readSong_64 : decode cX4_readSong 64 = .ok (.aload_n 1, 1) := by decide +kernel
theorem dX4_readSong_65 : decode cX4_readSong 65 = .ok (.invokevirtual 92, 3) := by decide +kernel
theorem dX4_readSong_68 : decode cX4_readSong 68 = .ok (.istore_n 2, 1) := by decide +kernel
theorem dX4_readSong_69 : decode cX4_readSong 69 = .ok (.iconst 0, 1) := by decide +kernel
theorem dX4_readSong_70 : decode cX4_readSong 70 = .ok (.istore_n 3, 1) := by decide +kernel
theorem dX4_readSong_71 : decode cX4_readSong 71 = .ok (.iload_n 3, 1) := by decide +kernel
theorem dX4_readSong_72 : decode cX4_readSong 72 = .ok (.iload_n 2, 1) := by decide +kernel
theorem dX4_readSong_73 : decode cX4_readSong 73 = .ok (.if_icmp .ge 15, 3) := by decide +kernel
theorem dX4_readSong_76 : decode cX4_readSong 76 = .ok (.aload_n 0, 1) := by decide +kernel
theorem dX4_readSong_77 : decode cX4_readSong 77 = .ok (.aload_n 1, 1) := by decide +kernel
theorem dX4_readSong_78 : decode cX4_readSong 78 = .ok (.iload_n 3, 1) := by decide +kernel
theorem dX4_readSong_79 : decode cX4_readSong 79 = .ok (.invokestatic 96, 3) := by decide +kernel
theorem dX4_readSong_82 : decode cX4_readSong 82 = .ok (.iinc 3 1, 3) := by decide +kernel
theorem dX4_readSong_85 : decode cX4_readSong 85 = .ok (.goto (-14), 3) := by decide +kernel
theorem dX4_readSong_88 : decode cX4_readSong 88 = .ok (.return_, 1) := by decide +kernel
theorem dX4_readPattern_0 : decode cX4_readPattern 0 = .ok (.iconst 0, 1) := by decide +kernel
theorem dX4_readPattern_1 : decode cX4_readPattern 1 = .ok (.istore_n 3, 1) := by decide +kernel
theorem dX4_readPattern_2 : decode cX4_readPattern 2 = .ok (.iload_n 3, 1) := by decide +kernel
theorem dX4_readPattern_3 : decode cX4_readPattern 3 = .ok (.bipush 64, 2) := by decide +kernel
theorem dX4_readPattern_5 : decode cX4_readPattern 5 = .ok (.if_icmp .ge 47, 3) := by decide +kernel
theorem dX4_readPattern_8 : decode cX4_readPattern 8 = .ok (.iconst 0, 1) := by decide +kernel
theorem dX4_readPattern_9 : decode cX4_readPattern 9 = .ok (.istore 4, 2) := by decide +kernel
theorem dX4_readPattern_11 : decode cX4_readPattern 11 = .ok (.iload 4, 2) := by decide +kernel
theorem dX4_readPattern_13 : decode cX4_readPattern 13 = .ok (.iconst 4, 1) := by decide +kernel
theorem dX4_readPattern_14 : decode cX4_readPattern 14 = .ok (.if_icmp .ge 32, 3) := by decide +kernel
theorem dX4_readPattern_17 : decode cX4_readPattern 17 = .ok (.iload_n 2, 1) := by decide +kernel
theorem dX4_readPattern_18 : decode cX4_readPattern 18 = .ok (.iload_n 3, 1) := by decide +kernel
theorem dX4_readPattern_19 : decode cX4_readPattern 19 = .ok (.iload 4, 2) := by decide +kernel
theorem dX4_readPattern_21 : decode cX4_readPattern 21 = .ok (.invokestatic 100, 3) := by decide +kernel
theorem dX4_readPattern_24 : decode cX4_readPattern 24 = .ok (.istore 5, 2) := by decide +kernel
theorem dX4_readPattern_26 : decode cX4_readPattern 26 = .ok (.aload_n 1, 1) := by decide +kernel
theorem dX4_readPattern_27 : decode cX4_readPattern 27 = .ok (.iload_n 2, 1) := by decide +kernel
theorem dX4_readPattern_28 : decode cX4_readPattern 28 = .ok (.iload_n 3, 1) := by decide +kernel
theorem dX4_readPattern_29 : decode cX4_readPattern 29 = .ok (.iload 4, 2) := by decide +kernel
theorem dX4_readPattern_31 : decode cX4_readPattern 31 = .ok (.aload_n 0, 1) := by decide +kernel
theorem dX4_readPattern_32 : decode cX4_readPattern 32 = .ok (.iload 5, 2) := by decide +kernel
theorem dX4_readPattern_34 : decode cX4_readPattern 34 = .ok (.invokestatic 104, 3) := by decide +kernel
theorem dX4_readPattern_37 : decode cX4_readPattern 37 = .ok (.invokevirtual 108, 3) := by decide +kernel
theorem dX4_readPattern_40 : decode cX4_readPattern 40 = .ok (.iinc 4 1, 3) := by decide +kernel
theorem dX4_readPattern_43 : decode cX4_readPattern 43 = .ok (.goto (-32), 3) := by decide +kernel
theorem dX4_readPattern_46 : decode cX4_readPattern 46 = .ok (.iinc 3 1, 3) := by decide +kernel
theorem dX4_readPattern_49 : decode cX4_readPattern 49 = .ok (.goto (-47), 3) := by decide +kernel
theorem dX4_readPattern_52 : decode cX4_readPattern 52 = .ok (.return_, 1) := by decide +kernel
theorem dX4_readCell_0 : decode cX4_readCell 0 = .ok (.aload_n 0, 1) := by decide +kernel
theorem dX4_readCell_1 : decode cX4_readCell 1 = .ok (.iload_n 1, 1) := by decide +kernel
theorem dX4_readCell_2 : decode cX4_readCell 2 = .ok (.invokevirtual 51, 3) := by decide +kernel
theorem dX4_readCell_5 : decode cX4_readCell 5 = .ok (.istore_n 2, 1) := by decide +kernel
theorem dX4_readCell_6 : decode cX4_readCell 6 = .ok (.aload_n 0, 1) := by decide +kernel
theorem dX4_readCell_7 : decode cX4_readCell 7 = .ok (.iload_n 1, 1) := by decide +kernel
theorem dX4_readCell_8 : decode cX4_readCell 8 = .ok (.iconst 2, 1) := by decide +kernel
theorem dX4_readCell_9 : decode cX4_readCell 9 = .ok (.iadd, 1) := by decide +kernel
theorem dX4_readCell_10 : decode cX4_readCell 10 = .ok (.invokevirtual 51, 3) := by decide +kernel
theorem dX4_readCell_13 : decode cX4_readCell 13 = .ok (.istore_n 3, 1) := by decide +kernel
theorem dX4_readCell_14 : decode cX4_readCell 14 = .ok (.iload_n 2, 1) := by decide +kernel
theorem dX4_readCell_15 : decode cX4_readCell 15 = .ok (.bipush 15, 2) := by decide +kernel
theorem dX4_readCell_17 : decode cX4_readCell 17 = .ok (.iand, 1) := by decide +kernel
theorem dX4_readCell_18 : decode cX4_readCell 18 = .ok (.bipush 8, 2) := by decide +kernel
theorem dX4_readCell_20 : decode cX4_readCell 20 = .ok (.ishl, 1) := by decide +kernel
theorem dX4_readCell_21 : decode cX4_readCell 21 = .ok (.aload_n 0, 1) := by decide +kernel
theorem dX4_readCell_22 : decode cX4_readCell 22 = .ok (.iload_n 1, 1) := by decide +kernel
theorem dX4_readCell_23 : decode cX4_readCell 23 = .ok (.iconst 1, 1) := by decide +kernel
theorem dX4_readCell_24 : decode cX4_readCell 24 = .ok (.iadd, 1) := by decide +kernel
theorem dX4_readCell_25 : decode cX4_readCell 25 = .ok (.invokevirtual 51, 3) := by decide +kernel
theorem dX4_readCell_28 : decode cX4_readCell 28 = .ok (.ior, 1) := by decide +kernel
theorem dX4_readCell_29 : decode cX4_readCell 29 = .ok (.istore 4, 2) := by decide +kernel
theorem dX4_readCell_31 : decode cX4_readCell 31 = .ok (.iload_n 2, 1) := by decide +kernel
theorem dX4_readCell_32 : decode cX4_readCell 32 = .ok (.sipush 240, 3) := by decide +kernel
theorem dX4_readCell_35 : decode cX4_readCell 35 = .ok (.iand, 1) := by decide +kernel
theorem dX4_readCell_36 : decode cX4_readCell 36 = .ok (.iload_n 3, 1) := by decide +kernel
theorem dX4_readCell_37 : decode cX4_readCell 37 = .ok (.iconst 4, 1) := by decide +kernel
theorem dX4_readCell_38 : decode cX4_readCell 38 = .ok (.ishr, 1) := by decide +kernel
theorem dX4_readCell_39 : decode cX4_readCell 39 = .ok (.ior, 1) := by decide +kernel
theorem dX4_readCell_40 : decode cX4_readCell 40 = .ok (.bipush 31, 2) := by decide +kernel
theorem dX4_readCell_42 : decode cX4_readCell 42 = .ok (.iand, 1) := by decide +kernel
theorem dX4_readCell_43 : decode cX4_readCell 43 = .ok (.istore 5, 2) := by decide +kernel
theorem dX4_readCell_45 : decode cX4_readCell 45 = .ok (.iload 4, 2) := by decide +kernel
theorem dX4_readCell_47 : decode cX4_readCell 47 = .ok (.bipush 17, 2) := by decide +kernel
theorem dX4_readCell_49 : decode cX4_readCell 49 = .ok (.ishl, 1) := by decide +kernel
theorem dX4_readCell_50 : decode cX4_readCell 50 = .ok (.iload 5, 2) := by decide +kernel
theorem dX4_readCell_52 : decode cX4_readCell 52 = .ok (.bipush 12, 2) := by decide +kernel
theorem dX4_readCell_54 : decode cX4_readCell 54 = .ok (.ishl, 1) := by decide +kernel
theorem dX4_readCell_55 : decode cX4_readCell 55 = .ok (.ior, 1) := by decide +kernel
theorem dX4_readCell_56 : decode cX4_readCell 56 = .ok (.iload_n 3, 1) := by decide +kernel
theorem dX4_readCell_57 : decode cX4_readCell 57 = .ok (.bipush 15, 2) := by decide +kernel
theorem dX4_readCell_59 : decode cX4_readCell 59 = .ok (.iand, 1) := by decide +kernel
theorem dX4_readCell_60 : decode cX4_readCell 60 = .ok (.bipush 8, 2) := by decide +kernel
theorem dX4_readCell_62 : decode cX4_readCell 62 = .ok (.ishl, 1) := by decide +kernel
theorem dX4_readCell_63 : decode cX4_readCell 63 = .ok (.ior, 1) := by decide +kernel
theorem dX4_readCell_64 : decode cX4_readCell 64 = .ok (.aload_n 0, 1) := by decide +kernel
theorem dX4_readCell_65 : decode cX4_readCell 65 = .ok (.iload_n 1, 1) := by decide +kernel
theorem dX4_readCell_66 : decode cX4_readCell 66 = .ok (.iconst 3, 1) := by decide +kernel
theorem dX4_readCell_67 : decode cX4_readCell 67 = .ok (.iadd, 1) := by decide +kernel
theorem dX4_readCell_68 : decode cX4_readCell 68 = .ok (.invokevirtual 51, 3) := by decide +kernel
theorem dX4_readCell_71 : decode cX4_readCell 71 = .ok (.ior, 1) := by decide +kernel
theorem dX4_readCell_72 : decode cX4_readCell 72 = .ok (.ireturn, 1) := by decide +kernel
theorem dX4_readSamples_0 : decode cX4_readSamples 0 = .ok (.aload_n 1, 1) := by decide +kernel
theorem dX4_readSamples_1 : decode cX4_readSamples 1 = .ok (.invokevirtual 112, 3) := by decide +kernel
theorem dX4_readSamples_4 : decode cX4_readSamples 4 = .ok (.iload_n 2, 1) := by decide +kernel
theorem dX4_readSamples_5 : decode cX4_readSamples 5 = .ok (.istore_n 3, 1) := by decide +kernel
theorem dX4_readSamples_6 : decode cX4_readSamples 6 = .ok (.iconst 1, 1) := by decide +kernel
theorem dX4_readSamples_7 : decode cX4_readSamples 7 = .ok (.istore 4, 2) := by decide +kernel
theorem dX4_readSamples_9 : decode cX4_readSamples 9 = .ok (.iload 4, 2) := by decide +kernel
theorem dX4_readSamples_11 : decode cX4_readSamples 11 = .ok (.bipush 31, 2) := by decide +kernel
theorem dX4_readSamples_13 : decode cX4_readSamples 13 = .ok (.if_icmp .gt 151, 3) := by decide +kernel
theorem dX4_readSamples_16 : decode cX4_readSamples 16 = .ok (.iload 4, 2) := by decide +kernel
theorem dX4_readSamples_18 : decode cX4_readSamples 18 = .ok (.invokestatic 57, 3) := by decide +kernel
theorem dX4_readSamples_21 : decode cX4_readSamples 21 = .ok (.istore 5, 2) := by decide +kernel
theorem dX4_readSamples_23 : decode cX4_readSamples 23 = .ok (.iconst 2, 1) := by decide +kernel
theorem dX4_readSamples_24 : decode cX4_readSamples 24 = .ok (.aload_n 0, 1) := by decide +kernel
theorem dX4_readSamples_25 : decode cX4_readSamples 25 = .ok (.iload 5, 2) := by decide +kernel
theorem dX4_readSamples_27 : decode cX4_readSamples 27 = .ok (.bipush 22, 2) := by decide +kernel
theorem dX4_readSamples_29 : decode cX4_readSamples 29 = .ok (.iadd, 1) := by decide +kernel
theorem dX4_readSamples_30 : decode cX4_readSamples 30 = .ok (.invokevirtual 60, 3) := by decide +kernel
theorem dX4_readSamples_33 : decode cX4_readSamples 33 = .ok (.imul, 1) := by decide +kernel
theorem dX4_readSamples_34 : decode cX4_readSamples 34 = .ok (.istore 6, 2) := by decide +kernel
theorem dX4_readSamples_36 : decode cX4_readSamples 36 = .ok (.aload_n 0, 1) := by decide +kernel
theorem dX4_readSamples_37 : decode cX4_readSamples 37 = .ok (.iload 5, 2) := by decide +kernel
theorem dX4_readSamples_39 : decode cX4_readSamples 39 = .ok (.bipush 24, 2) := by decide +kernel
theorem dX4_readSamples_41 : decode cX4_readSamples 41 = .ok (.iadd, 1) := by decide +kernel
theorem dX4_readSamples_42 : decode cX4_readSamples 42 = .ok (.invokevirtual 51, 3) := by decide +kernel
theorem dX4_readSamples_45 : decode cX4_readSamples 45 = .ok (.istore 7, 2) := by decide +kernel
theorem dX4_readSamples_47 : decode cX4_readSamples 47 = .ok (.aload_n 1, 1) := by decide +kernel
theorem dX4_readSamples_48 : decode cX4_readSamples 48 = .ok (.iload 4, 2) := by decide +kernel
theorem dX4_readSamples_50 : decode cX4_readSamples 50 = .ok (.iload 6, 2) := by decide +kernel
theorem dX4_readSamples_52 : decode cX4_readSamples 52 = .ok (.iload 7, 2) := by decide +kernel
theorem dX4_readSamples_54 : decode cX4_readSamples 54 = .ok (.bipush 7, 2) := by decide +kernel
theorem dX4_readSamples_56 : decode cX4_readSamples 56 = .ok (.if_icmp .le 11, 3) := by decide +kernel
theorem dX4_readSamples_59 : decode cX4_readSamples 59 = .ok (.iload 7, 2) := by decide +kernel
theorem dX4_readSamples_61 : decode cX4_readSamples 61 = .ok (.bipush 16, 2) := by decide +kernel
theorem dX4_readSamples_63 : decode cX4_readSamples 63 = .ok (.isub, 1) := by decide +kernel
theorem dX4_readSamples_64 : decode cX4_readSamples 64 = .ok (.goto 5, 3) := by decide +kernel
theorem dX4_readSamples_67 : decode cX4_readSamples 67 = .ok (.iload 7, 2) := by decide +kernel
theorem dX4_readSamples_69 : decode cX4_readSamples 69 = .ok (.aload_n 0, 1) := by decide +kernel
theorem dX4_readSamples_70 : decode cX4_readSamples 70 = .ok (.iload 5, 2) := by decide +kernel
theorem dX4_readSamples_72 : decode cX4_readSamples 72 = .ok (.bipush 25, 2) := by decide +kernel
theorem dX4_readSamples_74 : decode cX4_readSamples 74 = .ok (.iadd, 1) := by decide +kernel
theorem dX4_readSamples_75 : decode cX4_readSamples 75 = .ok (.invokevirtual 51, 3) := by decide +kernel
theorem dX4_readSamples_78 : decode cX4_readSamples 78 = .ok (.invokevirtual 113, 3) := by decide +kernel
theorem dX4_readSamples_81 : decode cX4_readSamples 81 = .ok (.aload_n 1, 1) := by decide +kernel
theorem dX4_readSamples_82 : decode cX4_readSamples 82 = .ok (.iload 4, 2) := by decide +kernel
theorem dX4_readSamples_84 : decode cX4_readSamples 84 = .ok (.invokevirtual 116, 3) := by decide +kernel
theorem dX4_readSamples_87 : decode cX4_readSamples 87 = .ok (.astore 8, 2) := by decide +kernel
theorem dX4_readSamples_89 : decode cX4_readSamples 89 = .ok (.aload 8, 2) := by decide +kernel
theorem dX4_readSamples_91 : decode cX4_readSamples 91 = .ok (.iconst 2, 1) := by decide +kernel
theorem dX4_readSamples_92 : decode cX4_readSamples 92 = .ok (.aload_n 0, 1) := by decide +kernel
theorem dX4_readSamples_93 : decode cX4_readSamples 93 = .ok (.iload 5, 2) := by decide +kernel
theorem dX4_readSamples_95 : decode cX4_readSamples 95 = .ok (.bipush 26, 2) := by decide +kernel
theorem dX4_readSamples_97 : decode cX4_readSamples 97 = .ok (.iadd, 1) := by decide +kernel
theorem dX4_readSamples_98 : decode cX4_readSamples 98 = .ok (.invokevirtual 60, 3) := by decide +kernel
theorem dX4_readSamples_101 : decode cX4_readSamples 101 = .ok (.imul, 1) := by decide +kernel
theorem dX4_readSamples_102 : decode cX4_readSamples 102 = .ok (.putfield 120, 3) := by decide +kernel
theorem dX4_readSamples_105 : decode cX4_readSamples 105 = .ok (.aload 8, 2) := by decide +kernel
theorem dX4_readSamples_107 : decode cX4_readSamples 107 = .ok (.iconst 2, 1) := by decide +kernel
theorem dX4_readSamples_108 : decode cX4_readSamples 108 = .ok (.aload_n 0, 1) := by decide +kernel
theorem dX4_readSamples_109 : decode cX4_readSamples 109 = .ok (.iload 5, 2) := by decide +kernel
theorem dX4_readSamples_111 : decode cX4_readSamples 111 = .ok (.bipush 28, 2) := by decide +kernel
theorem dX4_readSamples_113 : decode cX4_readSamples 113 = .ok (.iadd, 1) := by decide +kernel
theorem dX4_readSamples_114 : decode cX4_readSamples 114 = .ok (.invokevirtual 60, 3) := by decide +kernel
theorem dX4_readSamples_117 : decode cX4_readSamples 117 = .ok (.imul, 1) := by decide +kernel
theorem dX4_readSamples_118 : decode cX4_readSamples 118 = .ok (.putfield 123, 3) := by decide +kernel
theorem dX4_readSamples_121 : decode cX4_readSamples 121 = .ok (.iconst 0, 1) := by decide +kernel
theorem dX4_readSamples_122 : decode cX4_readSamples 122 = .ok (.istore 9, 2) := by decide +kernel
theorem dX4_readSamples_124 : decode cX4_readSamples 124 = .ok (.iload 9, 2) := by decide +kernel
theorem dX4_readSamples_126 : decode cX4_readSamples 126 = .ok (.iload 6, 2) := by decide +kernel
theorem dX4_readSamples_128 : decode cX4_readSamples 128 = .ok (.if_icmp .ge 25, 3) := by decide +kernel
theorem dX4_readSamples_131 : decode cX4_readSamples 131 = .ok (.aload_n 1, 1) := by decide +kernel
theorem dX4_readSamples_132 : decode cX4_readSamples 132 = .ok (.aload 8, 2) := by decide +kernel
theorem dX4_readSamples_134 : decode cX4_readSamples 134 = .ok (.iload 9, 2) := by decide +kernel
theorem dX4_readSamples_136 : decode cX4_readSamples 136 = .ok (.aload_n 0, 1) := by decide +kernel
theorem dX4_readSamples_137 : decode cX4_readSamples 137 = .ok (.iload_n 3, 1) := by decide +kernel
theorem dX4_readSamples_138 : decode cX4_readSamples 138 = .ok (.iload 9, 2) := by decide +kernel
theorem dX4_readSamples_140 : decode cX4_readSamples 140 = .ok (.iadd, 1) := by decide +kernel
theorem dX4_readSamples_141 : decode cX4_readSamples 141 = .ok (.invokevirtual 51, 3) := by decide +kernel
theorem dX4_readSamples_144 : decode cX4_readSamples 144 = .ok (.invokevirtual 126, 3) := by decide +kernel
theorem dX4_readSamples_147 : decode cX4_readSamples 147 = .ok (.iinc 9 1, 3) := by decide +kernel
theorem dX4_readSamples_150 : decode cX4_readSamples 150 = .ok (.goto (-26), 3) := by decide +kernel
theorem dX4_readSamples_153 : decode cX4_readSamples 153 = .ok (.iload_n 3, 1) := by decide +kernel
theorem dX4_readSamples_154 : decode cX4_readSamples 154 = .ok (.iload 6, 2) := by decide +kernel
theorem dX4_readSamples_156 : decode cX4_readSamples 156 = .ok (.iadd, 1) := by decide +kernel
theorem dX4_readSamples_157 : decode cX4_readSamples 157 = .ok (.istore_n 3, 1) := by decide +kernel
theorem dX4_readSamples_158 : decode cX4_readSamples 158 = .ok (.iinc 4 1, 3) := by decide +kernel
theorem dX4_readSamples_161 : decode cX4_readSamples 161 = .ok (.goto (-152), 3) := by decide +kernel
theorem dX4_readSamples_164 : decode cX4_readSamples 164 = .ok (.return_, 1) := by decide +kernel
theorem dX5_init_0 : decode cX5_init 0 = .ok (.aload_n 0, 1) := by decide +kernel
theorem dX5_init_1 : decode cX5_init 1 = .ok (.invokespecial 1, 3) := by decide +kernel
theorem dX5_init_4 : decode cX5_init 4 = .ok (.return_, 1) := by decide +kernel
theorem dX5_loopFits_0 : decode cX5_loopFits 0 = .ok (.iload_n 1, 1) := by decide +kernel
theorem dX5_loopFits_1 : decode cX5_loopFits 1 = .ok (.ifCond .lt 19, 3) := by decide +kernel
theorem dX5_loopFits_4 : decode cX5_loopFits 4 = .ok (.iload_n 2, 1) := by decide +kernel
theorem dX5_loopFits_5 : decode cX5_loopFits 5 = .ok (.ifCond .lt 15, 3) := by decide +kernel
theorem dX5_loopFits_8 : decode cX5_loopFits 8 = .ok (.iload_n 1, 1) := by decide +kernel
theorem dX5_loopFits_9 : decode cX5_loopFits 9 = .ok (.iconst 2, 1) := by decide +kernel
theorem dX5_loopFits_10 : decode cX5_loopFits 10 = .ok (.irem, 1) := by decide +kernel
theorem dX5_loopFits_11 : decode cX5_loopFits 11 = .ok (.ifCond .ne 9, 3) := by decide +kernel
theorem dX5_loopFits_14 : decode cX5_loopFits 14 = .ok (.iload_n 2, 1) := by decide +kernel
theorem dX5_loopFits_15 : decode cX5_loopFits 15 = .ok (.iconst 2, 1) := by decide +kernel
theorem dX5_loopFits_16 : decode cX5_loopFits 16 = .ok (.irem, 1) := by decide +kernel
theorem dX5_loopFits_17 : decode cX5_loopFits 17 = .ok (.ifCond .eq 5, 3) := by decide +kernel
theorem dX5_loopFits_20 : decode cX5_loopFits 20 = .ok (.iconst 0, 1) := by decide +kernel
theorem dX5_loopFits_21 : decode cX5_loopFits 21 = .ok (.ireturn, 1) := by decide +kernel
theorem dX5_loopFits_22 : decode cX5_loopFits 22 = .ok (.iload_n 2, 1) := by decide +kernel
theorem dX5_loopFits_23 : decode cX5_loopFits 23 = .ok (.invokestatic 7, 3) := by decide +kernel
theorem dX5_loopFits_26 : decode cX5_loopFits 26 = .ok (.ifCond .eq 11, 3) := by decide +kernel
theorem dX5_loopFits_29 : decode cX5_loopFits 29 = .ok (.iload_n 1, 1) := by decide +kernel
theorem dX5_loopFits_30 : decode cX5_loopFits 30 = .ok (.i2l, 1) := by decide +kernel
theorem dX5_loopFits_31 : decode cX5_loopFits 31 = .ok (.iload_n 2, 1) := by decide +kernel
theorem dX5_loopFits_32 : decode cX5_loopFits 32 = .ok (.i2l, 1) := by decide +kernel
theorem dX5_loopFits_33 : decode cX5_loopFits 33 = .ok (.ladd, 1) := by decide +kernel
theorem dX5_loopFits_34 : decode cX5_loopFits 34 = .ok (.goto 5, 3) := by decide +kernel
theorem dX5_loopFits_37 : decode cX5_loopFits 37 = .ok (.iload_n 1, 1) := by decide +kernel
theorem dX5_loopFits_38 : decode cX5_loopFits 38 = .ok (.i2l, 1) := by decide +kernel
theorem dX5_loopFits_39 : decode cX5_loopFits 39 = .ok (.lstore_n 3, 1) := by decide +kernel
theorem dX5_loopFits_40 : decode cX5_loopFits 40 = .ok (.lload_n 3, 1) := by decide +kernel
theorem dX5_loopFits_41 : decode cX5_loopFits 41 = .ok (.iload_n 0, 1) := by decide +kernel
theorem dX5_loopFits_42 : decode cX5_loopFits 42 = .ok (.i2l, 1) := by decide +kernel
theorem dX5_loopFits_43 : decode cX5_loopFits 43 = .ok (.lcmp, 1) := by decide +kernel
theorem dX5_loopFits_44 : decode cX5_loopFits 44 = .ok (.ifCond .gt 7, 3) := by decide +kernel
theorem dX5_loopFits_47 : decode cX5_loopFits 47 = .ok (.iconst 1, 1) := by decide +kernel
theorem dX5_loopFits_48 : decode cX5_loopFits 48 = .ok (.goto 4, 3) := by decide +kernel
theorem dX5_loopFits_51 : decode cX5_loopFits 51 = .ok (.iconst 0, 1) := by decide +kernel
theorem dX5_loopFits_52 : decode cX5_loopFits 52 = .ok (.ireturn, 1) := by decide +kernel
theorem dX5_loops_0 : decode cX5_loops 0 = .ok (.iload_n 0, 1) := by decide +kernel
theorem dX5_loops_1 : decode cX5_loops 1 = .ok (.iconst 2, 1) := by decide +kernel
theorem dX5_loops_2 : decode cX5_loops 2 = .ok (.if_icmp .le 7, 3) := by decide +kernel
theorem dX5_loops_5 : decode cX5_loops 5 = .ok (.iconst 1, 1) := by decide +kernel
theorem dX5_loops_6 : decode cX5_loops 6 = .ok (.goto 4, 3) := by decide +kernel
theorem dX5_loops_9 : decode cX5_loops 9 = .ok (.iconst 0, 1) := by decide +kernel
theorem dX5_loops_10 : decode cX5_loops 10 = .ok (.ireturn, 1) := by decide +kernel
theorem dX6_init_0 : decode cX6_init 0 = .ok (.aload_n 0, 1) := by decide +kernel
theorem dX6_init_1 : decode cX6_init 1 = .ok (.invokespecial 3, 3) := by decide +kernel
theorem dX6_init_4 : decode cX6_init 4 = .ok (.aload_n 0, 1) := by decide +kernel
theorem dX6_init_5 : decode cX6_init 5 = .ok (.sipush 2048, 3) := by decide +kernel
theorem dX6_init_8 : decode cX6_init 8 = .ok (.newarray .int, 2) := by decide +kernel
theorem dX6_init_10 : decode cX6_init 10 = .ok (.putfield 9, 3) := by decide +kernel
theorem dX6_init_13 : decode cX6_init 13 = .ok (.aload_n 0, 1) := by decide +kernel
theorem dX6_init_14 : decode cX6_init 14 = .ok (.sipush 128, 3) := by decide +kernel
theorem dX6_init_17 : decode cX6_init 17 = .ok (.newarray .int, 2) := by decide +kernel
theorem dX6_init_19 : decode cX6_init 19 = .ok (.putfield 15, 3) := by decide +kernel
theorem dX6_init_22 : decode cX6_init 22 = .ok (.aload_n 0, 1) := by decide +kernel
theorem dX6_init_23 : decode cX6_init 23 = .ok (.iconst 1, 1) := by decide +kernel
theorem dX6_init_24 : decode cX6_init 24 = .ok (.putfield 18, 3) := by decide +kernel
theorem dX6_init_27 : decode cX6_init 27 = .ok (.return_, 1) := by decide +kernel
theorem dX6_hasCell_0 : decode cX6_hasCell 0 = .ok (.iload_n 0, 1) := by decide +kernel
theorem dX6_hasCell_1 : decode cX6_hasCell 1 = .ok (.bipush 8, 2) := by decide +kernel
theorem dX6_hasCell_3 : decode cX6_hasCell 3 = .ok (.invokestatic 22, 3) := by decide +kernel
theorem dX6_hasCell_6 : decode cX6_hasCell 6 = .ok (.ifCond .eq 24, 3) := by decide +kernel
theorem dX6_hasCell_9 : decode cX6_hasCell 9 = .ok (.iload_n 1, 1) := by decide +kernel
theorem dX6_hasCell_10 : decode cX6_hasCell 10 = .ok (.bipush 64, 2) := by decide +kernel
theorem dX6_hasCell_12 : decode cX6_hasCell 12 = .ok (.invokestatic 22, 3) := by decide +kernel
theorem dX6_hasCell_15 : decode cX6_hasCell 15 = .ok (.ifCond .eq 15, 3) := by decide +kernel
theorem dX6_hasCell_18 : decode cX6_hasCell 18 = .ok (.iload_n 2, 1) := by decide +kernel
theorem dX6_hasCell_19 : decode cX6_hasCell 19 = .ok (.iconst 4, 1) := by decide +kernel
theorem dX6_hasCell_20 : decode cX6_hasCell 20 = .ok (.invokestatic 22, 3) := by decide +kernel
theorem dX6_hasCell_23 : decode cX6_hasCell 23 = .ok (.ifCond .eq 7, 3) := by decide +kernel
theorem dX6_hasCell_26 : decode cX6_hasCell 26 = .ok (.iconst 1, 1) := by decide +kernel
theorem dX6_hasCell_27 : decode cX6_hasCell 27 = .ok (.goto 4, 3) := by decide +kernel
theorem dX6_hasCell_30 : decode cX6_hasCell 30 = .ok (.iconst 0, 1) := by decide +kernel
theorem dX6_hasCell_31 : decode cX6_hasCell 31 = .ok (.ireturn, 1) := by decide +kernel
theorem dX6_getCell_0 : decode cX6_getCell 0 = .ok (.iload_n 1, 1) := by decide +kernel
theorem dX6_getCell_1 : decode cX6_getCell 1 = .ok (.iload_n 2, 1) := by decide +kernel
theorem dX6_getCell_2 : decode cX6_getCell 2 = .ok (.iload_n 3, 1) := by decide +kernel
theorem dX6_getCell_3 : decode cX6_getCell 3 = .ok (.invokestatic 26, 3) := by decide +kernel
theorem dX6_getCell_6 : decode cX6_getCell 6 = .ok (.ifCond .eq 17, 3) := by decide +kernel
theorem dX6_getCell_9 : decode cX6_getCell 9 = .ok (.aload_n 0, 1) := by decide +kernel
theorem dX6_getCell_10 : decode cX6_getCell 10 = .ok (.getfield 9, 3) := by decide +kernel
theorem dX6_getCell_13 : decode cX6_getCell 13 = .ok (.iload_n 1, 1) := by decide +kernel
theorem dX6_getCell_14 : decode cX6_getCell 14 = .ok (.iload_n 2, 1) := by decide +kernel
theorem dX6_getCell_15 : decode cX6_getCell 15 = .ok (.iload_n 3, 1) := by decide +kernel
theorem dX6_getCell_16 : decode cX6_getCell 16 = .ok (.invokestatic 30, 3) := by decide +kernel
theorem dX6_getCell_19 : decode cX6_getCell 19 = .ok (.iaload, 1) := by decide +kernel
theorem dX6_getCell_20 : decode cX6_getCell 20 = .ok (.goto 4, 3) := by decide +kernel
theorem dX6_getCell_23 : decode cX6_getCell 23 = .ok (.iconst 0, 1) := by decide +kernel
theorem dX6_getCell_24 : decode cX6_getCell 24 = .ok (.ireturn, 1) := by decide +kernel
theorem dX6_putCell_0 : decode cX6_putCell 0 = .ok (.iload_n 1, 1) := by decide +kernel
theorem dX6_putCell_1 : decode cX6_putCell 1 = .ok (.iload_n 2, 1) := by decide +kernel
theorem dX6_putCell_2 : decode cX6_putCell 2 = .ok (.iload_n 3, 1) := by decide +kernel
theorem dX6_putCell_3 : decode cX6_putCell 3 = .ok (.invokestatic 26, 3) := by decide +kernel
theorem dX6_putCell_6 : decode cX6_putCell 6 = .ok (.ifCond .eq 16, 3) := by decide +kernel
theorem dX6_putCell_9 : decode cX6_putCell 9 = .ok (.aload_n 0, 1) := by decide +kernel
theorem dX6_putCell_10 : decode cX6_putCell 10 = .ok (.getfield 9, 3) := by decide +kernel
theorem dX6_putCell_13 : decode cX6_putCell 13 = .ok (.iload_n 1, 1) := by decide +kernel
theorem dX6_putCell_14 : decode cX6_putCell 14 = .ok (.iload_n 2, 1) := by decide +kernel
theorem dX6_putCell_15 : decode cX6_putCell 15 = .ok (.iload_n 3, 1) := by decide +kernel
theorem dX6_putCell_16 : decode cX6_putCell 16 = .ok (.invokestatic 30, 3) := by decide +kernel
theorem dX6_putCell_19 : decode cX6_putCell 19 = .ok (.iload 4, 2) := by decide +kernel
theorem dX6_putCell_21 : decode cX6_putCell 21 = .ok (.iastore, 1) := by decide +kernel
theorem dX6_putCell_22 : decode cX6_putCell 22 = .ok (.return_, 1) := by decide +kernel
theorem dX6_indexOf_0 : decode cX6_indexOf 0 = .ok (.iload_n 0, 1) := by decide +kernel
theorem dX6_indexOf_1 : decode cX6_indexOf 1 = .ok (.bipush 64, 2) := by decide +kernel
theorem dX6_indexOf_3 : decode cX6_indexOf 3 = .ok (.imul, 1) := by decide +kernel
theorem dX6_indexOf_4 : decode cX6_indexOf 4 = .ok (.iload_n 1, 1) := by decide +kernel
theorem dX6_indexOf_5 : decode cX6_indexOf 5 = .ok (.iadd, 1) := by decide +kernel
theorem dX6_indexOf_6 : decode cX6_indexOf 6 = .ok (.iconst 4, 1) := by decide +kernel
theorem dX6_indexOf_7 : decode cX6_indexOf 7 = .ok (.imul, 1) := by decide +kernel
theorem dX6_indexOf_8 : decode cX6_indexOf 8 = .ok (.iload_n 2, 1) := by decide +kernel
theorem dX6_indexOf_9 : decode cX6_indexOf 9 = .ok (.iadd, 1) := by decide +kernel
theorem dX6_indexOf_10 : decode cX6_indexOf 10 = .ok (.ireturn, 1) := by decide +kernel
theorem dX6_patternAt_0 : decode cX6_patternAt 0 = .ok (.iload_n 1, 1) := by decide +kernel
theorem dX6_patternAt_1 : decode cX6_patternAt 1 = .ok (.sipush 128, 3) := by decide +kernel
theorem dX6_patternAt_4 : decode cX6_patternAt 4 = .ok (.invokestatic 22, 3) := by decide +kernel
theorem dX6_patternAt_7 : decode cX6_patternAt 7 = .ok (.ifCond .eq 12, 3) := by decide +kernel
theorem dX6_patternAt_10 : decode cX6_patternAt 10 = .ok (.aload_n 0, 1) := by decide +kernel
theorem dX6_patternAt_11 : decode cX6_patternAt 11 = .ok (.getfield 15, 3) := by decide +kernel
theorem dX6_patternAt_14 : decode cX6_patternAt 14 = .ok (.iload_n 1, 1) := by decide +kernel
theorem dX6_patternAt_15 : decode cX6_patternAt 15 = .ok (.iaload, 1) := by decide +kernel
theorem dX6_patternAt_16 : decode cX6_patternAt 16 = .ok (.goto 4, 3) := by decide +kernel
theorem dX6_patternAt_19 : decode cX6_patternAt 19 = .ok (.iconst 0, 1) := by decide +kernel
theorem dX6_patternAt_20 : decode cX6_patternAt 20 = .ok (.ireturn, 1) := by decide +kernel
theorem dX6_countPatterns_0 : decode cX6_countPatterns 0 = .ok (.iconst 0, 1) := by decide +kernel
theorem dX6_countPatterns_1 : decode cX6_countPatterns 1 = .ok (.istore_n 1, 1) := by decide +kernel
theorem dX6_countPatterns_2 : decode cX6_countPatterns 2 = .ok (.iconst 0, 1) := by decide +kernel
theorem dX6_countPatterns_3 : decode cX6_countPatterns 3 = .ok (.istore_n 2, 1) := by decide +kernel
theorem dX6_countPatterns_4 : decode cX6_countPatterns 4 = .ok (.iload_n 2, 1) := by decide +kernel
theorem dX6_countPatterns_5 : decode cX6_countPatterns 5 = .ok (.aload_n 0, 1) := by decide +kernel
theorem dX6_countPatterns_6 : decode cX6_countPatterns 6 = .ok (.getfield 18, 3) := by decide +kernel
theorem dX6_countPatterns_9 : decode cX6_countPatterns 9 = .ok (.if_icmp .ge 27, 3) := by decide +kernel
theorem dX6_countPatterns_12 : decode cX6_countPatterns 12 = .ok (.iload_n 2, 1) := by decide +kernel
theorem dX6_countPatterns_13 : decode cX6_countPatterns 13 = .ok (.sipush 128, 3) := by decide +kernel
theorem dX6_countPatterns_16 : decode cX6_countPatterns 16 = .ok (.if_icmp .ge 20, 3) := by decide +kernel
theorem dX6_countPatterns_19 : decode cX6_countPatterns 19 = .ok (.iload_n 1, 1) := by decide +kernel
theorem dX6_countPatterns_20 : decode cX6_countPatterns 20 = .ok (.aload_n 0, 1) := by decide +kernel
theorem dX6_countPatterns_21 : decode cX6_countPatterns 21 = .ok (.getfield 15, 3) := by decide +kernel
theorem dX6_countPatterns_24 : decode cX6_countPatterns 24 = .ok (.iload_n 2, 1) := by decide +kernel
theorem dX6_countPatterns_25 : decode cX6_countPatterns 25 = .ok (.iaload, 1) := by decide +kernel
theorem dX6_countPatterns_26 : decode cX6_countPatterns 26 = .ok (.invokestatic 34, 3) := by decide +kernel
theorem dX6_countPatterns_29 : decode cX6_countPatterns 29 = .ok (.istore_n 1, 1) := by decide +kernel
theorem dX6_countPatterns_30 : decode cX6_countPatterns 30 = .ok (.iinc 2 1, 3) := by decide +kernel
theorem dX6_countPatterns_33 : decode cX6_countPatterns 33 = .ok (.goto (-29), 3) := by decide +kernel
theorem dX6_countPatterns_36 : decode cX6_countPatterns 36 = .ok (.iload_n 1, 1) := by decide +kernel
theorem dX6_countPatterns_37 : decode cX6_countPatterns 37 = .ok (.iconst 1, 1) := by decide +kernel
theorem dX6_countPatterns_38 : decode cX6_countPatterns 38 = .ok (.iadd, 1) := by decide +kernel
theorem dX6_countPatterns_39 : decode cX6_countPatterns 39 = .ok (.ireturn, 1) := by decide +kernel
theorem dX6_clear_0 : decode cX6_clear 0 = .ok (.aload_n 0, 1) := by decide +kernel
theorem dX6_clear_1 : decode cX6_clear 1 = .ok (.getfield 9, 3) := by decide +kernel
theorem dX6_clear_4 : decode cX6_clear 4 = .ok (.iconst 0, 1) := by decide +kernel
theorem dX6_clear_5 : decode cX6_clear 5 = .ok (.invokestatic 40, 3) := by decide +kernel
theorem dX6_clear_8 : decode cX6_clear 8 = .ok (.aload_n 0, 1) := by decide +kernel
theorem dX6_clear_9 : decode cX6_clear 9 = .ok (.getfield 15, 3) := by decide +kernel
theorem dX6_clear_12 : decode cX6_clear 12 = .ok (.iconst 0, 1) := by decide +kernel
theorem dX6_clear_13 : decode cX6_clear 13 = .ok (.invokestatic 40, 3) := by decide +kernel
theorem dX6_clear_16 : decode cX6_clear 16 = .ok (.return_, 1) := by decide +kernel
theorem dX7_init_0 : decode cX7_init 0 = .ok (.aload_n 0, 1) := by decide +kernel
theorem dX7_init_1 : decode cX7_init 1 = .ok (.invokespecial 3, 3) := by decide +kernel
theorem dX7_init_4 : decode cX7_init 4 = .ok (.aload_n 0, 1) := by decide +kernel
theorem dX7_init_5 : decode cX7_init 5 = .ok (.sipush 9000, 3) := by decide +kernel
theorem dX7_init_8 : decode cX7_init 8 = .ok (.newarray .byte, 2) := by decide +kernel
theorem dX7_init_10 : decode cX7_init 10 = .ok (.putfield 9, 3) := by decide +kernel
theorem dX7_init_13 : decode cX7_init 13 = .ok (.return_, 1) := by decide +kernel
theorem dX7_at_0 : decode cX7_at 0 = .ok (.iload_n 1, 1) := by decide +kernel
theorem dX7_at_1 : decode cX7_at 1 = .ok (.aload_n 0, 1) := by decide +kernel
theorem dX7_at_2 : decode cX7_at 2 = .ok (.getfield 15, 3) := by decide +kernel
theorem dX7_at_5 : decode cX7_at 5 = .ok (.invokestatic 19, 3) := by decide +kernel
theorem dX7_at_8 : decode cX7_at 8 = .ok (.ifCond .eq 26, 3) := by decide +kernel
theorem dX7_at_11 : decode cX7_at 11 = .ok (.iload_n 1, 1) := by decide +kernel
theorem dX7_at_12 : decode cX7_at 12 = .ok (.sipush 9000, 3) := by decide +kernel
theorem dX7_at_15 : decode cX7_at 15 = .ok (.invokestatic 19, 3) := by decide +kernel
theorem dX7_at_18 : decode cX7_at 18 = .ok (.ifCond .eq 16, 3) := by decide +kernel
theorem dX7_at_21 : decode cX7_at 21 = .ok (.aload_n 0, 1) := by decide +kernel
theorem dX7_at_22 : decode cX7_at 22 = .ok (.getfield 9, 3) := by decide +kernel
theorem dX7_at_25 : decode cX7_at 25 = .ok (.iload_n 1, 1) := by decide +kernel
theorem dX7_at_26 : decode cX7_at 26 = .ok (.baload, 1) := by decide +kernel
theorem dX7_at_27 : decode cX7_at 27 = .ok (.sipush 255, 3) := by decide +kernel
theorem dX7_at_30 : decode cX7_at 30 = .ok (.iand, 1) := by decide +kernel
theorem dX7_at_31 : decode cX7_at 31 = .ok (.goto 4, 3) := by decide +kernel
theorem dX7_at_34 : decode cX7_at 34 = .ok (.iconst (-1), 1) := by decide +kernel
theorem dX7_at_35 : decode cX7_at 35 = .ok (.ireturn, 1) := by decide +kernel
theorem dX7_pairAt_0 : decode cX7_pairAt 0 = .ok (.aload_n 0, 1) := by decide +kernel
theorem dX7_pairAt_1 : decode cX7_pairAt 1 = .ok (.iload_n 1, 1) := by decide +kernel
theorem dX7_pairAt_2 : decode cX7_pairAt 2 = .ok (.invokevirtual 23, 3) := by decide +kernel
theorem dX7_pairAt_5 : decode cX7_pairAt 5 = .ok (.sipush 256, 3) := by decide +kernel
theorem dX7_pairAt_8 : decode cX7_pairAt 8 = .ok (.imul, 1) := by decide +kernel
theorem dX7_pairAt_9 : decode cX7_pairAt 9 = .ok (.aload_n 0, 1) := by decide +kernel
theorem dX7_pairAt_10 : decode cX7_pairAt 10 = .ok (.iload_n 1, 1) := by decide +kernel
theorem dX7_pairAt_11 : decode cX7_pairAt 11 = .ok (.iconst 1, 1) := by decide +kernel
theorem dX7_pairAt_12 : decode cX7_pairAt 12 = .ok (.iadd, 1) := by decide +kernel
theorem dX7_pairAt_13 : decode cX7_pairAt 13 = .ok (.invokevirtual 23, 3) := by decide +kernel
theorem dX7_pairAt_16 : decode cX7_pairAt 16 = .ok (.iadd, 1) := by decide +kernel
theorem dX7_pairAt_17 : decode cX7_pairAt 17 = .ok (.ireturn, 1) := by decide +kernel
theorem dX7_put_0 : decode cX7_put 0 = .ok (.iload_n 1, 1) := by decide +kernel
theorem dX7_put_1 : decode cX7_put 1 = .ok (.sipush 9000, 3) := by decide +kernel
theorem dX7_put_4 : decode cX7_put 4 = .ok (.invokestatic 19, 3) := by decide +kernel
theorem dX7_put_7 : decode cX7_put 7 = .ok (.ifCond .ne 4, 3) := by decide +kernel
theorem dX7_put_10 : decode cX7_put 10 = .ok (.return_, 1) := by decide +kernel
theorem dX7_put_11 : decode cX7_put 11 = .ok (.aload_n 0, 1) := by decide +kernel
theorem dX7_put_12 : decode cX7_put 12 = .ok (.getfield 15, 3) := by decide +kernel
theorem dX7_put_15 : decode cX7_put 15 = .ok (.istore_n 3, 1) := by decide +kernel
theorem dX7_put_16 : decode cX7_put 16 = .ok (.iload_n 3, 1) := by decide +kernel
theorem dX7_put_17 : decode cX7_put 17 = .ok (.iload_n 1, 1) := by decide +kernel
theorem dX7_put_18 : decode cX7_put 18 = .ok (.if_icmp .ge 16, 3) := by decide +kernel
theorem dX7_put_21 : decode cX7_put 21 = .ok (.aload_n 0, 1) := by decide +kernel
theorem dX7_put_22 : decode cX7_put 22 = .ok (.getfield 9, 3) := by decide +kernel
theorem dX7_put_25 : decode cX7_put 25 = .ok (.iload_n 3, 1) := by decide +kernel
theorem dX7_put_26 : decode cX7_put 26 = .ok (.iconst 0, 1) := by decide +kernel
theorem dX7_put_27 : decode cX7_put 27 = .ok (.bastore, 1) := by decide +kernel
theorem dX7_put_28 : decode cX7_put 28 = .ok (.iinc 3 1, 3) := by decide +kernel
theorem dX7_put_31 : decode cX7_put 31 = .ok (.goto (-15), 3) := by decide +kernel
theorem dX7_put_34 : decode cX7_put 34 = .ok (.aload_n 0, 1) := by decide +kernel
theorem dX7_put_35 : decode cX7_put 35 = .ok (.getfield 9, 3) := by decide +kernel
theorem dX7_put_38 : decode cX7_put 38 = .ok (.iload_n 1, 1) := by decide +kernel
theorem dX7_put_39 : decode cX7_put 39 = .ok (.iload_n 2, 1) := by decide +kernel
theorem dX7_put_40 : decode cX7_put 40 = .ok (.i2b, 1) := by decide +kernel
theorem dX7_put_41 : decode cX7_put 41 = .ok (.bastore, 1) := by decide +kernel
theorem dX7_put_42 : decode cX7_put 42 = .ok (.aload_n 0, 1) := by decide +kernel
theorem dX7_put_43 : decode cX7_put 43 = .ok (.aload_n 0, 1) := by decide +kernel
theorem dX7_put_44 : decode cX7_put 44 = .ok (.getfield 15, 3) := by decide +kernel
theorem dX7_put_47 : decode cX7_put 47 = .ok (.iload_n 1, 1) := by decide +kernel
theorem dX7_put_48 : decode cX7_put 48 = .ok (.iconst 1, 1) := by decide +kernel
theorem dX7_put_49 : decode cX7_put 49 = .ok (.iadd, 1) := by decide +kernel
theorem dX7_put_50 : decode cX7_put 50 = .ok (.invokestatic 27, 3) := by decide +kernel
theorem dX7_put_53 : decode cX7_put 53 = .ok (.putfield 15, 3) := by decide +kernel
theorem dX7_put_56 : decode cX7_put 56 = .ok (.return_, 1) := by decide +kernel
theorem dX7_putPair_0 : decode cX7_putPair 0 = .ok (.aload_n 0, 1) := by decide +kernel
theorem dX7_putPair_1 : decode cX7_putPair 1 = .ok (.iload_n 1, 1) := by decide +kernel
theorem dX7_putPair_2 : decode cX7_putPair 2 = .ok (.iload_n 2, 1) := by decide +kernel
theorem dX7_putPair_3 : decode cX7_putPair 3 = .ok (.bipush 8, 2) := by decide +kernel
theorem dX7_putPair_5 : decode cX7_putPair 5 = .ok (.ishr, 1) := by decide +kernel
theorem dX7_putPair_6 : decode cX7_putPair 6 = .ok (.invokevirtual 33, 3) := by decide +kernel
theorem dX7_putPair_9 : decode cX7_putPair 9 = .ok (.aload_n 0, 1) := by decide +kernel
theorem dX7_putPair_10 : decode cX7_putPair 10 = .ok (.iload_n 1, 1) := by decide +kernel
theorem dX7_putPair_11 : decode cX7_putPair 11 = .ok (.iconst 1, 1) := by decide +kernel
theorem dX7_putPair_12 : decode cX7_putPair 12 = .ok (.iadd, 1) := by decide +kernel
theorem dX7_putPair_13 : decode cX7_putPair 13 = .ok (.iload_n 2, 1) := by decide +kernel
theorem dX7_putPair_14 : decode cX7_putPair 14 = .ok (.invokevirtual 33, 3) := by decide +kernel
theorem dX7_putPair_17 : decode cX7_putPair 17 = .ok (.return_, 1) := by decide +kernel
theorem dX7_append_0 : decode cX7_append 0 = .ok (.bipush 24, 2) := by decide +kernel
theorem dX7_append_2 : decode cX7_append 2 = .ok (.istore_n 2, 1) := by decide +kernel
theorem dX7_append_3 : decode cX7_append 3 = .ok (.iload_n 2, 1) := by decide +kernel
theorem dX7_append_4 : decode cX7_append 4 = .ok (.ifCond .lt 20, 3) := by decide +kernel
theorem dX7_append_7 : decode cX7_append 7 = .ok (.aload_n 0, 1) := by decide +kernel
theorem dX7_append_8 : decode cX7_append 8 = .ok (.aload_n 0, 1) := by decide +kernel
theorem dX7_append_9 : decode cX7_append 9 = .ok (.getfield 15, 3) := by decide +kernel
theorem dX7_append_12 : decode cX7_append 12 = .ok (.iload_n 1, 1) := by decide +kernel
theorem dX7_append_13 : decode cX7_append 13 = .ok (.iload_n 2, 1) := by decide +kernel
theorem dX7_append_14 : decode cX7_append 14 = .ok (.ishr, 1) := by decide +kernel
theorem dX7_append_15 : decode cX7_append 15 = .ok (.invokevirtual 33, 3) := by decide +kernel
theorem dX7_append_18 : decode cX7_append 18 = .ok (.iinc 2 (-8), 3) := by decide +kernel
theorem dX7_append_21 : decode cX7_append 21 = .ok (.goto (-18), 3) := by decide +kernel
theorem dX7_append_24 : decode cX7_append 24 = .ok (.return_, 1) := by decide +kernel
theorem dX8_init_0 : decode cX8_init 0 = .ok (.aload_n 0, 1) := by decide +kernel
theorem dX8_init_1 : decode cX8_init 1 = .ok (.invokespecial 1, 3) := by decide +kernel
theorem dX8_init_4 : decode cX8_init 4 = .ok (.return_, 1) := by decide +kernel
theorem dX8_rewind_0 : decode cX8_rewind 0 = .ok (.aload_n 0, 1) := by decide +kernel
theorem dX8_rewind_1 : decode cX8_rewind 1 = .ok (.iconst 0, 1) := by decide +kernel
theorem dX8_rewind_2 : decode cX8_rewind 2 = .ok (.putfield 7, 3) := by decide +kernel
theorem dX8_rewind_5 : decode cX8_rewind 5 = .ok (.aload_n 0, 1) := by decide +kernel
theorem dX8_rewind_6 : decode cX8_rewind 6 = .ok (.iconst 0, 1) := by decide +kernel
theorem dX8_rewind_7 : decode cX8_rewind 7 = .ok (.putfield 13, 3) := by decide +kernel
theorem dX8_rewind_10 : decode cX8_rewind 10 = .ok (.aload_n 0, 1) := by decide +kernel
theorem dX8_rewind_11 : decode cX8_rewind 11 = .ok (.iconst 0, 1) := by decide +kernel
theorem dX8_rewind_12 : decode cX8_rewind 12 = .ok (.putfield 16, 3) := by decide +kernel
theorem dX8_rewind_15 : decode cX8_rewind 15 = .ok (.aload_n 0, 1) := by decide +kernel
theorem dX8_rewind_16 : decode cX8_rewind 16 = .ok (.iconst 0, 1) := by decide +kernel
