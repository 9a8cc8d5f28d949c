theorem dX11_sample_80 : decode cX11_sample 80 = .ok (.iadd, 1) := dq_X11_sample_63.2.2.2.2.2.2.2.2.2.1
theorem dX11_sample_81 : decode cX11_sample 81 = .ok (.istore 5, 2) := dq_X11_sample_63.2.2.2.2.2.2.2.2.2.2.1
theorem dX11_sample_83 : decode cX11_sample 83 = .ok (.iinc 6 1, 3) := dq_X11_sample_63.2.2.2.2.2.2.2.2.2.2.2.1
theorem dX11_sample_86 : decode cX11_sample 86 = .ok (.goto (-32), 3) := dq_X11_sample_63.2.2.2.2.2.2.2.2.2.2.2.2.1
theorem dX11_sample_89 : decode cX11_sample 89 = .ok (.iload 5, 2) := dq_X11_sample_63.2.2.2.2.2.2.2.2.2.2.2.2.2.1
theorem dX11_sample_91 : decode cX11_sample 91 = .ok (.sipush 4000, 3) := dq_X11_sample_63.2.2.2.2.2.2.2.2.2.2.2.2.2.2.1
theorem dX11_sample_94 : decode cX11_sample 94 = .ok (.if_icmp .le 5, 3) := dq_X11_sample_63.2.2.2.2.2.2.2.2.2.2.2.2.2.2.2
theorem dq_X11_sample_97 : (decode cX11_sample 97 = .ok (.iconst 0, 1)) ∧ (decode cX11_sample 98 = .ok (.ireturn, 1)) ∧ (decode cX11_sample 99 = .ok (.aload_n 0, 1)) ∧ (decode cX11_sample 100 = .ok (.getfield 17, 3)) ∧ (decode cX11_sample 103 = .ok (.iload_n 1, 1)) ∧ (decode cX11_sample 104 = .ok (.iload_n 2, 1)) ∧ (decode cX11_sample 105 = .ok (.iastore, 1)) ∧ (decode cX11_sample 106 = .ok (.aload_n 0, 1)) ∧ (decode cX11_sample 107 = .ok (.getfield 21, 3)) ∧ (decode cX11_sample 110 = .ok (.iload_n 1, 1)) ∧ (decode cX11_sample 111 = .ok (.iload_n 3, 1)) ∧ (decode cX11_sample 112 = .ok (.iastore, 1)) ∧ (decode cX11_sample 113 = .ok (.aload_n 0, 1)) ∧ (decode cX11_sample 114 = .ok (.getfield 24, 3)) ∧ (decode cX11_sample 117 = .ok (.iload_n 1, 1)) ∧ (decode cX11_sample 118 = .ok (.iload 4, 2)) := by decide +kernel
theorem dX11_sample_97 : decode cX11_sample 97 = .ok (.iconst 0, 1) := dq_X11_sample_97.1
theorem dX11_sample_98 : decode cX11_sample 98 = .ok (.ireturn, 1) := dq_X11_sample_97.2.1
theorem dX11_sample_99 : decode cX11_sample 99 = .ok (.aload_n 0, 1) := dq_X11_sample_97.2.2.1
theorem dX11_sample_100 : decode cX11_sample 100 = .ok (.getfield 17, 3) := dq_X11_sample_97.2.2.2.1
theorem dX11_sample_103 : decode cX11_sample 103 = .ok (.iload_n 1, 1) := dq_X11_sample_97.2.2.2.2.1
theorem dX11_sample_104 : decode cX11_sample 104 = .ok (.iload_n 2, 1) := dq_X11_sample_97.2.2.2.2.2.1
theorem dX11_sample_105 : decode cX11_sample 105 = .ok (.iastore, 1) := dq_X11_sample_97.2.2.2.2.2.2.1
theorem dX11_sample_106 : decode cX11_sample 106 = .ok (.aload_n 0, 1) := dq_X11_sample_97.2.2.2.2.2.2.2.1
theorem dX11_sample_107 : decode cX11_sample 107 = .ok (.getfield 21, 3) := dq_X11_sample_97.2.2.2.2.2.2.2.2.1
theorem dX11_sample_110 : decode cX11_sample 110 = .ok (.iload_n 1, 1) := dq_X11_sample_97.2.2.2.2.2.2.2.2.2.1
theorem dX11_sample_111 : decode cX11_sample 111 = .ok (.iload_n 3, 1) := dq_X11_sample_97.2.2.2.2.2.2.2.2.2.2.1
theorem dX11_sample_112 : decode cX11_sample 112 = .ok (.iastore, 1) := dq_X11_sample_97.2.2.2.2.2.2.2.2.2.2.2.1
theorem dX11_sample_113 : decode cX11_sample 113 = .ok (.aload_n 0, 1) := dq_X11_sample_97.2.2.2.2.2.2.2.2.2.2.2.2.1
theorem dX11_sample_114 : decode cX11_sample 114 = .ok (.getfield 24, 3) := dq_X11_sample_97.2.2.2.2.2.2.2.2.2.2.2.2.2.1
theorem dX11_sample_117 : decode cX11_sample 117 = .ok (.iload_n 1, 1) := dq_X11_sample_97.2.2.2.2.2.2.2.2.2.2.2.2.2.2.1
theorem dX11_sample_118 : decode cX11_sample 118 = .ok (.iload 4, 2) := dq_X11_sample_97.2.2.2.2.2.2.2.2.2.2.2.2.2.2.2
theorem dq_X11_sample_120 : (decode cX11_sample 120 = .ok (.iastore, 1)) ∧ (decode cX11_sample 121 = .ok (.aload_n 0, 1)) ∧ (decode cX11_sample 122 = .ok (.getfield 27, 3)) ∧ (decode cX11_sample 125 = .ok (.iload_n 1, 1)) ∧ (decode cX11_sample 126 = .ok (.iconst 0, 1)) ∧ (decode cX11_sample 127 = .ok (.iastore, 1)) ∧ (decode cX11_sample 128 = .ok (.aload_n 0, 1)) ∧ (decode cX11_sample 129 = .ok (.getfield 30, 3)) ∧ (decode cX11_sample 132 = .ok (.iload_n 1, 1)) ∧ (decode cX11_sample 133 = .ok (.iconst 0, 1)) ∧ (decode cX11_sample 134 = .ok (.iastore, 1)) ∧ (decode cX11_sample 135 = .ok (.iconst 0, 1)) ∧ (decode cX11_sample 136 = .ok (.istore 6, 2)) ∧ (decode cX11_sample 138 = .ok (.iload 6, 2)) ∧ (decode cX11_sample 140 = .ok (.sipush 2000, 3)) ∧ (decode cX11_sample 143 = .ok (.if_icmp .ge 23, 3)) := by decide +kernel
theorem dX11_sample_120 : decode cX11_sample 120 = .ok (.iastore, 1) := dq_X11_sample_120.1
theorem dX11_sample_121 : decode cX11_sample 121 = .ok (.aload_n 0, 1) := dq_X11_sample_120.2.1
theorem dX11_sample_122 : decode cX11_sample 122 = .ok (.getfield 27, 3) := dq_X11_sample_120.2.2.1
theorem dX11_sample_125 : decode cX11_sample 125 = .ok (.iload_n 1, 1) := dq_X11_sample_120.2.2.2.1
theorem dX11_sample_126 : decode cX11_sample 126 = .ok (.iconst 0, 1) := dq_X11_sample_120.2.2.2.2.1
theorem dX11_sample_127 : decode cX11_sample 127 = .ok (.iastore, 1) := dq_X11_sample_120.2.2.2.2.2.1
theorem dX11_sample_128 : decode cX11_sample 128 = .ok (.aload_n 0, 1) := dq_X11_sample_120.2.2.2.2.2.2.1
theorem dX11_sample_129 : decode cX11_sample 129 = .ok (.getfield 30, 3) := dq_X11_sample_120.2.2.2.2.2.2.2.1
theorem dX11_sample_132 : decode cX11_sample 132 = .ok (.iload_n 1, 1) := dq_X11_sample_120.2.2.2.2.2.2.2.2.1
theorem dX11_sample_133 : decode cX11_sample 133 = .ok (.iconst 0, 1) := dq_X11_sample_120.2.2.2.2.2.2.2.2.2.1
theorem dX11_sample_134 : decode cX11_sample 134 = .ok (.iastore, 1) := dq_X11_sample_120.2.2.2.2.2.2.2.2.2.2.1
theorem dX11_sample_135 : decode cX11_sample 135 = .ok (.iconst 0, 1) := dq_X11_sample_120.2.2.2.2.2.2.2.2.2.2.2.1
theorem dX11_sample_136 : decode cX11_sample 136 = .ok (.istore 6, 2) := dq_X11_sample_120.2.2.2.2.2.2.2.2.2.2.2.2.1
theorem dX11_sample_138 : decode cX11_sample 138 = .ok (.iload 6, 2) := dq_X11_sample_120.2.2.2.2.2.2.2.2.2.2.2.2.2.1
theorem dX11_sample_140 : decode cX11_sample 140 = .ok (.sipush 2000, 3) := dq_X11_sample_120.2.2.2.2.2.2.2.2.2.2.2.2.2.2.1
theorem dX11_sample_143 : decode cX11_sample 143 = .ok (.if_icmp .ge 23, 3) := dq_X11_sample_120.2.2.2.2.2.2.2.2.2.2.2.2.2.2.2
theorem dq_X11_sample_146 : (decode cX11_sample 146 = .ok (.aload_n 0, 1)) ∧ (decode cX11_sample 147 = .ok (.getfield 34, 3)) ∧ (decode cX11_sample 150 = .ok (.sipush 2000, 3)) ∧ (decode cX11_sample 153 = .ok (.iload_n 1, 1)) ∧ (decode cX11_sample 154 = .ok (.imul, 1)) ∧ (decode cX11_sample 155 = .ok (.iload 6, 2)) ∧ (decode cX11_sample 157 = .ok (.iadd, 1)) ∧ (decode cX11_sample 158 = .ok (.iconst 0, 1)) ∧ (decode cX11_sample 159 = .ok (.bastore, 1)) ∧ (decode cX11_sample 160 = .ok (.iinc 6 1, 3)) ∧ (decode cX11_sample 163 = .ok (.goto (-25), 3)) ∧ (decode cX11_sample 166 = .ok (.iconst 1, 1)) ∧ (decode cX11_sample 167 = .ok (.ireturn, 1)) := by decide +kernel
theorem dX11_sample_146 : decode cX11_sample 146 = .ok (.aload_n 0, 1) := dq_X11_sample_146.1
theorem dX11_sample_147 : decode cX11_sample 147 = .ok (.getfield 34, 3) := dq_X11_sample_146.2.1
theorem dX11_sample_150 : decode cX11_sample 150 = .ok (.sipush 2000, 3) := dq_X11_sample_146.2.2.1
theorem dX11_sample_153 : decode cX11_sample 153 = .ok (.iload_n 1, 1) := dq_X11_sample_146.2.2.2.1
theorem dX11_sample_154 : decode cX11_sample 154 = .ok (.imul, 1) := dq_X11_sample_146.2.2.2.2.1
theorem dX11_sample_155 : decode cX11_sample 155 = .ok (.iload 6, 2) := dq_X11_sample_146.2.2.2.2.2.1
theorem dX11_sample_157 : decode cX11_sample 157 = .ok (.iadd, 1) := dq_X11_sample_146.2.2.2.2.2.2.1
theorem dX11_sample_158 : decode cX11_sample 158 = .ok (.iconst 0, 1) := dq_X11_sample_146.2.2.2.2.2.2.2.1
theorem dX11_sample_159 : decode cX11_sample 159 = .ok (.bastore, 1) := dq_X11_sample_146.2.2.2.2.2.2.2.2.1
theorem dX11_sample_160 : decode cX11_sample 160 = .ok (.iinc 6 1, 3) := dq_X11_sample_146.2.2.2.2.2.2.2.2.2.1
theorem dX11_sample_163 : decode cX11_sample 163 = .ok (.goto (-25), 3) := dq_X11_sample_146.2.2.2.2.2.2.2.2.2.2.1
theorem dX11_sample_166 : decode cX11_sample 166 = .ok (.iconst 1, 1) := dq_X11_sample_146.2.2.2.2.2.2.2.2.2.2.2.1
theorem dX11_sample_167 : decode cX11_sample 167 = .ok (.ireturn, 1) := dq_X11_sample_146.2.2.2.2.2.2.2.2.2.2.2.2
theorem dq_X11_loop_0 : (decode cX11_loop 0 = .ok (.iload_n 1, 1)) ∧ (decode cX11_loop 1 = .ok (.invokestatic 188, 3)) ∧ (decode cX11_loop 4 = .ok (.ifCond .eq 37, 3)) ∧ (decode cX11_loop 7 = .ok (.iload_n 2, 1)) ∧ (decode cX11_loop 8 = .ok (.iconst 0, 1)) ∧ (decode cX11_loop 9 = .ok (.sipush 2000, 3)) ∧ (decode cX11_loop 12 = .ok (.invokestatic 145, 3)) ∧ (decode cX11_loop 15 = .ok (.ifCond .eq 26, 3)) ∧ (decode cX11_loop 18 = .ok (.iload_n 3, 1)) ∧ (decode cX11_loop 19 = .ok (.iconst 0, 1)) ∧ (decode cX11_loop 20 = .ok (.sipush 2000, 3)) ∧ (decode cX11_loop 23 = .ok (.invokestatic 145, 3)) ∧ (decode cX11_loop 26 = .ok (.ifCond .eq 15, 3)) ∧ (decode cX11_loop 29 = .ok (.iload_n 2, 1)) ∧ (decode cX11_loop 30 = .ok (.iconst 2, 1)) ∧ (decode cX11_loop 31 = .ok (.irem, 1)) := by decide +kernel
theorem dX11_loop_0 : decode cX11_loop 0 = .ok (.iload_n 1, 1) := dq_X11_loop_0.1
theorem dX11_loop_1 : decode cX11_loop 1 = .ok (.invokestatic 188, 3) := dq_X11_loop_0.2.1
theorem dX11_loop_4 : decode cX11_loop 4 = .ok (.ifCond .eq 37, 3) := dq_X11_loop_0.2.2.1
theorem dX11_loop_7 : decode cX11_loop 7 = .ok (.iload_n 2, 1) := dq_X11_loop_0.2.2.2.1
theorem dX11_loop_8 : decode cX11_loop 8 = .ok (.iconst 0, 1) := dq_X11_loop_0.2.2.2.2.1
theorem dX11_loop_9 : decode cX11_loop 9 = .ok (.sipush 2000, 3) := dq_X11_loop_0.2.2.2.2.2.1
theorem dX11_loop_12 : decode cX11_loop 12 = .ok (.invokestatic 145, 3) := dq_X11_loop_0.2.2.2.2.2.2.1
theorem dX11_loop_15 : decode cX11_loop 15 = .ok (.ifCond .eq 26, 3) := dq_X11_loop_0.2.2.2.2.2.2.2.1
theorem dX11_loop_18 : decode cX11_loop 18 = .ok (.iload_n 3, 1) := dq_X11_loop_0.2.2.2.2.2.2.2.2.1
theorem dX11_loop_19 : decode cX11_loop 19 = .ok (.iconst 0, 1) := dq_X11_loop_0.2.2.2.2.2.2.2.2.2.1
theorem dX11_loop_20 : decode cX11_loop 20 = .ok (.sipush 2000, 3) := dq_X11_loop_0.2.2.2.2.2.2.2.2.2.2.1
theorem dX11_loop_23 : decode cX11_loop 23 = .ok (.invokestatic 145, 3) := dq_X11_loop_0.2.2.2.2.2.2.2.2.2.2.2.1
theorem dX11_loop_26 : decode cX11_loop 26 = .ok (.ifCond .eq 15, 3) := dq_X11_loop_0.2.2.2.2.2.2.2.2.2.2.2.2.1
theorem dX11_loop_29 : decode cX11_loop 29 = .ok (.iload_n 2, 1) := dq_X11_loop_0.2.2.2.2.2.2.2.2.2.2.2.2.2.1
theorem dX11_loop_30 : decode cX11_loop 30 = .ok (.iconst 2, 1) := dq_X11_loop_0.2.2.2.2.2.2.2.2.2.2.2.2.2.2.1
theorem dX11_loop_31 : decode cX11_loop 31 = .ok (.irem, 1) := dq_X11_loop_0.2.2.2.2.2.2.2.2.2.2.2.2.2.2.2
theorem dq_X11_loop_32 : (decode cX11_loop 32 = .ok (.ifCond .ne 9, 3)) ∧ (decode cX11_loop 35 = .ok (.iload_n 3, 1)) ∧ (decode cX11_loop 36 = .ok (.iconst 2, 1)) ∧ (decode cX11_loop 37 = .ok (.irem, 1)) ∧ (decode cX11_loop 38 = .ok (.ifCond .eq 5, 3)) ∧ (decode cX11_loop 41 = .ok (.iconst 0, 1)) ∧ (decode cX11_loop 42 = .ok (.ireturn, 1)) ∧ (decode cX11_loop 43 = .ok (.iload_n 2, 1)) ∧ (decode cX11_loop 44 = .ok (.iload_n 3, 1)) ∧ (decode cX11_loop 45 = .ok (.iconst 2, 1)) ∧ (decode cX11_loop 46 = .ok (.if_icmp .le 7, 3)) ∧ (decode cX11_loop 49 = .ok (.iload_n 3, 1)) ∧ (decode cX11_loop 50 = .ok (.goto 4, 3)) ∧ (decode cX11_loop 53 = .ok (.iconst 0, 1)) ∧ (decode cX11_loop 54 = .ok (.iadd, 1)) ∧ (decode cX11_loop 55 = .ok (.aload_n 0, 1)) := by decide +kernel
theorem dX11_loop_32 : decode cX11_loop 32 = .ok (.ifCond .ne 9, 3) := dq_X11_loop_32.1
theorem dX11_loop_35 : decode cX11_loop 35 = .ok (.iload_n 3, 1) := dq_X11_loop_32.2.1
theorem dX11_loop_36 : decode cX11_loop 36 = .ok (.iconst 2, 1) := dq_X11_loop_32.2.2.1
theorem dX11_loop_37 : decode cX11_loop 37 = .ok (.irem, 1) := dq_X11_loop_32.2.2.2.1
theorem dX11_loop_38 : decode cX11_loop 38 = .ok (.ifCond .eq 5, 3) := dq_X11_loop_32.2.2.2.2.1
theorem dX11_loop_41 : decode cX11_loop 41 = .ok (.iconst 0, 1) := dq_X11_loop_32.2.2.2.2.2.1
theorem dX11_loop_42 : decode cX11_loop 42 = .ok (.ireturn, 1) := dq_X11_loop_32.2.2.2.2.2.2.1
theorem dX11_loop_43 : decode cX11_loop 43 = .ok (.iload_n 2, 1) := dq_X11_loop_32.2.2.2.2.2.2.2.1
theorem dX11_loop_44 : decode cX11_loop 44 = .ok (.iload_n 3, 1) := dq_X11_loop_32.2.2.2.2.2.2.2.2.1
theorem dX11_loop_45 : decode cX11_loop 45 = .ok (.iconst 2, 1) := dq_X11_loop_32.2.2.2.2.2.2.2.2.2.1
theorem dX11_loop_46 : decode cX11_loop 46 = .ok (.if_icmp .le 7, 3) := dq_X11_loop_32.2.2.2.2.2.2.2.2.2.2.1
theorem dX11_loop_49 : decode cX11_loop 49 = .ok (.iload_n 3, 1) := dq_X11_loop_32.2.2.2.2.2.2.2.2.2.2.2.1
theorem dX11_loop_50 : decode cX11_loop 50 = .ok (.goto 4, 3) := dq_X11_loop_32.2.2.2.2.2.2.2.2.2.2.2.2.1
theorem dX11_loop_53 : decode cX11_loop 53 = .ok (.iconst 0, 1) := dq_X11_loop_32.2.2.2.2.2.2.2.2.2.2.2.2.2.1
theorem dX11_loop_54 : decode cX11_loop 54 = .ok (.iadd, 1) := dq_X11_loop_32.2.2.2.2.2.2.2.2.2.2.2.2.2.2.1
theorem dX11_loop_55 : decode cX11_loop 55 = .ok (.aload_n 0, 1) := dq_X11_loop_32.2.2.2.2.2.2.2.2.2.2.2.2.2.2.2
theorem dq_X11_loop_56 : (decode cX11_loop 56 = .ok (.getfield 17, 3)) ∧ (decode cX11_loop 59 = .ok (.iload_n 1, 1)) ∧ (decode cX11_loop 60 = .ok (.iaload, 1)) ∧ (decode cX11_loop 61 = .ok (.if_icmp .le 5, 3)) ∧ (decode cX11_loop 64 = .ok (.iconst 0, 1)) ∧ (decode cX11_loop 65 = .ok (.ireturn, 1)) ∧ (decode cX11_loop 66 = .ok (.aload_n 0, 1)) ∧ (decode cX11_loop 67 = .ok (.getfield 27, 3)) ∧ (decode cX11_loop 70 = .ok (.iload_n 1, 1)) ∧ (decode cX11_loop 71 = .ok (.iload_n 2, 1)) ∧ (decode cX11_loop 72 = .ok (.iastore, 1)) ∧ (decode cX11_loop 73 = .ok (.aload_n 0, 1)) ∧ (decode cX11_loop 74 = .ok (.getfield 30, 3)) ∧ (decode cX11_loop 77 = .ok (.iload_n 1, 1)) ∧ (decode cX11_loop 78 = .ok (.iload_n 3, 1)) ∧ (decode cX11_loop 79 = .ok (.iastore, 1)) := by decide +kernel
theorem dX11_loop_56 : decode cX11_loop 56 = .ok (.getfield 17, 3) := dq_X11_loop_56.1
theorem dX11_loop_59 : decode cX11_loop 59 = .ok (.iload_n 1, 1) := dq_X11_loop_56.2.1
theorem dX11_loop_60 : decode cX11_loop 60 = .ok (.iaload, 1) := dq_X11_loop_56.2.2.1
theorem dX11_loop_61 : decode cX11_loop 61 = .ok (.if_icmp .le 5, 3) := dq_X11_loop_56.2.2.2.1
theorem dX11_loop_64 : decode cX11_loop 64 = .ok (.iconst 0, 1) := dq_X11_loop_56.2.2.2.2.1
theorem dX11_loop_65 : decode cX11_loop 65 = .ok (.ireturn, 1) := dq_X11_loop_56.2.2.2.2.2.1
theorem dX11_loop_66 : decode cX11_loop 66 = .ok (.aload_n 0, 1) := dq_X11_loop_56.2.2.2.2.2.2.1
theorem dX11_loop_67 : decode cX11_loop 67 = .ok (.getfield 27, 3) := dq_X11_loop_56.2.2.2.2.2.2.2.1
theorem dX11_loop_70 : decode cX11_loop 70 = .ok (.iload_n 1, 1) := dq_X11_loop_56.2.2.2.2.2.2.2.2.1
theorem dX11_loop_71 : decode cX11_loop 71 = .ok (.iload_n 2, 1) := dq_X11_loop_56.2.2.2.2.2.2.2.2.2.1
theorem dX11_loop_72 : decode cX11_loop 72 = .ok (.iastore, 1) := dq_X11_loop_56.2.2.2.2.2.2.2.2.2.2.1
theorem dX11_loop_73 : decode cX11_loop 73 = .ok (.aload_n 0, 1) := dq_X11_loop_56.2.2.2.2.2.2.2.2.2.2.2.1
theorem dX11_loop_74 : decode cX11_loop 74 = .ok (.getfield 30, 3) := dq_X11_loop_56.2.2.2.2.2.2.2.2.2.2.2.2.1
theorem dX11_loop_77 : decode cX11_loop 77 = .ok (.iload_n 1, 1) := dq_X11_loop_56.2.2.2.2.2.2.2.2.2.2.2.2.2.1
theorem dX11_loop_78 : decode cX11_loop 78 = .ok (.iload_n 3, 1) := dq_X11_loop_56.2.2.2.2.2.2.2.2.2.2.2.2.2.2.1
theorem dX11_loop_79 : decode cX11_loop 79 = .ok (.iastore, 1) := dq_X11_loop_56.2.2.2.2.2.2.2.2.2.2.2.2.2.2.2
theorem dq_X11_loop_80 : (decode cX11_loop 80 = .ok (.iconst 1, 1)) ∧ (decode cX11_loop 81 = .ok (.ireturn, 1)) := by decide +kernel
theorem dX11_loop_80 : decode cX11_loop 80 = .ok (.iconst 1, 1) := dq_X11_loop_80.1
theorem dX11_loop_81 : decode cX11_loop 81 = .ok (.ireturn, 1) := dq_X11_loop_80.2
theorem dq_X11_wave_0 : (decode cX11_wave 0 = .ok (.iload_n 1, 1)) ∧ (decode cX11_wave 1 = .ok (.invokestatic 188, 3)) ∧ (decode cX11_wave 4 = .ok (.ifCond .eq 30, 3)) ∧ (decode cX11_wave 7 = .ok (.iload_n 2, 1)) ∧ (decode cX11_wave 8 = .ok (.iconst 0, 1)) ∧ (decode cX11_wave 9 = .ok (.aload_n 0, 1)) ∧ (decode cX11_wave 10 = .ok (.getfield 17, 3)) ∧ (decode cX11_wave 13 = .ok (.iload_n 1, 1)) ∧ (decode cX11_wave 14 = .ok (.iaload, 1)) ∧ (decode cX11_wave 15 = .ok (.iconst 1, 1)) ∧ (decode cX11_wave 16 = .ok (.isub, 1)) ∧ (decode cX11_wave 17 = .ok (.invokestatic 145, 3)) ∧ (decode cX11_wave 20 = .ok (.ifCond .eq 14, 3)) ∧ (decode cX11_wave 23 = .ok (.iload_n 3, 1)) ∧ (decode cX11_wave 24 = .ok (.bipush (-128), 2)) ∧ (decode cX11_wave 26 = .ok (.bipush 127, 2)) := by decide +kernel
theorem dX11_wave_0 : decode cX11_wave 0 = .ok (.iload_n 1, 1) := dq_X11_wave_0.1
theorem dX11_wave_1 : decode cX11_wave 1 = .ok (.invokestatic 188, 3) := dq_X11_wave_0.2.1
theorem dX11_wave_4 : decode cX11_wave 4 = .ok (.ifCond .eq 30, 3) := dq_X11_wave_0.2.2.1
theorem dX11_wave_7 : decode cX11_wave 7 = .ok (.iload_n 2, 1) := dq_X11_wave_0.2.2.2.1
theorem dX11_wave_8 : decode cX11_wave 8 = .ok (.iconst 0, 1) := dq_X11_wave_0.2.2.2.2.1
theorem dX11_wave_9 : decode cX11_wave 9 = .ok (.aload_n 0, 1) := dq_X11_wave_0.2.2.2.2.2.1
theorem dX11_wave_10 : decode cX11_wave 10 = .ok (.getfield 17, 3) := dq_X11_wave_0.2.2.2.2.2.2.1
theorem dX11_wave_13 : decode cX11_wave 13 = .ok (.iload_n 1, 1) := dq_X11_wave_0.2.2.2.2.2.2.2.1
theorem dX11_wave_14 : decode cX11_wave 14 = .ok (.iaload, 1) := dq_X11_wave_0.2.2.2.2.2.2.2.2.1
theorem dX11_wave_15 : decode cX11_wave 15 = .ok (.iconst 1, 1) := dq_X11_wave_0.2.2.2.2.2.2.2.2.2.1
theorem dX11_wave_16 : decode cX11_wave 16 = .ok (.isub, 1) := dq_X11_wave_0.2.2.2.2.2.2.2.2.2.2.1
theorem dX11_wave_17 : decode cX11_wave 17 = .ok (.invokestatic 145, 3) := dq_X11_wave_0.2.2.2.2.2.2.2.2.2.2.2.1
theorem dX11_wave_20 : decode cX11_wave 20 = .ok (.ifCond .eq 14, 3) := dq_X11_wave_0.2.2.2.2.2.2.2.2.2.2.2.2.1
theorem dX11_wave_23 : decode cX11_wave 23 = .ok (.iload_n 3, 1) := dq_X11_wave_0.2.2.2.2.2.2.2.2.2.2.2.2.2.1
theorem dX11_wave_24 : decode cX11_wave 24 = .ok (.bipush (-128), 2) := dq_X11_wave_0.2.2.2.2.2.2.2.2.2.2.2.2.2.2.1
theorem dX11_wave_26 : decode cX11_wave 26 = .ok (.bipush 127, 2) := dq_X11_wave_0.2.2.2.2.2.2.2.2.2.2.2.2.2.2.2
theorem dq_X11_wave_28 : (decode cX11_wave 28 = .ok (.invokestatic 145, 3)) ∧ (decode cX11_wave 31 = .ok (.ifCond .ne 5, 3)) ∧ (decode cX11_wave 34 = .ok (.iconst 0, 1)) ∧ (decode cX11_wave 35 = .ok (.ireturn, 1)) ∧ (decode cX11_wave 36 = .ok (.aload_n 0, 1)) ∧ (decode cX11_wave 37 = .ok (.getfield 34, 3)) ∧ (decode cX11_wave 40 = .ok (.sipush 2000, 3)) ∧ (decode cX11_wave 43 = .ok (.iload_n 1, 1)) ∧ (decode cX11_wave 44 = .ok (.imul, 1)) ∧ (decode cX11_wave 45 = .ok (.iload_n 2, 1)) ∧ (decode cX11_wave 46 = .ok (.iadd, 1)) ∧ (decode cX11_wave 47 = .ok (.iload_n 3, 1)) ∧ (decode cX11_wave 48 = .ok (.i2b, 1)) ∧ (decode cX11_wave 49 = .ok (.bastore, 1)) ∧ (decode cX11_wave 50 = .ok (.iconst 1, 1)) ∧ (decode cX11_wave 51 = .ok (.ireturn, 1)) := by decide +kernel
theorem dX11_wave_28 : decode cX11_wave 28 = .ok (.invokestatic 145, 3) := dq_X11_wave_28.1
theorem dX11_wave_31 : decode cX11_wave 31 = .ok (.ifCond .ne 5, 3) := dq_X11_wave_28.2.1
theorem dX11_wave_34 : decode cX11_wave 34 = .ok (.iconst 0, 1) := dq_X11_wave_28.2.2.1
theorem dX11_wave_35 : decode cX11_wave 35 = .ok (.ireturn, 1) := dq_X11_wave_28.2.2.2.1
theorem dX11_wave_36 : decode cX11_wave 36 = .ok (.aload_n 0, 1) := dq_X11_wave_28.2.2.2.2.1
theorem dX11_wave_37 : decode cX11_wave 37 = .ok (.getfield 34, 3) := dq_X11_wave_28.2.2.2.2.2.1
theorem dX11_wave_40 : decode cX11_wave 40 = .ok (.sipush 2000, 3) := dq_X11_wave_28.2.2.2.2.2.2.1
theorem dX11_wave_43 : decode cX11_wave 43 = .ok (.iload_n 1, 1) := dq_X11_wave_28.2.2.2.2.2.2.2.1
theorem dX11_wave_44 : decode cX11_wave 44 = .ok (.imul, 1) := dq_X11_wave_28.2.2.2.2.2.2.2.2.1
theorem dX11_wave_45 : decode cX11_wave 45 = .ok (.iload_n 2, 1) := dq_X11_wave_28.2.2.2.2.2.2.2.2.2.1
theorem dX11_wave_46 : decode cX11_wave 46 = .ok (.iadd, 1) := dq_X11_wave_28.2.2.2.2.2.2.2.2.2.2.1
theorem dX11_wave_47 : decode cX11_wave 47 = .ok (.iload_n 3, 1) := dq_X11_wave_28.2.2.2.2.2.2.2.2.2.2.2.1
theorem dX11_wave_48 : decode cX11_wave 48 = .ok (.i2b, 1) := dq_X11_wave_28.2.2.2.2.2.2.2.2.2.2.2.2.1
theorem dX11_wave_49 : decode cX11_wave 49 = .ok (.bastore, 1) := dq_X11_wave_28.2.2.2.2.2.2.2.2.2.2.2.2.2.1
theorem dX11_wave_50 : decode cX11_wave 50 = .ok (.iconst 1, 1) := dq_X11_wave_28.2.2.2.2.2.2.2.2.2.2.2.2.2.2.1
theorem dX11_wave_51 : decode cX11_wave 51 = .ok (.ireturn, 1) := dq_X11_wave_28.2.2.2.2.2.2.2.2.2.2.2.2.2.2.2
theorem dq_X11_cellIndex_0 : (decode cX11_cellIndex 0 = .ok (.iload_n 0, 1)) ∧ (decode cX11_cellIndex 1 = .ok (.iconst 0, 1)) ∧ (decode cX11_cellIndex 2 = .ok (.bipush 7, 2)) ∧ (decode cX11_cellIndex 4 = .ok (.invokestatic 145, 3)) ∧ (decode cX11_cellIndex 7 = .ok (.ifCond .eq 36, 3)) ∧ (decode cX11_cellIndex 10 = .ok (.iload_n 1, 1)) ∧ (decode cX11_cellIndex 11 = .ok (.iconst 0, 1)) ∧ (decode cX11_cellIndex 12 = .ok (.bipush 63, 2)) ∧ (decode cX11_cellIndex 14 = .ok (.invokestatic 145, 3)) ∧ (decode cX11_cellIndex 17 = .ok (.ifCond .eq 26, 3)) ∧ (decode cX11_cellIndex 20 = .ok (.iload_n 2, 1)) ∧ (decode cX11_cellIndex 21 = .ok (.iconst 0, 1)) ∧ (decode cX11_cellIndex 22 = .ok (.iconst 3, 1)) ∧ (decode cX11_cellIndex 23 = .ok (.invokestatic 145, 3)) ∧ (decode cX11_cellIndex 26 = .ok (.ifCond .eq 17, 3)) ∧ (decode cX11_cellIndex 29 = .ok (.sipush 256, 3)) := by decide +kernel
theorem dX11_cellIndex_0 : decode cX11_cellIndex 0 = .ok (.iload_n 0, 1) := dq_X11_cellIndex_0.1
theorem dX11_cellIndex_1 : decode cX11_cellIndex 1 = .ok (.iconst 0, 1) := dq_X11_cellIndex_0.2.1
theorem dX11_cellIndex_2 : decode cX11_cellIndex 2 = .ok (.bipush 7, 2) := dq_X11_cellIndex_0.2.2.1
theorem dX11_cellIndex_4 : decode cX11_cellIndex 4 = .ok (.invokestatic 145, 3) := dq_X11_cellIndex_0.2.2.2.1
theorem dX11_cellIndex_7 : decode cX11_cellIndex 7 = .ok (.ifCond .eq 36, 3) := dq_X11_cellIndex_0.2.2.2.2.1
theorem dX11_cellIndex_10 : decode cX11_cellIndex 10 = .ok (.iload_n 1, 1) := dq_X11_cellIndex_0.2.2.2.2.2.1
theorem dX11_cellIndex_11 : decode cX11_cellIndex 11 = .ok (.iconst 0, 1) := dq_X11_cellIndex_0.2.2.2.2.2.2.1
theorem dX11_cellIndex_12 : decode cX11_cellIndex 12 = .ok (.bipush 63, 2) := dq_X11_cellIndex_0.2.2.2.2.2.2.2.1
theorem dX11_cellIndex_14 : decode cX11_cellIndex 14 = .ok (.invokestatic 145, 3) := dq_X11_cellIndex_0.2.2.2.2.2.2.2.2.1
theorem dX11_cellIndex_17 : decode cX11_cellIndex 17 = .ok (.ifCond .eq 26, 3) := dq_X11_cellIndex_0.2.2.2.2.2.2.2.2.2.1
theorem dX11_cellIndex_20 : decode cX11_cellIndex 20 = .ok (.iload_n 2, 1) := dq_X11_cellIndex_0.2.2.2.2.2.2.2.2.2.2.1
theorem dX11_cellIndex_21 : decode cX11_cellIndex 21 = .ok (.iconst 0, 1) := dq_X11_cellIndex_0.2.2.2.2.2.2.2.2.2.2.2.1
theorem dX11_cellIndex_22 : decode cX11_cellIndex 22 = .ok (.iconst 3, 1) := dq_X11_cellIndex_0.2.2.2.2.2.2.2.2.2.2.2.2.1
theorem dX11_cellIndex_23 : decode cX11_cellIndex 23 = .ok (.invokestatic 145, 3) := dq_X11_cellIndex_0.2.2.2.2.2.2.2.2.2.2.2.2.2.1
theorem dX11_cellIndex_26 : decode cX11_cellIndex 26 = .ok (.ifCond .eq 17, 3) := dq_X11_cellIndex_0.2.2.2.2.2.2.2.2.2.2.2.2.2.2.1
theorem dX11_cellIndex_29 : decode cX11_cellIndex 29 = .ok (.sipush 256, 3) := dq_X11_cellIndex_0.2.2.2.2.2.2.2.2.2.2.2.2.2.2.2
theorem dq_X11_cellIndex_32 : (decode cX11_cellIndex 32 = .ok (.iload_n 0, 1)) ∧ (decode cX11_cellIndex 33 = .ok (.imul, 1)) ∧ (decode cX11_cellIndex 34 = .ok (.iconst 4, 1)) ∧ (decode cX11_cellIndex 35 = .ok (.iload_n 1, 1)) ∧ (decode cX11_cellIndex 36 = .ok (.imul, 1)) ∧ (decode cX11_cellIndex 37 = .ok (.iadd, 1)) ∧ (decode cX11_cellIndex 38 = .ok (.iload_n 2, 1)) ∧ (decode cX11_cellIndex 39 = .ok (.iadd, 1)) ∧ (decode cX11_cellIndex 40 = .ok (.goto 4, 3)) ∧ (decode cX11_cellIndex 43 = .ok (.iconst (-1), 1)) ∧ (decode cX11_cellIndex 44 = .ok (.ireturn, 1)) := by decide +kernel
theorem dX11_cellIndex_32 : decode cX11_cellIndex 32 = .ok (.iload_n 0, 1) := dq_X11_cellIndex_32.1
theorem dX11_cellIndex_33 : decode cX11_cellIndex 33 = .ok (.imul, 1) := dq_X11_cellIndex_32.2.1
theorem dX11_cellIndex_34 : decode cX11_cellIndex 34 = .ok (.iconst 4, 1) := dq_X11_cellIndex_32.2.2.1
theorem dX11_cellIndex_35 : decode cX11_cellIndex 35 = .ok (.iload_n 1, 1) := dq_X11_cellIndex_32.2.2.2.1
theorem dX11_cellIndex_36 : decode cX11_cellIndex 36 = .ok (.imul, 1) := dq_X11_cellIndex_32.2.2.2.2.1
theorem dX11_cellIndex_37 : decode cX11_cellIndex 37 = .ok (.iadd, 1) := dq_X11_cellIndex_32.2.2.2.2.2.1
theorem dX11_cellIndex_38 : decode cX11_cellIndex 38 = .ok (.iload_n 2, 1) := dq_X11_cellIndex_32.2.2.2.2.2.2.1
theorem dX11_cellIndex_39 : decode cX11_cellIndex 39 = .ok (.iadd, 1) := dq_X11_cellIndex_32.2.2.2.2.2.2.2.1
theorem dX11_cellIndex_40 : decode cX11_cellIndex 40 = .ok (.goto 4, 3) := dq_X11_cellIndex_32.2.2.2.2.2.2.2.2.1
theorem dX11_cellIndex_43 : decode cX11_cellIndex 43 = .ok (.iconst (-1), 1) := dq_X11_cellIndex_32.2.2.2.2.2.2.2.2.2.1
theorem dX11_cellIndex_44 : decode cX11_cellIndex 44 = .ok (.ireturn, 1) := dq_X11_cellIndex_32.2.2.2.2.2.2.2.2.2.2
theorem dq_X11_cell_0 : (decode cX11_cell 0 = .ok (.iload_n 1, 1)) ∧ (decode cX11_cell 1 = .ok (.iload_n 2, 1)) ∧ (decode cX11_cell 2 = .ok (.iload_n 3, 1)) ∧ (decode cX11_cell 3 = .ok (.invokestatic 192, 3)) ∧ (decode cX11_cell 6 = .ok (.istore 5, 2)) ∧ (decode cX11_cell 8 = .ok (.iload 5, 2)) ∧ (decode cX11_cell 10 = .ok (.iconst (-1), 1)) ∧ (decode cX11_cell 11 = .ok (.if_icmp .eq 14, 3)) ∧ (decode cX11_cell 14 = .ok (.iload 4, 2)) ∧ (decode cX11_cell 16 = .ok (.iconst 0, 1)) ∧ (decode cX11_cell 17 = .ok (.ldc 196, 2)) ∧ (decode cX11_cell 19 = .ok (.invokestatic 145, 3)) ∧ (decode cX11_cell 22 = .ok (.ifCond .ne 5, 3)) ∧ (decode cX11_cell 25 = .ok (.iconst 0, 1)) ∧ (decode cX11_cell 26 = .ok (.ireturn, 1)) ∧ (decode cX11_cell 27 = .ok (.aload_n 0, 1)) := by decide +kernel
theorem dX11_cell_0 : decode cX11_cell 0 = .ok (.iload_n 1, 1) := dq_X11_cell_0.1
theorem dX11_cell_1 : decode cX11_cell 1 = .ok (.iload_n 2, 1) := dq_X11_cell_0.2.1
theorem dX11_cell_2 : decode cX11_cell 2 = .ok (.iload_n 3, 1) := dq_X11_cell_0.2.2.1
theorem dX11_cell_3 : decode cX11_cell 3 = .ok (.invokestatic 192, 3) := dq_X11_cell_0.2.2.2.1
theorem dX11_cell_6 : decode cX11_cell 6 = .ok (.istore 5, 2) := dq_X11_cell_0.2.2.2.2.1
theorem dX11_cell_8 : decode cX11_cell 8 = .ok (.iload 5, 2) := dq_X11_cell_0.2.2.2.2.2.1
theorem dX11_cell_10 : decode cX11_cell 10 = .ok (.iconst (-1), 1) := dq_X11_cell_0.2.2.2.2.2.2.1
theorem dX11_cell_11 : decode cX11_cell 11 = .ok (.if_icmp .eq 14, 3) := dq_X11_cell_0.2.2.2.2.2.2.2.1
theorem dX11_cell_14 : decode cX11_cell 14 = .ok (.iload 4, 2) := dq_X11_cell_0.2.2.2.2.2.2.2.2.1
theorem dX11_cell_16 : decode cX11_cell 16 = .ok (.iconst 0, 1) := dq_X11_cell_0.2.2.2.2.2.2.2.2.2.1
theorem dX11_cell_17 : decode cX11_cell 17 = .ok (.ldc 196, 2) := dq_X11_cell_0.2.2.2.2.2.2.2.2.2.2.1
theorem dX11_cell_19 : decode cX11_cell 19 = .ok (.invokestatic 145, 3) := dq_X11_cell_0.2.2.2.2.2.2.2.2.2.2.2.1
theorem dX11_cell_22 : decode cX11_cell 22 = .ok (.ifCond .ne 5, 3) := dq_X11_cell_0.2.2.2.2.2.2.2.2.2.2.2.2.1
theorem dX11_cell_25 : decode cX11_cell 25 = .ok (.iconst 0, 1) := dq_X11_cell_0.2.2.2.2.2.2.2.2.2.2.2.2.2.1
theorem dX11_cell_26 : decode cX11_cell 26 = .ok (.ireturn, 1) := dq_X11_cell_0.2.2.2.2.2.2.2.2.2.2.2.2.2.2.1
theorem dX11_cell_27 : decode cX11_cell 27 = .ok (.aload_n 0, 1) := dq_X11_cell_0.2.2.2.2.2.2.2.2.2.2.2.2.2.2.2
theorem dq_X11_cell_28 : (decode cX11_cell 28 = .ok (.getfield 37, 3)) ∧ (decode cX11_cell 31 = .ok (.iload 5, 2)) ∧ (decode cX11_cell 33 = .ok (.iload 4, 2)) ∧ (decode cX11_cell 35 = .ok (.iastore, 1)) ∧ (decode cX11_cell 36 = .ok (.iconst 1, 1)) ∧ (decode cX11_cell 37 = .ok (.ireturn, 1)) := by decide +kernel
theorem dX11_cell_28 : decode cX11_cell 28 = .ok (.getfield 37, 3) := dq_X11_cell_28.1
theorem dX11_cell_31 : decode cX11_cell 31 = .ok (.iload 5, 2) := dq_X11_cell_28.2.1
theorem dX11_cell_33 : decode cX11_cell 33 = .ok (.iload 4, 2) := dq_X11_cell_28.2.2.1
theorem dX11_cell_35 : decode cX11_cell 35 = .ok (.iastore, 1) := dq_X11_cell_28.2.2.2.1
theorem dX11_cell_36 : decode cX11_cell 36 = .ok (.iconst 1, 1) := dq_X11_cell_28.2.2.2.2.1
theorem dX11_cell_37 : decode cX11_cell 37 = .ok (.ireturn, 1) := dq_X11_cell_28.2.2.2.2.2
theorem dq_X11_cellOf_0 : (decode cX11_cellOf 0 = .ok (.iload_n 1, 1)) ∧ (decode cX11_cellOf 1 = .ok (.iload_n 2, 1)) ∧ (decode cX11_cellOf 2 = .ok (.iload_n 3, 1)) ∧ (decode cX11_cellOf 3 = .ok (.invokestatic 192, 3)) ∧ (decode cX11_cellOf 6 = .ok (.istore 4, 2)) ∧ (decode cX11_cellOf 8 = .ok (.iload 4, 2)) ∧ (decode cX11_cellOf 10 = .ok (.iconst (-1), 1)) ∧ (decode cX11_cellOf 11 = .ok (.if_icmp .ne 7, 3)) ∧ (decode cX11_cellOf 14 = .ok (.iconst (-1), 1)) ∧ (decode cX11_cellOf 15 = .ok (.goto 10, 3)) ∧ (decode cX11_cellOf 18 = .ok (.aload_n 0, 1)) ∧ (decode cX11_cellOf 19 = .ok (.getfield 37, 3)) ∧ (decode cX11_cellOf 22 = .ok (.iload 4, 2)) ∧ (decode cX11_cellOf 24 = .ok (.iaload, 1)) ∧ (decode cX11_cellOf 25 = .ok (.ireturn, 1)) := by decide +kernel
theorem dX11_cellOf_0 : decode cX11_cellOf 0 = .ok (.iload_n 1, 1) := dq_X11_cellOf_0.1
theorem dX11_cellOf_1 : decode cX11_cellOf 1 = .ok (.iload_n 2, 1) := dq_X11_cellOf_0.2.1
theorem dX11_cellOf_2 : decode cX11_cellOf 2 = .ok (.iload_n 3, 1) := dq_X11_cellOf_0.2.2.1
theorem dX11_cellOf_3 : decode cX11_cellOf 3 = .ok (.invokestatic 192, 3) := dq_X11_cellOf_0.2.2.2.1
theorem dX11_cellOf_6 : decode cX11_cellOf 6 = .ok (.istore 4, 2) := dq_X11_cellOf_0.2.2.2.2.1
theorem dX11_cellOf_8 : decode cX11_cellOf 8 = .ok (.iload 4, 2) := dq_X11_cellOf_0.2.2.2.2.2.1
theorem dX11_cellOf_10 : decode cX11_cellOf 10 = .ok (.iconst (-1), 1) := dq_X11_cellOf_0.2.2.2.2.2.2.1
theorem dX11_cellOf_11 : decode cX11_cellOf 11 = .ok (.if_icmp .ne 7, 3) := dq_X11_cellOf_0.2.2.2.2.2.2.2.1
theorem dX11_cellOf_14 : decode cX11_cellOf 14 = .ok (.iconst (-1), 1) := dq_X11_cellOf_0.2.2.2.2.2.2.2.2.1
theorem dX11_cellOf_15 : decode cX11_cellOf 15 = .ok (.goto 10, 3) := dq_X11_cellOf_0.2.2.2.2.2.2.2.2.2.1
theorem dX11_cellOf_18 : decode cX11_cellOf 18 = .ok (.aload_n 0, 1) := dq_X11_cellOf_0.2.2.2.2.2.2.2.2.2.2.1
theorem dX11_cellOf_19 : decode cX11_cellOf 19 = .ok (.getfield 37, 3) := dq_X11_cellOf_0.2.2.2.2.2.2.2.2.2.2.2.1
theorem dX11_cellOf_22 : decode cX11_cellOf 22 = .ok (.iload 4, 2) := dq_X11_cellOf_0.2.2.2.2.2.2.2.2.2.2.2.2.1
theorem dX11_cellOf_24 : decode cX11_cellOf 24 = .ok (.iaload, 1) := dq_X11_cellOf_0.2.2.2.2.2.2.2.2.2.2.2.2.2.1
theorem dX11_cellOf_25 : decode cX11_cellOf 25 = .ok (.ireturn, 1) := dq_X11_cellOf_0.2.2.2.2.2.2.2.2.2.2.2.2.2.2
theorem dq_X11_place_0 : (decode cX11_place 0 = .ok (.iload_n 1, 1)) ∧ (decode cX11_place 1 = .ok (.iconst 0, 1)) ∧ (decode cX11_place 2 = .ok (.bipush 127, 2)) ∧ (decode cX11_place 4 = .ok (.invokestatic 145, 3)) ∧ (decode cX11_place 7 = .ok (.ifCond .eq 13, 3)) ∧ (decode cX11_place 10 = .ok (.iload_n 2, 1)) ∧ (decode cX11_place 11 = .ok (.iconst 0, 1)) ∧ (decode cX11_place 12 = .ok (.bipush 7, 2)) ∧ (decode cX11_place 14 = .ok (.invokestatic 145, 3)) ∧ (decode cX11_place 17 = .ok (.ifCond .ne 5, 3)) ∧ (decode cX11_place 20 = .ok (.iconst 0, 1)) ∧ (decode cX11_place 21 = .ok (.ireturn, 1)) ∧ (decode cX11_place 22 = .ok (.aload_n 0, 1)) ∧ (decode cX11_place 23 = .ok (.getfield 40, 3)) ∧ (decode cX11_place 26 = .ok (.iload_n 1, 1)) ∧ (decode cX11_place 27 = .ok (.iload_n 2, 1)) := by decide +kernel
theorem dX11_place_0 : decode cX11_place 0 = .ok (.iload_n 1, 1) := dq_X11_place_0.1
theorem dX11_place_1 : decode cX11_place 1 = .ok (.iconst 0, 1) := dq_X11_place_0.2.1
theorem dX11_place_2 : decode cX11_place 2 = .ok (.bipush 127, 2) := dq_X11_place_0.2.2.1
theorem dX11_place_4 : decode cX11_place 4 = .ok (.invokestatic 145, 3) := dq_X11_place_0.2.2.2.1
theorem dX11_place_7 : decode cX11_place 7 = .ok (.ifCond .eq 13, 3) := dq_X11_place_0.2.2.2.2.1
theorem dX11_place_10 : decode cX11_place 10 = .ok (.iload_n 2, 1) := dq_X11_place_0.2.2.2.2.2.1
theorem dX11_place_11 : decode cX11_place 11 = .ok (.iconst 0, 1) := dq_X11_place_0.2.2.2.2.2.2.1
theorem dX11_place_12 : decode cX11_place 12 = .ok (.bipush 7, 2) := dq_X11_place_0.2.2.2.2.2.2.2.1
theorem dX11_place_14 : decode cX11_place 14 = .ok (.invokestatic 145, 3) := dq_X11_place_0.2.2.2.2.2.2.2.2.1
theorem dX11_place_17 : decode cX11_place 17 = .ok (.ifCond .ne 5, 3) := dq_X11_place_0.2.2.2.2.2.2.2.2.2.1
theorem dX11_place_20 : decode cX11_place 20 = .ok (.iconst 0, 1) := dq_X11_place_0.2.2.2.2.2.2.2.2.2.2.1
theorem dX11_place_21 : decode cX11_place 21 = .ok (.ireturn, 1) := dq_X11_place_0.2.2.2.2.2.2.2.2.2.2.2.1
theorem dX11_place_22 : decode cX11_place 22 = .ok (.aload_n 0, 1) := dq_X11_place_0.2.2.2.2.2.2.2.2.2.2.2.2.1
theorem dX11_place_23 : decode cX11_place 23 = .ok (.getfield 40, 3) := dq_X11_place_0.2.2.2.2.2.2.2.2.2.2.2.2.2.1
theorem dX11_place_26 : decode cX11_place 26 = .ok (.iload_n 1, 1) := dq_X11_place_0.2.2.2.2.2.2.2.2.2.2.2.2.2.2.1
theorem dX11_place_27 : decode cX11_place 27 = .ok (.iload_n 2, 1) := dq_X11_place_0.2.2.2.2.2.2.2.2.2.2.2.2.2.2.2
theorem dq_X11_place_28 : (decode cX11_place 28 = .ok (.iastore, 1)) ∧ (decode cX11_place 29 = .ok (.iconst 1, 1)) ∧ (decode cX11_place 30 = .ok (.ireturn, 1)) := by decide +kernel
theorem dX11_place_28 : decode cX11_place 28 = .ok (.iastore, 1) := dq_X11_place_28.1
theorem dX11_place_29 : decode cX11_place 29 = .ok (.iconst 1, 1) := dq_X11_place_28.2.1
theorem dX11_place_30 : decode cX11_place 30 = .ok (.ireturn, 1) := dq_X11_place_28.2.2
theorem dq_X11_song_0 : (decode cX11_song 0 = .ok (.iload_n 1, 1)) ∧ (decode cX11_song 1 = .ok (.iconst 1, 1)) ∧ (decode cX11_song 2 = .ok (.sipush 128, 3)) ∧ (decode cX11_song 5 = .ok (.invokestatic 145, 3)) ∧ (decode cX11_song 8 = .ok (.ifCond .eq 14, 3)) ∧ (decode cX11_song 11 = .ok (.iload_n 2, 1)) ∧ (decode cX11_song 12 = .ok (.iconst 0, 1)) ∧ (decode cX11_song 13 = .ok (.sipush 255, 3)) ∧ (decode cX11_song 16 = .ok (.invokestatic 145, 3)) ∧ (decode cX11_song 19 = .ok (.ifCond .ne 5, 3)) ∧ (decode cX11_song 22 = .ok (.iconst 0, 1)) ∧ (decode cX11_song 23 = .ok (.ireturn, 1)) ∧ (decode cX11_song 24 = .ok (.aload_n 0, 1)) ∧ (decode cX11_song 25 = .ok (.iload_n 1, 1)) ∧ (decode cX11_song 26 = .ok (.putfield 43, 3)) ∧ (decode cX11_song 29 = .ok (.aload_n 0, 1)) := by decide +kernel
theorem dX11_song_0 : decode cX11_song 0 = .ok (.iload_n 1, 1) := dq_X11_song_0.1
theorem dX11_song_1 : decode cX11_song 1 = .ok (.iconst 1, 1) := dq_X11_song_0.2.1
theorem dX11_song_2 : decode cX11_song 2 = .ok (.sipush 128, 3) := dq_X11_song_0.2.2.1
theorem dX11_song_5 : decode cX11_song 5 = .ok (.invokestatic 145, 3) := dq_X11_song_0.2.2.2.1
theorem dX11_song_8 : decode cX11_song 8 = .ok (.ifCond .eq 14, 3) := dq_X11_song_0.2.2.2.2.1
theorem dX11_song_11 : decode cX11_song 11 = .ok (.iload_n 2, 1) := dq_X11_song_0.2.2.2.2.2.1
theorem dX11_song_12 : decode cX11_song 12 = .ok (.iconst 0, 1) := dq_X11_song_0.2.2.2.2.2.2.1
theorem dX11_song_13 : decode cX11_song 13 = .ok (.sipush 255, 3) := dq_X11_song_0.2.2.2.2.2.2.2.1
theorem dX11_song_16 : decode cX11_song 16 = .ok (.invokestatic 145, 3) := dq_X11_song_0.2.2.2.2.2.2.2.2.1
theorem dX11_song_19 : decode cX11_song 19 = .ok (.ifCond .ne 5, 3) := dq_X11_song_0.2.2.2.2.2.2.2.2.2.1
theorem dX11_song_22 : decode cX11_song 22 = .ok (.iconst 0, 1) := dq_X11_song_0.2.2.2.2.2.2.2.2.2.2.1
theorem dX11_song_23 : decode cX11_song 23 = .ok (.ireturn, 1) := dq_X11_song_0.2.2.2.2.2.2.2.2.2.2.2.1
theorem dX11_song_24 : decode cX11_song 24 = .ok (.aload_n 0, 1) := dq_X11_song_0.2.2.2.2.2.2.2.2.2.2.2.2.1
theorem dX11_song_25 : decode cX11_song 25 = .ok (.iload_n 1, 1) := dq_X11_song_0.2.2.2.2.2.2.2.2.2.2.2.2.2.1
theorem dX11_song_26 : decode cX11_song 26 = .ok (.putfield 43, 3) := dq_X11_song_0.2.2.2.2.2.2.2.2.2.2.2.2.2.2.1
theorem dX11_song_29 : decode cX11_song 29 = .ok (.aload_n 0, 1) := dq_X11_song_0.2.2.2.2.2.2.2.2.2.2.2.2.2.2.2
theorem dq_X11_song_30 : (decode cX11_song 30 = .ok (.iload_n 2, 1)) ∧ (decode cX11_song 31 = .ok (.putfield 172, 3)) ∧ (decode cX11_song 34 = .ok (.iconst 1, 1)) ∧ (decode cX11_song 35 = .ok (.ireturn, 1)) := by decide +kernel
theorem dX11_song_30 : decode cX11_song 30 = .ok (.iload_n 2, 1) := dq_X11_song_30.1
theorem dX11_song_31 : decode cX11_song 31 = .ok (.putfield 172, 3) := dq_X11_song_30.2.1
theorem dX11_song_34 : decode cX11_song 34 = .ok (.iconst 1, 1) := dq_X11_song_30.2.2.1
theorem dX11_song_35 : decode cX11_song 35 = .ok (.ireturn, 1) := dq_X11_song_30.2.2.2
theorem dq_X11_mute_0 : (decode cX11_mute 0 = .ok (.iload_n 1, 1)) ∧ (decode cX11_mute 1 = .ok (.iconst 0, 1)) ∧ (decode cX11_mute 2 = .ok (.iconst 3, 1)) ∧ (decode cX11_mute 3 = .ok (.invokestatic 145, 3)) ∧ (decode cX11_mute 6 = .ok (.ifCond .ne 5, 3)) ∧ (decode cX11_mute 9 = .ok (.iconst 0, 1)) ∧ (decode cX11_mute 10 = .ok (.ireturn, 1)) ∧ (decode cX11_mute 11 = .ok (.aload_n 0, 1)) ∧ (decode cX11_mute 12 = .ok (.getfield 120, 3)) ∧ (decode cX11_mute 15 = .ok (.iload_n 1, 1)) ∧ (decode cX11_mute 16 = .ok (.baload, 1)) ∧ (decode cX11_mute 17 = .ok (.istore_n 3, 1)) ∧ (decode cX11_mute 18 = .ok (.aload_n 0, 1)) ∧ (decode cX11_mute 19 = .ok (.getfield 120, 3)) ∧ (decode cX11_mute 22 = .ok (.iload_n 1, 1)) ∧ (decode cX11_mute 23 = .ok (.iload_n 2, 1)) := by decide +kernel
theorem dX11_mute_0 : decode cX11_mute 0 = .ok (.iload_n 1, 1) := dq_X11_mute_0.1
theorem dX11_mute_1 : decode cX11_mute 1 = .ok (.iconst 0, 1) := dq_X11_mute_0.2.1
theorem dX11_mute_2 : decode cX11_mute 2 = .ok (.iconst 3, 1) := dq_X11_mute_0.2.2.1
theorem dX11_mute_3 : decode cX11_mute 3 = .ok (.invokestatic 145, 3) := dq_X11_mute_0.2.2.2.1
theorem dX11_mute_6 : decode cX11_mute 6 = .ok (.ifCond .ne 5, 3) := dq_X11_mute_0.2.2.2.2.1
theorem dX11_mute_9 : decode cX11_mute 9 = .ok (.iconst 0, 1) := dq_X11_mute_0.2.2.2.2.2.1
theorem dX11_mute_10 : decode cX11_mute 10 = .ok (.ireturn, 1) := dq_X11_mute_0.2.2.2.2.2.2.1
theorem dX11_mute_11 : decode cX11_mute 11 = .ok (.aload_n 0, 1) := dq_X11_mute_0.2.2.2.2.2.2.2.1
theorem dX11_mute_12 : decode cX11_mute 12 = .ok (.getfield 120, 3) := dq_X11_mute_0.2.2.2.2.2.2.2.2.1
theorem dX11_mute_15 : decode cX11_mute 15 = .ok (.iload_n 1, 1) := dq_X11_mute_0.2.2.2.2.2.2.2.2.2.1
theorem dX11_mute_16 : decode cX11_mute 16 = .ok (.baload, 1) := dq_X11_mute_0.2.2.2.2.2.2.2.2.2.2.1
theorem dX11_mute_17 : decode cX11_mute 17 = .ok (.istore_n 3, 1) := dq_X11_mute_0.2.2.2.2.2.2.2.2.2.2.2.1
theorem dX11_mute_18 : decode cX11_mute 18 = .ok (.aload_n 0, 1) := dq_X11_mute_0.2.2.2.2.2.2.2.2.2.2.2.2.1
theorem dX11_mute_19 : decode cX11_mute 19 = .ok (.getfield 120, 3) := dq_X11_mute_0.2.2.2.2.2.2.2.2.2.2.2.2.2.1
theorem dX11_mute_22 : decode cX11_mute 22 = .ok (.iload_n 1, 1) := dq_X11_mute_0.2.2.2.2.2.2.2.2.2.2.2.2.2.2.1
theorem dX11_mute_23 : decode cX11_mute 23 = .ok (.iload_n 2, 1) := dq_X11_mute_0.2.2.2.2.2.2.2.2.2.2.2.2.2.2.2
theorem dq_X11_mute_24 : (decode cX11_mute 24 = .ok (.bastore, 1)) ∧ (decode cX11_mute 25 = .ok (.iload_n 3, 1)) ∧ (decode cX11_mute 26 = .ok (.ireturn, 1)) := by decide +kernel
theorem dX11_mute_24 : decode cX11_mute 24 = .ok (.bastore, 1) := dq_X11_mute_24.1
theorem dX11_mute_25 : decode cX11_mute 25 = .ok (.iload_n 3, 1) := dq_X11_mute_24.2.1
theorem dX11_mute_26 : decode cX11_mute 26 = .ok (.ireturn, 1) := dq_X11_mute_24.2.2
theorem dq_X11_start_0 : (decode cX11_start 0 = .ok (.aload_n 0, 1)) ∧ (decode cX11_start 1 = .ok (.bipush 6, 2)) ∧ (decode cX11_start 3 = .ok (.putfield 197, 3)) ∧ (decode cX11_start 6 = .ok (.aload_n 0, 1)) ∧ (decode cX11_start 7 = .ok (.bipush 125, 2)) ∧ (decode cX11_start 9 = .ok (.putfield 200, 3)) ∧ (decode cX11_start 12 = .ok (.aload_n 0, 1)) ∧ (decode cX11_start 13 = .ok (.iconst (-1), 1)) ∧ (decode cX11_start 14 = .ok (.putfield 203, 3)) ∧ (decode cX11_start 17 = .ok (.aload_n 0, 1)) ∧ (decode cX11_start 18 = .ok (.iconst (-1), 1)) ∧ (decode cX11_start 19 = .ok (.putfield 206, 3)) ∧ (decode cX11_start 22 = .ok (.aload_n 0, 1)) ∧ (decode cX11_start 23 = .ok (.iconst (-1), 1)) ∧ (decode cX11_start 24 = .ok (.putfield 209, 3)) ∧ (decode cX11_start 27 = .ok (.aload_n 0, 1)) := by decide +kernel
theorem dX11_start_0 : decode cX11_start 0 = .ok (.aload_n 0, 1) := dq_X11_start_0.1
theorem dX11_start_1 : decode cX11_start 1 = .ok (.bipush 6, 2) := dq_X11_start_0.2.1
theorem dX11_start_3 : decode cX11_start 3 = .ok (.putfield 197, 3) := dq_X11_start_0.2.2.1
theorem dX11_start_6 : decode cX11_start 6 = .ok (.aload_n 0, 1) := dq_X11_start_0.2.2.2.1
theorem dX11_start_7 : decode cX11_start 7 = .ok (.bipush 125, 2) := dq_X11_start_0.2.2.2.2.1
theorem dX11_start_9 : decode cX11_start 9 = .ok (.putfield 200, 3) := dq_X11_start_0.2.2.2.2.2.1
theorem dX11_start_12 : decode cX11_start 12 = .ok (.aload_n 0, 1) := dq_X11_start_0.2.2.2.2.2.2.1
theorem dX11_start_13 : decode cX11_start 13 = .ok (.iconst (-1), 1) := dq_X11_start_0.2.2.2.2.2.2.2.1
theorem dX11_start_14 : decode cX11_start 14 = .ok (.putfield 203, 3) := dq_X11_start_0.2.2.2.2.2.2.2.2.1
theorem dX11_start_17 : decode cX11_start 17 = .ok (.aload_n 0, 1) := dq_X11_start_0.2.2.2.2.2.2.2.2.2.1
theorem dX11_start_18 : decode cX11_start 18 = .ok (.iconst (-1), 1) := dq_X11_start_0.2.2.2.2.2.2.2.2.2.2.1
theorem dX11_start_19 : decode cX11_start 19 = .ok (.putfield 206, 3) := dq_X11_start_0.2.2.2.2.2.2.2.2.2.2.2.1
theorem dX11_start_22 : decode cX11_start 22 = .ok (.aload_n 0, 1) := dq_X11_start_0.2.2.2.2.2.2.2.2.2.2.2.2.1
theorem dX11_start_23 : decode cX11_start 23 = .ok (.iconst (-1), 1) := dq_X11_start_0.2.2.2.2.2.2.2.2.2.2.2.2.2.1
theorem dX11_start_24 : decode cX11_start 24 = .ok (.putfield 209, 3) := dq_X11_start_0.2.2.2.2.2.2.2.2.2.2.2.2.2.2.1
theorem dX11_start_27 : decode cX11_start 27 = .ok (.aload_n 0, 1) := dq_X11_start_0.2.2.2.2.2.2.2.2.2.2.2.2.2.2.2
theorem dq_X11_start_28 : (decode cX11_start 28 = .ok (.iconst (-1), 1)) ∧ (decode cX11_start 29 = .ok (.putfield 212, 3)) ∧ (decode cX11_start 32 = .ok (.aload_n 0, 1)) ∧ (decode cX11_start 33 = .ok (.iconst 0, 1)) ∧ (decode cX11_start 34 = .ok (.putfield 215, 3)) ∧ (decode cX11_start 37 = .ok (.aload_n 0, 1)) ∧ (decode cX11_start 38 = .ok (.iconst 0, 1)) ∧ (decode cX11_start 39 = .ok (.putfield 218, 3)) ∧ (decode cX11_start 42 = .ok (.aload_n 0, 1)) ∧ (decode cX11_start 43 = .ok (.bipush 17, 2)) ∧ (decode cX11_start 45 = .ok (.putfield 221, 3)) ∧ (decode cX11_start 48 = .ok (.aload_n 0, 1)) ∧ (decode cX11_start 49 = .ok (.iconst 0, 1)) ∧ (decode cX11_start 50 = .ok (.putfield 224, 3)) ∧ (decode cX11_start 53 = .ok (.iconst 0, 1)) ∧ (decode cX11_start 54 = .ok (.istore_n 1, 1)) := by decide +kernel
theorem dX11_start_28 : decode cX11_start 28 = .ok (.iconst (-1), 1) := dq_X11_start_28.1
theorem dX11_start_29 : decode cX11_start 29 = .ok (.putfield 212, 3) := dq_X11_start_28.2.1
theorem dX11_start_32 : decode cX11_start 32 = .ok (.aload_n 0, 1) := dq_X11_start_28.2.2.1
theorem dX11_start_33 : decode cX11_start 33 = .ok (.iconst 0, 1) := dq_X11_start_28.2.2.2.1
theorem dX11_start_34 : decode cX11_start 34 = .ok (.putfield 215, 3) := dq_X11_start_28.2.2.2.2.1
theorem dX11_start_37 : decode cX11_start 37 = .ok (.aload_n 0, 1) := dq_X11_start_28.2.2.2.2.2.1
theorem dX11_start_38 : decode cX11_start 38 = .ok (.iconst 0, 1) := dq_X11_start_28.2.2.2.2.2.2.1
theorem dX11_start_39 : decode cX11_start 39 = .ok (.putfield 218, 3) := dq_X11_start_28.2.2.2.2.2.2.2.1
theorem dX11_start_42 : decode cX11_start 42 = .ok (.aload_n 0, 1) := dq_X11_start_28.2.2.2.2.2.2.2.2.1
theorem dX11_start_43 : decode cX11_start 43 = .ok (.bipush 17, 2) := dq_X11_start_28.2.2.2.2.2.2.2.2.2.1
theorem dX11_start_45 : decode cX11_start 45 = .ok (.putfield 221, 3) := dq_X11_start_28.2.2.2.2.2.2.2.2.2.2.1
theorem dX11_start_48 : decode cX11_start 48 = .ok (.aload_n 0, 1) := dq_X11_start_28.2.2.2.2.2.2.2.2.2.2.2.1
theorem dX11_start_49 : decode cX11_start 49 = .ok (.iconst 0, 1) := dq_X11_start_28.2.2.2.2.2.2.2.2.2.2.2.2.1
theorem dX11_start_50 : decode cX11_start 50 = .ok (.putfield 224, 3) := dq_X11_start_28.2.2.2.2.2.2.2.2.2.2.2.2.2.1
theorem dX11_start_53 : decode cX11_start 53 = .ok (.iconst 0, 1) := dq_X11_start_28.2.2.2.2.2.2.2.2.2.2.2.2.2.2.1
theorem dX11_start_54 : decode cX11_start 54 = .ok (.istore_n 1, 1) := dq_X11_start_28.2.2.2.2.2.2.2.2.2.2.2.2.2.2.2
theorem dq_X11_start_55 : (decode cX11_start 55 = .ok (.iload_n 1, 1)) ∧ (decode cX11_start 56 = .ok (.sipush 8192, 3)) ∧ (decode cX11_start 59 = .ok (.if_icmp .ge 16, 3)) ∧ (decode cX11_start 62 = .ok (.aload_n 0, 1)) ∧ (decode cX11_start 63 = .ok (.getfield 46, 3)) ∧ (decode cX11_start 66 = .ok (.iload_n 1, 1)) ∧ (decode cX11_start 67 = .ok (.iconst 0, 1)) ∧ (decode cX11_start 68 = .ok (.bastore, 1)) ∧ (decode cX11_start 69 = .ok (.iinc 1 1, 3)) ∧ (decode cX11_start 72 = .ok (.goto (-17), 3)) ∧ (decode cX11_start 75 = .ok (.iconst 0, 1)) ∧ (decode cX11_start 76 = .ok (.istore_n 1, 1)) ∧ (decode cX11_start 77 = .ok (.iload_n 1, 1)) ∧ (decode cX11_start 78 = .ok (.iconst 4, 1)) ∧ (decode cX11_start 79 = .ok (.if_icmp .ge 14, 3)) ∧ (decode cX11_start 82 = .ok (.aload_n 0, 1)) := by decide +kernel
theorem dX11_start_55 : decode cX11_start 55 = .ok (.iload_n 1, 1) := dq_X11_start_55.1
theorem dX11_start_56 : decode cX11_start 56 = .ok (.sipush 8192, 3) := dq_X11_start_55.2.1
theorem dX11_start_59 : decode cX11_start 59 = .ok (.if_icmp .ge 16, 3) := dq_X11_start_55.2.2.1
theorem dX11_start_62 : decode cX11_start 62 = .ok (.aload_n 0, 1) := dq_X11_start_55.2.2.2.1
theorem dX11_start_63 : decode cX11_start 63 = .ok (.getfield 46, 3) := dq_X11_start_55.2.2.2.2.1
theorem dX11_start_66 : decode cX11_start 66 = .ok (.iload_n 1, 1) := dq_X11_start_55.2.2.2.2.2.1
theorem dX11_start_67 : decode cX11_start 67 = .ok (.iconst 0, 1) := dq_X11_start_55.2.2.2.2.2.2.1
theorem dX11_start_68 : decode cX11_start 68 = .ok (.bastore, 1) := dq_X11_start_55.2.2.2.2.2.2.2.1
theorem dX11_start_69 : decode cX11_start 69 = .ok (.iinc 1 1, 3) := dq_X11_start_55.2.2.2.2.2.2.2.2.1
theorem dX11_start_72 : decode cX11_start 72 = .ok (.goto (-17), 3) := dq_X11_start_55.2.2.2.2.2.2.2.2.2.1
theorem dX11_start_75 : decode cX11_start 75 = .ok (.iconst 0, 1) := dq_X11_start_55.2.2.2.2.2.2.2.2.2.2.1
theorem dX11_start_76 : decode cX11_start 76 = .ok (.istore_n 1, 1) := dq_X11_start_55.2.2.2.2.2.2.2.2.2.2.2.1
theorem dX11_start_77 : decode cX11_start 77 = .ok (.iload_n 1, 1) := dq_X11_start_55.2.2.2.2.2.2.2.2.2.2.2.2.1
theorem dX11_start_78 : decode cX11_start 78 = .ok (.iconst 4, 1) := dq_X11_start_55.2.2.2.2.2.2.2.2.2.2.2.2.2.1
theorem dX11_start_79 : decode cX11_start 79 = .ok (.if_icmp .ge 14, 3) := dq_X11_start_55.2.2.2.2.2.2.2.2.2.2.2.2.2.2.1
theorem dX11_start_82 : decode cX11_start 82 = .ok (.aload_n 0, 1) := dq_X11_start_55.2.2.2.2.2.2.2.2.2.2.2.2.2.2.2
theorem dq_X11_start_83 : (decode cX11_start 83 = .ok (.iload_n 1, 1)) ∧ (decode cX11_start 84 = .ok (.invokevirtual 227, 3)) ∧ (decode cX11_start 87 = .ok (.iinc 1 1, 3)) ∧ (decode cX11_start 90 = .ok (.goto (-13), 3)) ∧ (decode cX11_start 93 = .ok (.return_, 1)) := by decide +kernel
theorem dX11_start_83 : decode cX11_start 83 = .ok (.iload_n 1, 1) := dq_X11_start_83.1
theorem dX11_start_84 : decode cX11_start 84 = .ok (.invokevirtual 227, 3) := dq_X11_start_83.2.1
theorem dX11_start_87 : decode cX11_start 87 = .ok (.iinc 1 1, 3) := dq_X11_start_83.2.2.1
theorem dX11_start_90 : decode cX11_start 90 = .ok (.goto (-13), 3) := dq_X11_start_83.2.2.2.1
theorem dX11_start_93 : decode cX11_start 93 = .ok (.return_, 1) := dq_X11_start_83.2.2.2.2
theorem dq_X11_silence_0 : (decode cX11_silence 0 = .ok (.aload_n 0, 1)) ∧ (decode cX11_silence 1 = .ok (.getfield 56, 3)) ∧ (decode cX11_silence 4 = .ok (.iload_n 1, 1)) ∧ (decode cX11_silence 5 = .ok (.iconst 0, 1)) ∧ (decode cX11_silence 6 = .ok (.iastore, 1)) ∧ (decode cX11_silence 7 = .ok (.aload_n 0, 1)) ∧ (decode cX11_silence 8 = .ok (.getfield 59, 3)) ∧ (decode cX11_silence 11 = .ok (.iload_n 1, 1)) ∧ (decode cX11_silence 12 = .ok (.iconst 0, 1)) ∧ (decode cX11_silence 13 = .ok (.iastore, 1)) ∧ (decode cX11_silence 14 = .ok (.aload_n 0, 1)) ∧ (decode cX11_silence 15 = .ok (.getfield 62, 3)) ∧ (decode cX11_silence 18 = .ok (.iload_n 1, 1)) ∧ (decode cX11_silence 19 = .ok (.iconst 0, 1)) ∧ (decode cX11_silence 20 = .ok (.iastore, 1)) ∧ (decode cX11_silence 21 = .ok (.aload_n 0, 1)) := by decide +kernel
theorem dX11_silence_0 : decode cX11_silence 0 = .ok (.aload_n 0, 1) := dq_X11_silence_0.1
theorem dX11_silence_1 : decode cX11_silence 1 = .ok (.getfield 56, 3) := dq_X11_silence_0.2.1
theorem dX11_silence_4 : decode cX11_silence 4 = .ok (.iload_n 1, 1) := dq_X11_silence_0.2.2.1
theorem dX11_silence_5 : decode cX11_silence 5 = .ok (.iconst 0, 1) := dq_X11_silence_0.2.2.2.1
theorem dX11_silence_6 : decode cX11_silence 6 = .ok (.iastore, 1) := dq_X11_silence_0.2.2.2.2.1
theorem dX11_silence_7 : decode cX11_silence 7 = .ok (.aload_n 0, 1) := dq_X11_silence_0.2.2.2.2.2.1
theorem dX11_silence_8 : decode cX11_silence 8 = .ok (.getfield 59, 3) := dq_X11_silence_0.2.2.2.2.2.2.1
theorem dX11_silence_11 : decode cX11_silence 11 = .ok (.iload_n 1, 1) := dq_X11_silence_0.2.2.2.2.2.2.2.1
theorem dX11_silence_12 : decode cX11_silence 12 = .ok (.iconst 0, 1) := dq_X11_silence_0.2.2.2.2.2.2.2.2.1
theorem dX11_silence_13 : decode cX11_silence 13 = .ok (.iastore, 1) := dq_X11_silence_0.2.2.2.2.2.2.2.2.2.1
theorem dX11_silence_14 : decode cX11_silence 14 = .ok (.aload_n 0, 1) := dq_X11_silence_0.2.2.2.2.2.2.2.2.2.2.1
theorem dX11_silence_15 : decode cX11_silence 15 = .ok (.getfield 62, 3) := dq_X11_silence_0.2.2.2.2.2.2.2.2.2.2.2.1
theorem dX11_silence_18 : decode cX11_silence 18 = .ok (.iload_n 1, 1) := dq_X11_silence_0.2.2.2.2.2.2.2.2.2.2.2.2.1
theorem dX11_silence_19 : decode cX11_silence 19 = .ok (.iconst 0, 1) := dq_X11_silence_0.2.2.2.2.2.2.2.2.2.2.2.2.2.1
theorem dX11_silence_20 : decode cX11_silence 20 = .ok (.iastore, 1) := dq_X11_silence_0.2.2.2.2.2.2.2.2.2.2.2.2.2.2.1
theorem dX11_silence_21 : decode cX11_silence 21 = .ok (.aload_n 0, 1) := dq_X11_silence_0.2.2.2.2.2.2.2.2.2.2.2.2.2.2.2
theorem dq_X11_silence_22 : (decode cX11_silence 22 = .ok (.getfield 65, 3)) ∧ (decode cX11_silence 25 = .ok (.iload_n 1, 1)) ∧ (decode cX11_silence 26 = .ok (.iconst 0, 1)) ∧ (decode cX11_silence 27 = .ok (.iastore, 1)) ∧ (decode cX11_silence 28 = .ok (.aload_n 0, 1)) ∧ (decode cX11_silence 29 = .ok (.getfield 68, 3)) ∧ (decode cX11_silence 32 = .ok (.iload_n 1, 1)) ∧ (decode cX11_silence 33 = .ok (.iconst 0, 1)) ∧ (decode cX11_silence 34 = .ok (.iastore, 1)) ∧ (decode cX11_silence 35 = .ok (.aload_n 0, 1)) ∧ (decode cX11_silence 36 = .ok (.getfield 71, 3)) ∧ (decode cX11_silence 39 = .ok (.iload_n 1, 1)) ∧ (decode cX11_silence 40 = .ok (.iconst 0, 1)) ∧ (decode cX11_silence 41 = .ok (.iastore, 1)) ∧ (decode cX11_silence 42 = .ok (.aload_n 0, 1)) ∧ (decode cX11_silence 43 = .ok (.getfield 74, 3)) := by decide +kernel
theorem dX11_silence_22 : decode cX11_silence 22 = .ok (.getfield 65, 3) := dq_X11_silence_22.1
theorem dX11_silence_25 : decode cX11_silence 25 = .ok (.iload_n 1, 1) := dq_X11_silence_22.2.1
theorem dX11_silence_26 : decode cX11_silence 26 = .ok (.iconst 0, 1) := dq_X11_silence_22.2.2.1
theorem dX11_silence_27 : decode cX11_silence 27 = .ok (.iastore, 1) := dq_X11_silence_22.2.2.2.1
theorem dX11_silence_28 : decode cX11_silence 28 = .ok (.aload_n 0, 1) := dq_X11_silence_22.2.2.2.2.1
theorem dX11_silence_29 : decode cX11_silence 29 = .ok (.getfield 68, 3) := dq_X11_silence_22.2.2.2.2.2.1
theorem dX11_silence_32 : decode cX11_silence 32 = .ok (.iload_n 1, 1) := dq_X11_silence_22.2.2.2.2.2.2.1
theorem dX11_silence_33 : decode cX11_silence 33 = .ok (.iconst 0, 1) := dq_X11_silence_22.2.2.2.2.2.2.2.1
theorem dX11_silence_34 : decode cX11_silence 34 = .ok (.iastore, 1) := dq_X11_silence_22.2.2.2.2.2.2.2.2.1
theorem dX11_silence_35 : decode cX11_silence 35 = .ok (.aload_n 0, 1) := dq_X11_silence_22.2.2.2.2.2.2.2.2.2.1
theorem dX11_silence_36 : decode cX11_silence 36 = .ok (.getfield 71, 3) := dq_X11_silence_22.2.2.2.2.2.2.2.2.2.2.1
theorem dX11_silence_39 : decode cX11_silence 39 = .ok (.iload_n 1, 1) := dq_X11_silence_22.2.2.2.2.2.2.2.2.2.2.2.1
theorem dX11_silence_40 : decode cX11_silence 40 = .ok (.iconst 0, 1) := dq_X11_silence_22.2.2.2.2.2.2.2.2.2.2.2.2.1
theorem dX11_silence_41 : decode cX11_silence 41 = .ok (.iastore, 1) := dq_X11_silence_22.2.2.2.2.2.2.2.2.2.2.2.2.2.1
theorem dX11_silence_42 : decode cX11_silence 42 = .ok (.aload_n 0, 1) := dq_X11_silence_22.2.2.2.2.2.2.2.2.2.2.2.2.2.2.1
theorem dX11_silence_43 : decode cX11_silence 43 = .ok (.getfield 74, 3) := dq_X11_silence_22.2.2.2.2.2.2.2.2.2.2.2.2.2.2.2
theorem dq_X11_silence_46 : (decode cX11_silence 46 = .ok (.iload_n 1, 1)) ∧ (decode cX11_silence 47 = .ok (.iconst 0, 1)) ∧ (decode cX11_silence 48 = .ok (.iastore, 1)) ∧ (decode cX11_silence 49 = .ok (.aload_n 0, 1)) ∧ (decode cX11_silence 50 = .ok (.getfield 77, 3)) ∧ (decode cX11_silence 53 = .ok (.iload_n 1, 1)) ∧ (decode cX11_silence 54 = .ok (.iconst 0, 1)) ∧ (decode cX11_silence 55 = .ok (.iastore, 1)) ∧ (decode cX11_silence 56 = .ok (.aload_n 0, 1)) ∧ (decode cX11_silence 57 = .ok (.getfield 80, 3)) ∧ (decode cX11_silence 60 = .ok (.iload_n 1, 1)) ∧ (decode cX11_silence 61 = .ok (.iconst 0, 1)) ∧ (decode cX11_silence 62 = .ok (.iastore, 1)) ∧ (decode cX11_silence 63 = .ok (.aload_n 0, 1)) ∧ (decode cX11_silence 64 = .ok (.getfield 83, 3)) ∧ (decode cX11_silence 67 = .ok (.iload_n 1, 1)) := by decide +kernel
theorem dX11_silence_46 : decode cX11_silence 46 = .ok (.iload_n 1, 1) := dq_X11_silence_46.1
theorem dX11_silence_47 : decode cX11_silence 47 = .ok (.iconst 0, 1) := dq_X11_silence_46.2.1
theorem dX11_silence_48 : decode cX11_silence 48 = .ok (.iastore, 1) := dq_X11_silence_46.2.2.1
theorem dX11_silence_49 : decode cX11_silence 49 = .ok (.aload_n 0, 1) := dq_X11_silence_46.2.2.2.1
theorem dX11_silence_50 : decode cX11_silence 50 = .ok (.getfield 77, 3) := dq_X11_silence_46.2.2.2.2.1
theorem dX11_silence_53 : decode cX11_silence 53 = .ok (.iload_n 1, 1) := dq_X11_silence_46.2.2.2.2.2.1
theorem dX11_silence_54 : decode cX11_silence 54 = .ok (.iconst 0, 1) := dq_X11_silence_46.2.2.2.2.2.2.1
theorem dX11_silence_55 : decode cX11_silence 55 = .ok (.iastore, 1) := dq_X11_silence_46.2.2.2.2.2.2.2.1
theorem dX11_silence_56 : decode cX11_silence 56 = .ok (.aload_n 0, 1) := dq_X11_silence_46.2.2.2.2.2.2.2.2.1
theorem dX11_silence_57 : decode cX11_silence 57 = .ok (.getfield 80, 3) := dq_X11_silence_46.2.2.2.2.2.2.2.2.2.1
theorem dX11_silence_60 : decode cX11_silence 60 = .ok (.iload_n 1, 1) := dq_X11_silence_46.2.2.2.2.2.2.2.2.2.2.1
theorem dX11_silence_61 : decode cX11_silence 61 = .ok (.iconst 0, 1) := dq_X11_silence_46.2.2.2.2.2.2.2.2.2.2.2.1
theorem dX11_silence_62 : decode cX11_silence 62 = .ok (.iastore, 1) := dq_X11_silence_46.2.2.2.2.2.2.2.2.2.2.2.2.1
theorem dX11_silence_63 : decode cX11_silence 63 = .ok (.aload_n 0, 1) := dq_X11_silence_46.2.2.2.2.2.2.2.2.2.2.2.2.2.1
theorem dX11_silence_64 : decode cX11_silence 64 = .ok (.getfield 83, 3) := dq_X11_silence_46.2.2.2.2.2.2.2.2.2.2.2.2.2.2.1
theorem dX11_silence_67 : decode cX11_silence 67 = .ok (.iload_n 1, 1) := dq_X11_silence_46.2.2.2.2.2.2.2.2.2.2.2.2.2.2.2
theorem dq_X11_silence_68 : (decode cX11_silence 68 = .ok (.iconst 0, 1)) ∧ (decode cX11_silence 69 = .ok (.iastore, 1)) ∧ (decode cX11_silence 70 = .ok (.aload_n 0, 1)) ∧ (decode cX11_silence 71 = .ok (.getfield 86, 3)) ∧ (decode cX11_silence 74 = .ok (.iload_n 1, 1)) ∧ (decode cX11_silence 75 = .ok (.iconst 0, 1)) ∧ (decode cX11_silence 76 = .ok (.iastore, 1)) ∧ (decode cX11_silence 77 = .ok (.aload_n 0, 1)) ∧ (decode cX11_silence 78 = .ok (.getfield 89, 3)) ∧ (decode cX11_silence 81 = .ok (.iload_n 1, 1)) ∧ (decode cX11_silence 82 = .ok (.iconst 0, 1)) ∧ (decode cX11_silence 83 = .ok (.iastore, 1)) ∧ (decode cX11_silence 84 = .ok (.aload_n 0, 1)) ∧ (decode cX11_silence 85 = .ok (.getfield 92, 3)) ∧ (decode cX11_silence 88 = .ok (.iload_n 1, 1)) ∧ (decode cX11_silence 89 = .ok (.iconst 0, 1)) := by decide +kernel
theorem dX11_silence_68 : decode cX11_silence 68 = .ok (.iconst 0, 1) := dq_X11_silence_68.1
theorem dX11_silence_69 : decode cX11_silence 69 = .ok (.iastore, 1) := dq_X11_silence_68.2.1
theorem dX11_silence_70 : decode cX11_silence 70 = .ok (.aload_n 0, 1) := dq_X11_silence_68.2.2.1
theorem dX11_silence_71 : decode cX11_silence 71 = .ok (.getfield 86, 3) := dq_X11_silence_68.2.2.2.1
theorem dX11_silence_74 : decode cX11_silence 74 = .ok (.iload_n 1, 1) := dq_X11_silence_68.2.2.2.2.1
theorem dX11_silence_75 : decode cX11_silence 75 = .ok (.iconst 0, 1) := dq_X11_silence_68.2.2.2.2.2.1
theorem dX11_silence_76 : decode cX11_silence 76 = .ok (.iastore, 1) := dq_X11_silence_68.2.2.2.2.2.2.1
theorem dX11_silence_77 : decode cX11_silence 77 = .ok (.aload_n 0, 1) := dq_X11_silence_68.2.2.2.2.2.2.2.1
theorem dX11_silence_78 : decode cX11_silence 78 = .ok (.getfield 89, 3) := dq_X11_silence_68.2.2.2.2.2.2.2.2.1
theorem dX11_silence_81 : decode cX11_silence 81 = .ok (.iload_n 1, 1) := dq_X11_silence_68.2.2.2.2.2.2.2.2.2.1
theorem dX11_silence_82 : decode cX11_silence 82 = .ok (.iconst 0, 1) := dq_X11_silence_68.2.2.2.2.2.2.2.2.2.2.1
theorem dX11_silence_83 : decode cX11_silence 83 = .ok (.iastore, 1) := dq_X11_silence_68.2.2.2.2.2.2.2.2.2.2.2.1
theorem dX11_silence_84 : decode cX11_silence 84 = .ok (.aload_n 0, 1) := dq_X11_silence_68.2.2.2.2.2.2.2.2.2.2.2.2.1
theorem dX11_silence_85 : decode cX11_silence 85 = .ok (.getfield 92, 3) := dq_X11_silence_68.2.2.2.2.2.2.2.2.2.2.2.2.2.1
theorem dX11_silence_88 : decode cX11_silence 88 = .ok (.iload_n 1, 1) := dq_X11_silence_68.2.2.2.2.2.2.2.2.2.2.2.2.2.2.1
theorem dX11_silence_89 : decode cX11_silence 89 = .ok (.iconst 0, 1) := dq_X11_silence_68.2.2.2.2.2.2.2.2.2.2.2.2.2.2.2
theorem dq_X11_silence_90 : (decode cX11_silence 90 = .ok (.iastore, 1)) ∧ (decode cX11_silence 91 = .ok (.aload_n 0, 1)) ∧ (decode cX11_silence 92 = .ok (.getfield 95, 3)) ∧ (decode cX11_silence 95 = .ok (.iload_n 1, 1)) ∧ (decode cX11_silence 96 = .ok (.iconst 0, 1)) ∧ (decode cX11_silence 97 = .ok (.iastore, 1)) ∧ (decode cX11_silence 98 = .ok (.aload_n 0, 1)) ∧ (decode cX11_silence 99 = .ok (.getfield 98, 3)) ∧ (decode cX11_silence 102 = .ok (.iload_n 1, 1)) ∧ (decode cX11_silence 103 = .ok (.iconst 0, 1)) ∧ (decode cX11_silence 104 = .ok (.iastore, 1)) ∧ (decode cX11_silence 105 = .ok (.aload_n 0, 1)) ∧ (decode cX11_silence 106 = .ok (.getfield 101, 3)) ∧ (decode cX11_silence 109 = .ok (.iload_n 1, 1)) ∧ (decode cX11_silence 110 = .ok (.iconst 0, 1)) ∧ (decode cX11_silence 111 = .ok (.iastore, 1)) := by decide +kernel
theorem dX11_silence_90 : decode cX11_silence 90 = .ok (.iastore, 1) := dq_X11_silence_90.1
theorem dX11_silence_91 : decode cX11_silence 91 = .ok (.aload_n 0, 1) := dq_X11_silence_90.2.1
theorem dX11_silence_92 : decode cX11_silence 92 = .ok (.getfield 95, 3) := dq_X11_silence_90.2.2.1
theorem dX11_silence_95 : decode cX11_silence 95 = .ok (.iload_n 1, 1) := dq_X11_silence_90.2.2.2.1
theorem dX11_silence_96 : decode cX11_silence 96 = .ok (.iconst 0, 1) := dq_X11_silence_90.2.2.2.2.1
theorem dX11_silence_97 : decode cX11_silence 97 = .ok (.iastore, 1) := dq_X11_silence_90.2.2.2.2.2.1
theorem dX11_silence_98 : decode cX11_silence 98 = .ok (.aload_n 0, 1) := dq_X11_silence_90.2.2.2.2.2.2.1
theorem dX11_silence_99 : decode cX11_silence 99 = .ok (.getfield 98, 3) := dq_X11_silence_90.2.2.2.2.2.2.2.1
theorem dX11_silence_102 : decode cX11_silence 102 = .ok (.iload_n 1, 1) := dq_X11_silence_90.2.2.2.2.2.2.2.2.1
theorem dX11_silence_103 : decode cX11_silence 103 = .ok (.iconst 0, 1) := dq_X11_silence_90.2.2.2.2.2.2.2.2.2.1
theorem dX11_silence_104 : decode cX11_silence 104 = .ok (.iastore, 1) := dq_X11_silence_90.2.2.2.2.2.2.2.2.2.2.1
theorem dX11_silence_105 : decode cX11_silence 105 = .ok (.aload_n 0, 1) := dq_X11_silence_90.2.2.2.2.2.2.2.2.2.2.2.1
theorem dX11_silence_106 : decode cX11_silence 106 = .ok (.getfield 101, 3) := dq_X11_silence_90.2.2.2.2.2.2.2.2.2.2.2.2.1
theorem dX11_silence_109 : decode cX11_silence 109 = .ok (.iload_n 1, 1) := dq_X11_silence_90.2.2.2.2.2.2.2.2.2.2.2.2.2.1
theorem dX11_silence_110 : decode cX11_silence 110 = .ok (.iconst 0, 1) := dq_X11_silence_90.2.2.2.2.2.2.2.2.2.2.2.2.2.2.1
theorem dX11_silence_111 : decode cX11_silence 111 = .ok (.iastore, 1) := dq_X11_silence_90.2.2.2.2.2.2.2.2.2.2.2.2.2.2.2
theorem dq_X11_silence_112 : (decode cX11_silence 112 = .ok (.aload_n 0, 1)) ∧ (decode cX11_silence 113 = .ok (.getfield 104, 3)) ∧ (decode cX11_silence 116 = .ok (.iload_n 1, 1)) ∧ (decode cX11_silence 117 = .ok (.iconst 0, 1)) ∧ (decode cX11_silence 118 = .ok (.iastore, 1)) ∧ (decode cX11_silence 119 = .ok (.aload_n 0, 1)) ∧ (decode cX11_silence 120 = .ok (.getfield 107, 3)) ∧ (decode cX11_silence 123 = .ok (.iload_n 1, 1)) ∧ (decode cX11_silence 124 = .ok (.iconst 0, 1)) ∧ (decode cX11_silence 125 = .ok (.iastore, 1)) ∧ (decode cX11_silence 126 = .ok (.aload_n 0, 1)) ∧ (decode cX11_silence 127 = .ok (.getfield 110, 3)) ∧ (decode cX11_silence 130 = .ok (.iload_n 1, 1)) ∧ (decode cX11_silence 131 = .ok (.iconst 0, 1)) ∧ (decode cX11_silence 132 = .ok (.iastore, 1)) ∧ (decode cX11_silence 133 = .ok (.aload_n 0, 1)) := by decide +kernel
theorem dX11_silence_112 : decode cX11_silence 112 = .ok (.aload_n 0, 1) := dq_X11_silence_112.1
theorem dX11_silence_113 : decode cX11_silence 113 = .ok (.getfield 104, 3) := dq_X11_silence_112.2.1
theorem dX11_silence_116 : decode cX11_silence 116 = .ok (.iload_n 1, 1) := dq_X11_silence_112.2.2.1
theorem dX11_silence_117 : decode cX11_silence 117 = .ok (.iconst 0, 1) := dq_X11_silence_112.2.2.2.1
theorem dX11_silence_118 : decode cX11_silence 118 = .ok (.iastore, 1) := dq_X11_silence_112.2.2.2.2.1
theorem dX11_silence_119 : decode cX11_silence 119 = .ok (.aload_n 0, 1) := dq_X11_silence_112.2.2.2.2.2.1
theorem dX11_silence_120 : decode cX11_silence 120 = .ok (.getfield 107, 3) := dq_X11_silence_112.2.2.2.2.2.2.1
theorem dX11_silence_123 : decode cX11_silence 123 = .ok (.iload_n 1, 1) := dq_X11_silence_112.2.2.2.2.2.2.2.1
theorem dX11_silence_124 : decode cX11_silence 124 = .ok (.iconst 0, 1) := dq_X11_silence_112.2.2.2.2.2.2.2.2.1
theorem dX11_silence_125 : decode cX11_silence 125 = .ok (.iastore, 1) := dq_X11_silence_112.2.2.2.2.2.2.2.2.2.1
theorem dX11_silence_126 : decode cX11_silence 126 = .ok (.aload_n 0, 1) := dq_X11_silence_112.2.2.2.2.2.2.2.2.2.2.1
theorem dX11_silence_127 : decode cX11_silence 127 = .ok (.getfield 110, 3) := dq_X11_silence_112.2.2.2.2.2.2.2.2.2.2.2.1
theorem dX11_silence_130 : decode cX11_silence 130 = .ok (.iload_n 1, 1) := dq_X11_silence_112.2.2.2.2.2.2.2.2.2.2.2.2.1
theorem dX11_silence_131 : decode cX11_silence 131 = .ok (.iconst 0, 1) := dq_X11_silence_112.2.2.2.2.2.2.2.2.2.2.2.2.2.1
theorem dX11_silence_132 : decode cX11_silence 132 = .ok (.iastore, 1) := dq_X11_silence_112.2.2.2.2.2.2.2.2.2.2.2.2.2.2.1
theorem dX11_silence_133 : decode cX11_silence 133 = .ok (.aload_n 0, 1) := dq_X11_silence_112.2.2.2.2.2.2.2.2.2.2.2.2.2.2.2
theorem dq_X11_silence_134 : (decode cX11_silence 134 = .ok (.getfield 113, 3)) ∧ (decode cX11_silence 137 = .ok (.iload_n 1, 1)) ∧ (decode cX11_silence 138 = .ok (.lconst 0, 1)) ∧ (decode cX11_silence 139 = .ok (.lastore, 1)) ∧ (decode cX11_silence 140 = .ok (.aload_n 0, 1)) ∧ (decode cX11_silence 141 = .ok (.getfield 117, 3)) ∧ (decode cX11_silence 144 = .ok (.iload_n 1, 1)) ∧ (decode cX11_silence 145 = .ok (.iconst 0, 1)) ∧ (decode cX11_silence 146 = .ok (.bastore, 1)) ∧ (decode cX11_silence 147 = .ok (.return_, 1)) := by decide +kernel
theorem dX11_silence_134 : decode cX11_silence 134 = .ok (.getfield 113, 3) := dq_X11_silence_134.1
theorem dX11_silence_137 : decode cX11_silence 137 = .ok (.iload_n 1, 1) := dq_X11_silence_134.2.1
theorem dX11_silence_138 : decode cX11_silence 138 = .ok (.lconst 0, 1) := dq_X11_silence_134.2.2.1
theorem dX11_silence_139 : decode cX11_silence 139 = .ok (.lastore, 1) := dq_X11_silence_134.2.2.2.1
theorem dX11_silence_140 : decode cX11_silence 140 = .ok (.aload_n 0, 1) := dq_X11_silence_134.2.2.2.2.1
theorem dX11_silence_141 : decode cX11_silence 141 = .ok (.getfield 117, 3) := dq_X11_silence_134.2.2.2.2.2.1
theorem dX11_silence_144 : decode cX11_silence 144 = .ok (.iload_n 1, 1) := dq_X11_silence_134.2.2.2.2.2.2.1
theorem dX11_silence_145 : decode cX11_silence 145 = .ok (.iconst 0, 1) := dq_X11_silence_134.2.2.2.2.2.2.2.1
theorem dX11_silence_146 : decode cX11_silence 146 = .ok (.bastore, 1) := dq_X11_silence_134.2.2.2.2.2.2.2.2.1
theorem dX11_silence_147 : decode cX11_silence 147 = .ok (.return_, 1) := dq_X11_silence_134.2.2.2.2.2.2.2.2.2
theorem dq_X11_play_0 : (decode cX11_play 0 = .ok (.iload_n 1, 1)) ∧ (decode cX11_play 1 = .ok (.iconst 0, 1)) ∧ (decode cX11_play 2 = .ok (.sipush 400, 3)) ∧ (decode cX11_play 5 = .ok (.invokestatic 145, 3)) ∧ (decode cX11_play 8 = .ok (.ifCond .ne 5, 3)) ∧ (decode cX11_play 11 = .ok (.iconst (-1), 1)) ∧ (decode cX11_play 12 = .ok (.ireturn, 1)) ∧ (decode cX11_play 13 = .ok (.iconst 0, 1)) ∧ (decode cX11_play 14 = .ok (.istore_n 2, 1)) ∧ (decode cX11_play 15 = .ok (.iload_n 2, 1)) ∧ (decode cX11_play 16 = .ok (.iload_n 1, 1)) ∧ (decode cX11_play 17 = .ok (.if_icmp .ge 13, 3)) ∧ (decode cX11_play 20 = .ok (.aload_n 0, 1)) ∧ (decode cX11_play 21 = .ok (.invokevirtual 230, 3)) ∧ (decode cX11_play 24 = .ok (.iinc 2 1, 3)) ∧ (decode cX11_play 27 = .ok (.goto (-12), 3)) := by decide +kernel
theorem dX11_play_0 : decode cX11_play 0 = .ok (.iload_n 1, 1) := dq_X11_play_0.1
theorem dX11_play_1 : decode cX11_play 1 = .ok (.iconst 0, 1) := dq_X11_play_0.2.1
theorem dX11_play_2 : decode cX11_play 2 = .ok (.sipush 400, 3) := dq_X11_play_0.2.2.1
theorem dX11_play_5 : decode cX11_play 5 = .ok (.invokestatic 145, 3) := dq_X11_play_0.2.2.2.1
theorem dX11_play_8 : decode cX11_play 8 = .ok (.ifCond .ne 5, 3) := dq_X11_play_0.2.2.2.2.1
theorem dX11_play_11 : decode cX11_play 11 = .ok (.iconst (-1), 1) := dq_X11_play_0.2.2.2.2.2.1
theorem dX11_play_12 : decode cX11_play 12 = .ok (.ireturn, 1) := dq_X11_play_0.2.2.2.2.2.2.1
theorem dX11_play_13 : decode cX11_play 13 = .ok (.iconst 0, 1) := dq_X11_play_0.2.2.2.2.2.2.2.1
theorem dX11_play_14 : decode cX11_play 14 = .ok (.istore_n 2, 1) := dq_X11_play_0.2.2.2.2.2.2.2.2.1
theorem dX11_play_15 : decode cX11_play 15 = .ok (.iload_n 2, 1) := dq_X11_play_0.2.2.2.2.2.2.2.2.2.1
theorem dX11_play_16 : decode cX11_play 16 = .ok (.iload_n 1, 1) := dq_X11_play_0.2.2.2.2.2.2.2.2.2.2.1
theorem dX11_play_17 : decode cX11_play 17 = .ok (.if_icmp .ge 13, 3) := dq_X11_play_0.2.2.2.2.2.2.2.2.2.2.2.1
theorem dX11_play_20 : decode cX11_play 20 = .ok (.aload_n 0, 1) := dq_X11_play_0.2.2.2.2.2.2.2.2.2.2.2.2.1
theorem dX11_play_21 : decode cX11_play 21 = .ok (.invokevirtual 230, 3) := dq_X11_play_0.2.2.2.2.2.2.2.2.2.2.2.2.2.1
theorem dX11_play_24 : decode cX11_play 24 = .ok (.iinc 2 1, 3) := dq_X11_play_0.2.2.2.2.2.2.2.2.2.2.2.2.2.2.1
theorem dX11_play_27 : decode cX11_play 27 = .ok (.goto (-12), 3) := dq_X11_play_0.2.2.2.2.2.2.2.2.2.2.2.2.2.2.2
theorem dq_X11_play_30 : (decode cX11_play 30 = .ok (.aload_n 0, 1)) ∧ (decode cX11_play 31 = .ok (.getfield 224, 3)) ∧ (decode cX11_play 34 = .ok (.ireturn, 1)) := by decide +kernel
theorem dX11_play_30 : decode cX11_play 30 = .ok (.aload_n 0, 1) := dq_X11_play_30.1
theorem dX11_play_31 : decode cX11_play 31 = .ok (.getfield 224, 3) := dq_X11_play_30.2.1
theorem dX11_play_34 : decode cX11_play 34 = .ok (.ireturn, 1) := dq_X11_play_30.2.2
theorem dq_X11_oneTick_0 : (decode cX11_oneTick 0 = .ok (.aload_n 0, 1)) ∧ (decode cX11_oneTick 1 = .ok (.getfield 224, 3)) ∧ (decode cX11_oneTick 4 = .ok (.ifCond .eq 23, 3)) ∧ (decode cX11_oneTick 7 = .ok (.aload_n 0, 1)) ∧ (decode cX11_oneTick 8 = .ok (.getfield 209, 3)) ∧ (decode cX11_oneTick 11 = .ok (.iconst 1, 1)) ∧ (decode cX11_oneTick 12 = .ok (.iadd, 1)) ∧ (decode cX11_oneTick 13 = .ok (.aload_n 0, 1)) ∧ (decode cX11_oneTick 14 = .ok (.getfield 197, 3)) ∧ (decode cX11_oneTick 17 = .ok (.iconst 1, 1)) ∧ (decode cX11_oneTick 18 = .ok (.aload_n 0, 1)) ∧ (decode cX11_oneTick 19 = .ok (.getfield 215, 3)) ∧ (decode cX11_oneTick 22 = .ok (.iadd, 1)) ∧ (decode cX11_oneTick 23 = .ok (.imul, 1)) ∧ (decode cX11_oneTick 24 = .ok (.if_icmp .lt 10, 3)) ∧ (decode cX11_oneTick 27 = .ok (.aload_n 0, 1)) := by decide +kernel
theorem dX11_oneTick_0 : decode cX11_oneTick 0 = .ok (.aload_n 0, 1) := dq_X11_oneTick_0.1
theorem dX11_oneTick_1 : decode cX11_oneTick 1 = .ok (.getfield 224, 3) := dq_X11_oneTick_0.2.1
theorem dX11_oneTick_4 : decode cX11_oneTick 4 = .ok (.ifCond .eq 23, 3) := dq_X11_oneTick_0.2.2.1
theorem dX11_oneTick_7 : decode cX11_oneTick 7 = .ok (.aload_n 0, 1) := dq_X11_oneTick_0.2.2.2.1
theorem dX11_oneTick_8 : decode cX11_oneTick 8 = .ok (.getfield 209, 3) := dq_X11_oneTick_0.2.2.2.2.1
theorem dX11_oneTick_11 : decode cX11_oneTick 11 = .ok (.iconst 1, 1) := dq_X11_oneTick_0.2.2.2.2.2.1
theorem dX11_oneTick_12 : decode cX11_oneTick 12 = .ok (.iadd, 1) := dq_X11_oneTick_0.2.2.2.2.2.2.1
theorem dX11_oneTick_13 : decode cX11_oneTick 13 = .ok (.aload_n 0, 1) := dq_X11_oneTick_0.2.2.2.2.2.2.2.1
theorem dX11_oneTick_14 : decode cX11_oneTick 14 = .ok (.getfield 197, 3) := dq_X11_oneTick_0.2.2.2.2.2.2.2.2.1
theorem dX11_oneTick_17 : decode cX11_oneTick 17 = .ok (.iconst 1, 1) := dq_X11_oneTick_0.2.2.2.2.2.2.2.2.2.1
theorem dX11_oneTick_18 : decode cX11_oneTick 18 = .ok (.aload_n 0, 1) := dq_X11_oneTick_0.2.2.2.2.2.2.2.2.2.2.1
theorem dX11_oneTick_19 : decode cX11_oneTick 19 = .ok (.getfield 215, 3) := dq_X11_oneTick_0.2.2.2.2.2.2.2.2.2.2.2.1
theorem dX11_oneTick_22 : decode cX11_oneTick 22 = .ok (.iadd, 1) := dq_X11_oneTick_0.2.2.2.2.2.2.2.2.2.2.2.2.1
theorem dX11_oneTick_23 : decode cX11_oneTick 23 = .ok (.imul, 1) := dq_X11_oneTick_0.2.2.2.2.2.2.2.2.2.2.2.2.2.1
theorem dX11_oneTick_24 : decode cX11_oneTick 24 = .ok (.if_icmp .lt 10, 3) := dq_X11_oneTick_0.2.2.2.2.2.2.2.2.2.2.2.2.2.2.1
theorem dX11_oneTick_27 : decode cX11_oneTick 27 = .ok (.aload_n 0, 1) := dq_X11_oneTick_0.2.2.2.2.2.2.2.2.2.2.2.2.2.2.2
theorem dq_X11_oneTick_28 : (decode cX11_oneTick 28 = .ok (.invokevirtual 233, 3)) ∧ (decode cX11_oneTick 31 = .ok (.goto 13, 3)) ∧ (decode cX11_oneTick 34 = .ok (.aload_n 0, 1)) ∧ (decode cX11_oneTick 35 = .ok (.dup, 1)) ∧ (decode cX11_oneTick 36 = .ok (.getfield 209, 3)) ∧ (decode cX11_oneTick 39 = .ok (.iconst 1, 1)) ∧ (decode cX11_oneTick 40 = .ok (.iadd, 1)) ∧ (decode cX11_oneTick 41 = .ok (.putfield 209, 3)) ∧ (decode cX11_oneTick 44 = .ok (.iconst 0, 1)) ∧ (decode cX11_oneTick 45 = .ok (.istore_n 1, 1)) ∧ (decode cX11_oneTick 46 = .ok (.iload_n 1, 1)) ∧ (decode cX11_oneTick 47 = .ok (.iconst 4, 1)) ∧ (decode cX11_oneTick 48 = .ok (.if_icmp .ge 14, 3)) ∧ (decode cX11_oneTick 51 = .ok (.aload_n 0, 1)) ∧ (decode cX11_oneTick 52 = .ok (.iload_n 1, 1)) ∧ (decode cX11_oneTick 53 = .ok (.invokevirtual 236, 3)) := by decide +kernel
theorem dX11_oneTick_28 : decode cX11_oneTick 28 = .ok (.invokevirtual 233, 3) := dq_X11_oneTick_28.1
theorem dX11_oneTick_31 : decode cX11_oneTick 31 = .ok (.goto 13, 3) := dq_X11_oneTick_28.2.1
theorem dX11_oneTick_34 : decode cX11_oneTick 34 = .ok (.aload_n 0, 1) := dq_X11_oneTick_28.2.2.1
theorem dX11_oneTick_35 : decode cX11_oneTick 35 = .ok (.dup, 1) := dq_X11_oneTick_28.2.2.2.1
theorem dX11_oneTick_36 : decode cX11_oneTick 36 = .ok (.getfield 209, 3) := dq_X11_oneTick_28.2.2.2.2.1
theorem dX11_oneTick_39 : decode cX11_oneTick 39 = .ok (.iconst 1, 1) := dq_X11_oneTick_28.2.2.2.2.2.1
theorem dX11_oneTick_40 : decode cX11_oneTick 40 = .ok (.iadd, 1) := dq_X11_oneTick_28.2.2.2.2.2.2.1
theorem dX11_oneTick_41 : decode cX11_oneTick 41 = .ok (.putfield 209, 3) := dq_X11_oneTick_28.2.2.2.2.2.2.2.1
theorem dX11_oneTick_44 : decode cX11_oneTick 44 = .ok (.iconst 0, 1) := dq_X11_oneTick_28.2.2.2.2.2.2.2.2.1
theorem dX11_oneTick_45 : decode cX11_oneTick 45 = .ok (.istore_n 1, 1) := dq_X11_oneTick_28.2.2.2.2.2.2.2.2.2.1
theorem dX11_oneTick_46 : decode cX11_oneTick 46 = .ok (.iload_n 1, 1) := dq_X11_oneTick_28.2.2.2.2.2.2.2.2.2.2.1
theorem dX11_oneTick_47 : decode cX11_oneTick 47 = .ok (.iconst 4, 1) := dq_X11_oneTick_28.2.2.2.2.2.2.2.2.2.2.2.1
theorem dX11_oneTick_48 : decode cX11_oneTick 48 = .ok (.if_icmp .ge 14, 3) := dq_X11_oneTick_28.2.2.2.2.2.2.2.2.2.2.2.2.1
theorem dX11_oneTick_51 : decode cX11_oneTick 51 = .ok (.aload_n 0, 1) := dq_X11_oneTick_28.2.2.2.2.2.2.2.2.2.2.2.2.2.1
theorem dX11_oneTick_52 : decode cX11_oneTick 52 = .ok (.iload_n 1, 1) := dq_X11_oneTick_28.2.2.2.2.2.2.2.2.2.2.2.2.2.2.1
theorem dX11_oneTick_53 : decode cX11_oneTick 53 = .ok (.invokevirtual 236, 3) := dq_X11_oneTick_28.2.2.2.2.2.2.2.2.2.2.2.2.2.2.2
theorem dq_X11_oneTick_56 : (decode cX11_oneTick 56 = .ok (.iinc 1 1, 3)) ∧ (decode cX11_oneTick 59 = .ok (.goto (-13), 3)) ∧ (decode cX11_oneTick 62 = .ok (.aload_n 0, 1)) ∧ (decode cX11_oneTick 63 = .ok (.invokevirtual 239, 3)) ∧ (decode cX11_oneTick 66 = .ok (.aload_n 0, 1)) ∧ (decode cX11_oneTick 67 = .ok (.dup, 1)) ∧ (decode cX11_oneTick 68 = .ok (.getfield 224, 3)) ∧ (decode cX11_oneTick 71 = .ok (.iconst 1, 1)) ∧ (decode cX11_oneTick 72 = .ok (.iadd, 1)) ∧ (decode cX11_oneTick 73 = .ok (.putfield 224, 3)) ∧ (decode cX11_oneTick 76 = .ok (.return_, 1)) := by decide +kernel
theorem dX11_oneTick_56 : decode cX11_oneTick 56 = .ok (.iinc 1 1, 3) := dq_X11_oneTick_56.1
theorem dX11_oneTick_59 : decode cX11_oneTick 59 = .ok (.goto (-13), 3) := dq_X11_oneTick_56.2.1
theorem dX11_oneTick_62 : decode cX11_oneTick 62 = .ok (.aload_n 0, 1) := dq_X11_oneTick_56.2.2.1
theorem dX11_oneTick_63 : decode cX11_oneTick 63 = .ok (.invokevirtual 239, 3) := dq_X11_oneTick_56.2.2.2.1
theorem dX11_oneTick_66 : decode cX11_oneTick 66 = .ok (.aload_n 0, 1) := dq_X11_oneTick_56.2.2.2.2.1
theorem dX11_oneTick_67 : decode cX11_oneTick 67 = .ok (.dup, 1) := dq_X11_oneTick_56.2.2.2.2.2.1
theorem dX11_oneTick_68 : decode cX11_oneTick 68 = .ok (.getfield 224, 3) := dq_X11_oneTick_56.2.2.2.2.2.2.1
theorem dX11_oneTick_71 : decode cX11_oneTick 71 = .ok (.iconst 1, 1) := dq_X11_oneTick_56.2.2.2.2.2.2.2.1
theorem dX11_oneTick_72 : decode cX11_oneTick 72 = .ok (.iadd, 1) := dq_X11_oneTick_56.2.2.2.2.2.2.2.2.1
theorem dX11_oneTick_73 : decode cX11_oneTick 73 = .ok (.putfield 224, 3) := dq_X11_oneTick_56.2.2.2.2.2.2.2.2.2.1
theorem dX11_oneTick_76 : decode cX11_oneTick 76 = .ok (.return_, 1) := dq_X11_oneTick_56.2.2.2.2.2.2.2.2.2.2
theorem dq_X11_behind_0 : (decode cX11_behind 0 = .ok (.iload_n 1, 1)) ∧ (decode cX11_behind 1 = .ok (.aload_n 0, 1)) ∧ (decode cX11_behind 2 = .ok (.getfield 43, 3)) ∧ (decode cX11_behind 5 = .ok (.if_icmp .ge 5, 3)) ∧ (decode cX11_behind 8 = .ok (.iload_n 1, 1)) ∧ (decode cX11_behind 9 = .ok (.ireturn, 1)) ∧ (decode cX11_behind 10 = .ok (.aload_n 0, 1)) ∧ (decode cX11_behind 11 = .ok (.getfield 172, 3)) ∧ (decode cX11_behind 14 = .ok (.aload_n 0, 1)) ∧ (decode cX11_behind 15 = .ok (.getfield 43, 3)) ∧ (decode cX11_behind 18 = .ok (.if_icmp .ge 10, 3)) ∧ (decode cX11_behind 21 = .ok (.aload_n 0, 1)) ∧ (decode cX11_behind 22 = .ok (.getfield 172, 3)) ∧ (decode cX11_behind 25 = .ok (.goto 4, 3)) ∧ (decode cX11_behind 28 = .ok (.iconst 0, 1)) ∧ (decode cX11_behind 29 = .ok (.ireturn, 1)) := by decide +kernel
theorem dX11_behind_0 : decode cX11_behind 0 = .ok (.iload_n 1, 1) := dq_X11_behind_0.1
theorem dX11_behind_1 : decode cX11_behind 1 = .ok (.aload_n 0, 1) := dq_X11_behind_0.2.1
theorem dX11_behind_2 : decode cX11_behind 2 = .ok (.getfield 43, 3) := dq_X11_behind_0.2.2.1
theorem dX11_behind_5 : decode cX11_behind 5 = .ok (.if_icmp .ge 5, 3) := dq_X11_behind_0.2.2.2.1
theorem dX11_behind_8 : decode cX11_behind 8 = .ok (.iload_n 1, 1) := dq_X11_behind_0.2.2.2.2.1
theorem dX11_behind_9 : decode cX11_behind 9 = .ok (.ireturn, 1) := dq_X11_behind_0.2.2.2.2.2.1
theorem dX11_behind_10 : decode cX11_behind 10 = .ok (.aload_n 0, 1) := dq_X11_behind_0.2.2.2.2.2.2.1
theorem dX11_behind_11 : decode cX11_behind 11 = .ok (.getfield 172, 3) := dq_X11_behind_0.2.2.2.2.2.2.2.1
theorem dX11_behind_14 : decode cX11_behind 14 = .ok (.aload_n 0, 1) := dq_X11_behind_0.2.2.2.2.2.2.2.2.1
theorem dX11_behind_15 : decode cX11_behind 15 = .ok (.getfield 43, 3) := dq_X11_behind_0.2.2.2.2.2.2.2.2.2.1
theorem dX11_behind_18 : decode cX11_behind 18 = .ok (.if_icmp .ge 10, 3) := dq_X11_behind_0.2.2.2.2.2.2.2.2.2.2.1
theorem dX11_behind_21 : decode cX11_behind 21 = .ok (.aload_n 0, 1) := dq_X11_behind_0.2.2.2.2.2.2.2.2.2.2.2.1
theorem dX11_behind_22 : decode cX11_behind 22 = .ok (.getfield 172, 3) := dq_X11_behind_0.2.2.2.2.2.2.2.2.2.2.2.2.1
theorem dX11_behind_25 : decode cX11_behind 25 = .ok (.goto 4, 3) := dq_X11_behind_0.2.2.2.2.2.2.2.2.2.2.2.2.2.1
theorem dX11_behind_28 : decode cX11_behind 28 = .ok (.iconst 0, 1) := dq_X11_behind_0.2.2.2.2.2.2.2.2.2.2.2.2.2.2.1
theorem dX11_behind_29 : decode cX11_behind 29 = .ok (.ireturn, 1) := dq_X11_behind_0.2.2.2.2.2.2.2.2.2.2.2.2.2.2.2
theorem dq_X11_goOn_0 : (decode cX11_goOn 0 = .ok (.aload_n 0, 1)) ∧ (decode cX11_goOn 1 = .ok (.getfield 242, 3)) ∧ (decode cX11_goOn 4 = .ok (.iconst (-1), 1)) ∧ (decode cX11_goOn 5 = .ok (.if_icmp .eq 14, 3)) ∧ (decode cX11_goOn 8 = .ok (.aload_n 0, 1)) ∧ (decode cX11_goOn 9 = .ok (.aload_n 0, 1)) ∧ (decode cX11_goOn 10 = .ok (.getfield 242, 3)) ∧ (decode cX11_goOn 13 = .ok (.putfield 206, 3)) ∧ (decode cX11_goOn 16 = .ok (.goto 127, 3)) ∧ (decode cX11_goOn 19 = .ok (.aload_n 0, 1)) ∧ (decode cX11_goOn 20 = .ok (.getfield 245, 3)) ∧ (decode cX11_goOn 23 = .ok (.iconst (-1), 1)) ∧ (decode cX11_goOn 24 = .ok (.if_icmp .ne 11, 3)) ∧ (decode cX11_goOn 27 = .ok (.aload_n 0, 1)) ∧ (decode cX11_goOn 28 = .ok (.getfield 248, 3)) ∧ (decode cX11_goOn 31 = .ok (.iconst (-1), 1)) := by decide +kernel
theorem dX11_goOn_0 : decode cX11_goOn 0 = .ok (.aload_n 0, 1) := dq_X11_goOn_0.1
theorem dX11_goOn_1 : decode cX11_goOn 1 = .ok (.getfield 242, 3) := dq_X11_goOn_0.2.1
theorem dX11_goOn_4 : decode cX11_goOn 4 = .ok (.iconst (-1), 1) := dq_X11_goOn_0.2.2.1
theorem dX11_goOn_5 : decode cX11_goOn 5 = .ok (.if_icmp .eq 14, 3) := dq_X11_goOn_0.2.2.2.1
theorem dX11_goOn_8 : decode cX11_goOn 8 = .ok (.aload_n 0, 1) := dq_X11_goOn_0.2.2.2.2.1
theorem dX11_goOn_9 : decode cX11_goOn 9 = .ok (.aload_n 0, 1) := dq_X11_goOn_0.2.2.2.2.2.1
theorem dX11_goOn_10 : decode cX11_goOn 10 = .ok (.getfield 242, 3) := dq_X11_goOn_0.2.2.2.2.2.2.1
theorem dX11_goOn_13 : decode cX11_goOn 13 = .ok (.putfield 206, 3) := dq_X11_goOn_0.2.2.2.2.2.2.2.1
theorem dX11_goOn_16 : decode cX11_goOn 16 = .ok (.goto 127, 3) := dq_X11_goOn_0.2.2.2.2.2.2.2.2.1
theorem dX11_goOn_19 : decode cX11_goOn 19 = .ok (.aload_n 0, 1) := dq_X11_goOn_0.2.2.2.2.2.2.2.2.2.1
theorem dX11_goOn_20 : decode cX11_goOn 20 = .ok (.getfield 245, 3) := dq_X11_goOn_0.2.2.2.2.2.2.2.2.2.2.1
theorem dX11_goOn_23 : decode cX11_goOn 23 = .ok (.iconst (-1), 1) := dq_X11_goOn_0.2.2.2.2.2.2.2.2.2.2.2.1
theorem dX11_goOn_24 : decode cX11_goOn 24 = .ok (.if_icmp .ne 11, 3) := dq_X11_goOn_0.2.2.2.2.2.2.2.2.2.2.2.2.1
theorem dX11_goOn_27 : decode cX11_goOn 27 = .ok (.aload_n 0, 1) := dq_X11_goOn_0.2.2.2.2.2.2.2.2.2.2.2.2.2.1
theorem dX11_goOn_28 : decode cX11_goOn 28 = .ok (.getfield 248, 3) := dq_X11_goOn_0.2.2.2.2.2.2.2.2.2.2.2.2.2.2.1
theorem dX11_goOn_31 : decode cX11_goOn 31 = .ok (.iconst (-1), 1) := dq_X11_goOn_0.2.2.2.2.2.2.2.2.2.2.2.2.2.2.2
theorem dq_X11_goOn_32 : (decode cX11_goOn 32 = .ok (.if_icmp .eq 70, 3)) ∧ (decode cX11_goOn 35 = .ok (.aload_n 0, 1)) ∧ (decode cX11_goOn 36 = .ok (.aload_n 0, 1)) ∧ (decode cX11_goOn 37 = .ok (.getfield 245, 3)) ∧ (decode cX11_goOn 40 = .ok (.iconst (-1), 1)) ∧ (decode cX11_goOn 41 = .ok (.if_icmp .ne 16, 3)) ∧ (decode cX11_goOn 44 = .ok (.aload_n 0, 1)) ∧ (decode cX11_goOn 45 = .ok (.aload_n 0, 1)) ∧ (decode cX11_goOn 46 = .ok (.getfield 203, 3)) ∧ (decode cX11_goOn 49 = .ok (.iconst 1, 1)) ∧ (decode cX11_goOn 50 = .ok (.iadd, 1)) ∧ (decode cX11_goOn 51 = .ok (.invokevirtual 251, 3)) ∧ (decode cX11_goOn 54 = .ok (.goto 22, 3)) ∧ (decode cX11_goOn 57 = .ok (.aload_n 0, 1)) ∧ (decode cX11_goOn 58 = .ok (.getfield 245, 3)) ∧ (decode cX11_goOn 61 = .ok (.aload_n 0, 1)) := by decide +kernel
theorem dX11_goOn_32 : decode cX11_goOn 32 = .ok (.if_icmp .eq 70, 3) := dq_X11_goOn_32.1
theorem dX11_goOn_35 : decode cX11_goOn 35 = .ok (.aload_n 0, 1) := dq_X11_goOn_32.2.1
theorem dX11_goOn_36 : decode cX11_goOn 36 = .ok (.aload_n 0, 1) := dq_X11_goOn_32.2.2.1
theorem dX11_goOn_37 : decode cX11_goOn 37 = .ok (.getfield 245, 3) := dq_X11_goOn_32.2.2.2.1
theorem dX11_goOn_40 : decode cX11_goOn 40 = .ok (.iconst (-1), 1) := dq_X11_goOn_32.2.2.2.2.1
theorem dX11_goOn_41 : decode cX11_goOn 41 = .ok (.if_icmp .ne 16, 3) := dq_X11_goOn_32.2.2.2.2.2.1
theorem dX11_goOn_44 : decode cX11_goOn 44 = .ok (.aload_n 0, 1) := dq_X11_goOn_32.2.2.2.2.2.2.1
theorem dX11_goOn_45 : decode cX11_goOn 45 = .ok (.aload_n 0, 1) := dq_X11_goOn_32.2.2.2.2.2.2.2.1
theorem dX11_goOn_46 : decode cX11_goOn 46 = .ok (.getfield 203, 3) := dq_X11_goOn_32.2.2.2.2.2.2.2.2.1
theorem dX11_goOn_49 : decode cX11_goOn 49 = .ok (.iconst 1, 1) := dq_X11_goOn_32.2.2.2.2.2.2.2.2.2.1
theorem dX11_goOn_50 : decode cX11_goOn 50 = .ok (.iadd, 1) := dq_X11_goOn_32.2.2.2.2.2.2.2.2.2.2.1
theorem dX11_goOn_51 : decode cX11_goOn 51 = .ok (.invokevirtual 251, 3) := dq_X11_goOn_32.2.2.2.2.2.2.2.2.2.2.2.1
theorem dX11_goOn_54 : decode cX11_goOn 54 = .ok (.goto 22, 3) := dq_X11_goOn_32.2.2.2.2.2.2.2.2.2.2.2.2.1
theorem dX11_goOn_57 : decode cX11_goOn 57 = .ok (.aload_n 0, 1) := dq_X11_goOn_32.2.2.2.2.2.2.2.2.2.2.2.2.2.1
theorem dX11_goOn_58 : decode cX11_goOn 58 = .ok (.getfield 245, 3) := dq_X11_goOn_32.2.2.2.2.2.2.2.2.2.2.2.2.2.2.1
theorem dX11_goOn_61 : decode cX11_goOn 61 = .ok (.aload_n 0, 1) := dq_X11_goOn_32.2.2.2.2.2.2.2.2.2.2.2.2.2.2.2
theorem dq_X11_goOn_62 : (decode cX11_goOn 62 = .ok (.getfield 43, 3)) ∧ (decode cX11_goOn 65 = .ok (.if_icmp .lt 7, 3)) ∧ (decode cX11_goOn 68 = .ok (.iconst 0, 1)) ∧ (decode cX11_goOn 69 = .ok (.goto 7, 3)) ∧ (decode cX11_goOn 72 = .ok (.aload_n 0, 1)) ∧ (decode cX11_goOn 73 = .ok (.getfield 245, 3)) ∧ (decode cX11_goOn 76 = .ok (.putfield 203, 3)) ∧ (decode cX11_goOn 79 = .ok (.aload_n 0, 1)) ∧ (decode cX11_goOn 80 = .ok (.aload_n 0, 1)) ∧ (decode cX11_goOn 81 = .ok (.getfield 248, 3)) ∧ (decode cX11_goOn 84 = .ok (.iconst (-1), 1)) ∧ (decode cX11_goOn 85 = .ok (.if_icmp .ne 7, 3)) ∧ (decode cX11_goOn 88 = .ok (.iconst 0, 1)) ∧ (decode cX11_goOn 89 = .ok (.goto 7, 3)) ∧ (decode cX11_goOn 92 = .ok (.aload_n 0, 1)) ∧ (decode cX11_goOn 93 = .ok (.getfield 248, 3)) := by decide +kernel
theorem dX11_goOn_62 : decode cX11_goOn 62 = .ok (.getfield 43, 3) := dq_X11_goOn_62.1
theorem dX11_goOn_65 : decode cX11_goOn 65 = .ok (.if_icmp .lt 7, 3) := dq_X11_goOn_62.2.1
theorem dX11_goOn_68 : decode cX11_goOn 68 = .ok (.iconst 0, 1) := dq_X11_goOn_62.2.2.1
theorem dX11_goOn_69 : decode cX11_goOn 69 = .ok (.goto 7, 3) := dq_X11_goOn_62.2.2.2.1
theorem dX11_goOn_72 : decode cX11_goOn 72 = .ok (.aload_n 0, 1) := dq_X11_goOn_62.2.2.2.2.1
theorem dX11_goOn_73 : decode cX11_goOn 73 = .ok (.getfield 245, 3) := dq_X11_goOn_62.2.2.2.2.2.1
theorem dX11_goOn_76 : decode cX11_goOn 76 = .ok (.putfield 203, 3) := dq_X11_goOn_62.2.2.2.2.2.2.1
theorem dX11_goOn_79 : decode cX11_goOn 79 = .ok (.aload_n 0, 1) := dq_X11_goOn_62.2.2.2.2.2.2.2.1
theorem dX11_goOn_80 : decode cX11_goOn 80 = .ok (.aload_n 0, 1) := dq_X11_goOn_62.2.2.2.2.2.2.2.2.1
theorem dX11_goOn_81 : decode cX11_goOn 81 = .ok (.getfield 248, 3) := dq_X11_goOn_62.2.2.2.2.2.2.2.2.2.1
theorem dX11_goOn_84 : decode cX11_goOn 84 = .ok (.iconst (-1), 1) := dq_X11_goOn_62.2.2.2.2.2.2.2.2.2.2.1
theorem dX11_goOn_85 : decode cX11_goOn 85 = .ok (.if_icmp .ne 7, 3) := dq_X11_goOn_62.2.2.2.2.2.2.2.2.2.2.2.1
theorem dX11_goOn_88 : decode cX11_goOn 88 = .ok (.iconst 0, 1) := dq_X11_goOn_62.2.2.2.2.2.2.2.2.2.2.2.2.1
theorem dX11_goOn_89 : decode cX11_goOn 89 = .ok (.goto 7, 3) := dq_X11_goOn_62.2.2.2.2.2.2.2.2.2.2.2.2.2.1
theorem dX11_goOn_92 : decode cX11_goOn 92 = .ok (.aload_n 0, 1) := dq_X11_goOn_62.2.2.2.2.2.2.2.2.2.2.2.2.2.2.1
theorem dX11_goOn_93 : decode cX11_goOn 93 = .ok (.getfield 248, 3) := dq_X11_goOn_62.2.2.2.2.2.2.2.2.2.2.2.2.2.2.2
theorem dq_X11_goOn_96 : (decode cX11_goOn 96 = .ok (.putfield 206, 3)) ∧ (decode cX11_goOn 99 = .ok (.goto 44, 3)) ∧ (decode cX11_goOn 102 = .ok (.aload_n 0, 1)) ∧ (decode cX11_goOn 103 = .ok (.getfield 206, 3)) ∧ (decode cX11_goOn 106 = .ok (.bipush 63, 2)) ∧ (decode cX11_goOn 108 = .ok (.if_icmp .ge 16, 3)) ∧ (decode cX11_goOn 111 = .ok (.aload_n 0, 1)) ∧ (decode cX11_goOn 112 = .ok (.dup, 1)) ∧ (decode cX11_goOn 113 = .ok (.getfield 206, 3)) ∧ (decode cX11_goOn 116 = .ok (.iconst 1, 1)) ∧ (decode cX11_goOn 117 = .ok (.iadd, 1)) ∧ (decode cX11_goOn 118 = .ok (.putfield 206, 3)) ∧ (decode cX11_goOn 121 = .ok (.goto 22, 3)) ∧ (decode cX11_goOn 124 = .ok (.aload_n 0, 1)) ∧ (decode cX11_goOn 125 = .ok (.aload_n 0, 1)) ∧ (decode cX11_goOn 126 = .ok (.aload_n 0, 1)) := by decide +kernel
theorem dX11_goOn_96 : decode cX11_goOn 96 = .ok (.putfield 206, 3) := dq_X11_goOn_96.1
theorem dX11_goOn_99 : decode cX11_goOn 99 = .ok (.goto 44, 3) := dq_X11_goOn_96.2.1
theorem dX11_goOn_102 : decode cX11_goOn 102 = .ok (.aload_n 0, 1) := dq_X11_goOn_96.2.2.1
theorem dX11_goOn_103 : decode cX11_goOn 103 = .ok (.getfield 206, 3) := dq_X11_goOn_96.2.2.2.1
theorem dX11_goOn_106 : decode cX11_goOn 106 = .ok (.bipush 63, 2) := dq_X11_goOn_96.2.2.2.2.1
theorem dX11_goOn_108 : decode cX11_goOn 108 = .ok (.if_icmp .ge 16, 3) := dq_X11_goOn_96.2.2.2.2.2.1
theorem dX11_goOn_111 : decode cX11_goOn 111 = .ok (.aload_n 0, 1) := dq_X11_goOn_96.2.2.2.2.2.2.1
theorem dX11_goOn_112 : decode cX11_goOn 112 = .ok (.dup, 1) := dq_X11_goOn_96.2.2.2.2.2.2.2.1
theorem dX11_goOn_113 : decode cX11_goOn 113 = .ok (.getfield 206, 3) := dq_X11_goOn_96.2.2.2.2.2.2.2.2.1
theorem dX11_goOn_116 : decode cX11_goOn 116 = .ok (.iconst 1, 1) := dq_X11_goOn_96.2.2.2.2.2.2.2.2.2.1
theorem dX11_goOn_117 : decode cX11_goOn 117 = .ok (.iadd, 1) := dq_X11_goOn_96.2.2.2.2.2.2.2.2.2.2.1
theorem dX11_goOn_118 : decode cX11_goOn 118 = .ok (.putfield 206, 3) := dq_X11_goOn_96.2.2.2.2.2.2.2.2.2.2.2.1
theorem dX11_goOn_121 : decode cX11_goOn 121 = .ok (.goto 22, 3) := dq_X11_goOn_96.2.2.2.2.2.2.2.2.2.2.2.2.1
theorem dX11_goOn_124 : decode cX11_goOn 124 = .ok (.aload_n 0, 1) := dq_X11_goOn_96.2.2.2.2.2.2.2.2.2.2.2.2.2.1
theorem dX11_goOn_125 : decode cX11_goOn 125 = .ok (.aload_n 0, 1) := dq_X11_goOn_96.2.2.2.2.2.2.2.2.2.2.2.2.2.2.1
theorem dX11_goOn_126 : decode cX11_goOn 126 = .ok (.aload_n 0, 1) := dq_X11_goOn_96.2.2.2.2.2.2.2.2.2.2.2.2.2.2.2
theorem dq_X11_goOn_127 : (decode cX11_goOn 127 = .ok (.getfield 203, 3)) ∧ (decode cX11_goOn 130 = .ok (.iconst 1, 1)) ∧ (decode cX11_goOn 131 = .ok (.iadd, 1)) ∧ (decode cX11_goOn 132 = .ok (.invokevirtual 251, 3)) ∧ (decode cX11_goOn 135 = .ok (.putfield 203, 3)) ∧ (decode cX11_goOn 138 = .ok (.aload_n 0, 1)) ∧ (decode cX11_goOn 139 = .ok (.iconst 0, 1)) ∧ (decode cX11_goOn 140 = .ok (.putfield 206, 3)) ∧ (decode cX11_goOn 143 = .ok (.return_, 1)) := by decide +kernel
theorem dX11_goOn_127 : decode cX11_goOn 127 = .ok (.getfield 203, 3) := dq_X11_goOn_127.1
theorem dX11_goOn_130 : decode cX11_goOn 130 = .ok (.iconst 1, 1) := dq_X11_goOn_127.2.1
theorem dX11_goOn_131 : decode cX11_goOn 131 = .ok (.iadd, 1) := dq_X11_goOn_127.2.2.1
theorem dX11_goOn_132 : decode cX11_goOn 132 = .ok (.invokevirtual 251, 3) := dq_X11_goOn_127.2.2.2.1
theorem dX11_goOn_135 : decode cX11_goOn 135 = .ok (.putfield 203, 3) := dq_X11_goOn_127.2.2.2.2.1
theorem dX11_goOn_138 : decode cX11_goOn 138 = .ok (.aload_n 0, 1) := dq_X11_goOn_127.2.2.2.2.2.1
theorem dX11_goOn_139 : decode cX11_goOn 139 = .ok (.iconst 0, 1) := dq_X11_goOn_127.2.2.2.2.2.2.1
theorem dX11_goOn_140 : decode cX11_goOn 140 = .ok (.putfield 206, 3) := dq_X11_goOn_127.2.2.2.2.2.2.2.1
theorem dX11_goOn_143 : decode cX11_goOn 143 = .ok (.return_, 1) := dq_X11_goOn_127.2.2.2.2.2.2.2.2
theorem dq_X11_beginRow_0 : (decode cX11_beginRow 0 = .ok (.aload_n 0, 1)) ∧ (decode cX11_beginRow 1 = .ok (.getfield 224, 3)) ∧ (decode cX11_beginRow 4 = .ok (.ifCond .ne 16, 3)) ∧ (decode cX11_beginRow 7 = .ok (.aload_n 0, 1)) ∧ (decode cX11_beginRow 8 = .ok (.iconst 0, 1)) ∧ (decode cX11_beginRow 9 = .ok (.putfield 203, 3)) ∧ (decode cX11_beginRow 12 = .ok (.aload_n 0, 1)) ∧ (decode cX11_beginRow 13 = .ok (.iconst 0, 1)) ∧ (decode cX11_beginRow 14 = .ok (.putfield 206, 3)) ∧ (decode cX11_beginRow 17 = .ok (.goto 7, 3)) ∧ (decode cX11_beginRow 20 = .ok (.aload_n 0, 1)) ∧ (decode cX11_beginRow 21 = .ok (.invokevirtual 254, 3)) ∧ (decode cX11_beginRow 24 = .ok (.bipush 64, 2)) ∧ (decode cX11_beginRow 26 = .ok (.aload_n 0, 1)) ∧ (decode cX11_beginRow 27 = .ok (.getfield 203, 3)) ∧ (decode cX11_beginRow 30 = .ok (.imul, 1)) := by decide +kernel
theorem dX11_beginRow_0 : decode cX11_beginRow 0 = .ok (.aload_n 0, 1) := dq_X11_beginRow_0.1
theorem dX11_beginRow_1 : decode cX11_beginRow 1 = .ok (.getfield 224, 3) := dq_X11_beginRow_0.2.1
theorem dX11_beginRow_4 : decode cX11_beginRow 4 = .ok (.ifCond .ne 16, 3) := dq_X11_beginRow_0.2.2.1
theorem dX11_beginRow_7 : decode cX11_beginRow 7 = .ok (.aload_n 0, 1) := dq_X11_beginRow_0.2.2.2.1
theorem dX11_beginRow_8 : decode cX11_beginRow 8 = .ok (.iconst 0, 1) := dq_X11_beginRow_0.2.2.2.2.1
theorem dX11_beginRow_9 : decode cX11_beginRow 9 = .ok (.putfield 203, 3) := dq_X11_beginRow_0.2.2.2.2.2.1
theorem dX11_beginRow_12 : decode cX11_beginRow 12 = .ok (.aload_n 0, 1) := dq_X11_beginRow_0.2.2.2.2.2.2.1
theorem dX11_beginRow_13 : decode cX11_beginRow 13 = .ok (.iconst 0, 1) := dq_X11_beginRow_0.2.2.2.2.2.2.2.1
theorem dX11_beginRow_14 : decode cX11_beginRow 14 = .ok (.putfield 206, 3) := dq_X11_beginRow_0.2.2.2.2.2.2.2.2.1
theorem dX11_beginRow_17 : decode cX11_beginRow 17 = .ok (.goto 7, 3) := dq_X11_beginRow_0.2.2.2.2.2.2.2.2.2.1
theorem dX11_beginRow_20 : decode cX11_beginRow 20 = .ok (.aload_n 0, 1) := dq_X11_beginRow_0.2.2.2.2.2.2.2.2.2.2.1
theorem dX11_beginRow_21 : decode cX11_beginRow 21 = .ok (.invokevirtual 254, 3) := dq_X11_beginRow_0.2.2.2.2.2.2.2.2.2.2.2.1
theorem dX11_beginRow_24 : decode cX11_beginRow 24 = .ok (.bipush 64, 2) := dq_X11_beginRow_0.2.2.2.2.2.2.2.2.2.2.2.2.1
theorem dX11_beginRow_26 : decode cX11_beginRow 26 = .ok (.aload_n 0, 1) := dq_X11_beginRow_0.2.2.2.2.2.2.2.2.2.2.2.2.2.1
theorem dX11_beginRow_27 : decode cX11_beginRow 27 = .ok (.getfield 203, 3) := dq_X11_beginRow_0.2.2.2.2.2.2.2.2.2.2.2.2.2.2.1
theorem dX11_beginRow_30 : decode cX11_beginRow 30 = .ok (.imul, 1) := dq_X11_beginRow_0.2.2.2.2.2.2.2.2.2.2.2.2.2.2.2
theorem dq_X11_beginRow_31 : (decode cX11_beginRow 31 = .ok (.aload_n 0, 1)) ∧ (decode cX11_beginRow 32 = .ok (.getfield 206, 3)) ∧ (decode cX11_beginRow 35 = .ok (.iadd, 1)) ∧ (decode cX11_beginRow 36 = .ok (.istore_n 1, 1)) ∧ (decode cX11_beginRow 37 = .ok (.iconst 0, 1)) ∧ (decode cX11_beginRow 38 = .ok (.istore_n 2, 1)) ∧ (decode cX11_beginRow 39 = .ok (.iconst 0, 1)) ∧ (decode cX11_beginRow 40 = .ok (.istore_n 3, 1)) ∧ (decode cX11_beginRow 41 = .ok (.iload_n 3, 1)) ∧ (decode cX11_beginRow 42 = .ok (.iconst 4, 1)) ∧ (decode cX11_beginRow 43 = .ok (.if_icmp .ge 28, 3)) ∧ (decode cX11_beginRow 46 = .ok (.iload_n 2, 1)) ∧ (decode cX11_beginRow 47 = .ok (.ifCond .ne 12, 3)) ∧ (decode cX11_beginRow 50 = .ok (.aload_n 0, 1)) ∧ (decode cX11_beginRow 51 = .ok (.getfield 101, 3)) ∧ (decode cX11_beginRow 54 = .ok (.iload_n 3, 1)) := by decide +kernel
theorem dX11_beginRow_31 : decode cX11_beginRow 31 = .ok (.aload_n 0, 1) := dq_X11_beginRow_31.1
theorem dX11_beginRow_32 : decode cX11_beginRow 32 = .ok (.getfield 206, 3) := dq_X11_beginRow_31.2.1
theorem dX11_beginRow_35 : decode cX11_beginRow 35 = .ok (.iadd, 1) := dq_X11_beginRow_31.2.2.1
theorem dX11_beginRow_36 : decode cX11_beginRow 36 = .ok (.istore_n 1, 1) := dq_X11_beginRow_31.2.2.2.1
theorem dX11_beginRow_37 : decode cX11_beginRow 37 = .ok (.iconst 0, 1) := dq_X11_beginRow_31.2.2.2.2.1
theorem dX11_beginRow_38 : decode cX11_beginRow 38 = .ok (.istore_n 2, 1) := dq_X11_beginRow_31.2.2.2.2.2.1
theorem dX11_beginRow_39 : decode cX11_beginRow 39 = .ok (.iconst 0, 1) := dq_X11_beginRow_31.2.2.2.2.2.2.1
theorem dX11_beginRow_40 : decode cX11_beginRow 40 = .ok (.istore_n 3, 1) := dq_X11_beginRow_31.2.2.2.2.2.2.2.1
theorem dX11_beginRow_41 : decode cX11_beginRow 41 = .ok (.iload_n 3, 1) := dq_X11_beginRow_31.2.2.2.2.2.2.2.2.1
theorem dX11_beginRow_42 : decode cX11_beginRow 42 = .ok (.iconst 4, 1) := dq_X11_beginRow_31.2.2.2.2.2.2.2.2.2.1
theorem dX11_beginRow_43 : decode cX11_beginRow 43 = .ok (.if_icmp .ge 28, 3) := dq_X11_beginRow_31.2.2.2.2.2.2.2.2.2.2.1
theorem dX11_beginRow_46 : decode cX11_beginRow 46 = .ok (.iload_n 2, 1) := dq_X11_beginRow_31.2.2.2.2.2.2.2.2.2.2.2.1
theorem dX11_beginRow_47 : decode cX11_beginRow 47 = .ok (.ifCond .ne 12, 3) := dq_X11_beginRow_31.2.2.2.2.2.2.2.2.2.2.2.2.1
theorem dX11_beginRow_50 : decode cX11_beginRow 50 = .ok (.aload_n 0, 1) := dq_X11_beginRow_31.2.2.2.2.2.2.2.2.2.2.2.2.2.1
theorem dX11_beginRow_51 : decode cX11_beginRow 51 = .ok (.getfield 101, 3) := dq_X11_beginRow_31.2.2.2.2.2.2.2.2.2.2.2.2.2.2.1
theorem dX11_beginRow_54 : decode cX11_beginRow 54 = .ok (.iload_n 3, 1) := dq_X11_beginRow_31.2.2.2.2.2.2.2.2.2.2.2.2.2.2.2
theorem dq_X11_beginRow_55 : (decode cX11_beginRow 55 = .ok (.iaload, 1)) ∧ (decode cX11_beginRow 56 = .ok (.ifCond .le 7, 3)) ∧ (decode cX11_beginRow 59 = .ok (.iconst 1, 1)) ∧ (decode cX11_beginRow 60 = .ok (.goto 4, 3)) ∧ (decode cX11_beginRow 63 = .ok (.iconst 0, 1)) ∧ (decode cX11_beginRow 64 = .ok (.istore_n 2, 1)) ∧ (decode cX11_beginRow 65 = .ok (.iinc 3 1, 3)) ∧ (decode cX11_beginRow 68 = .ok (.goto (-27), 3)) ∧ (decode cX11_beginRow 71 = .ok (.iload_n 2, 1)) ∧ (decode cX11_beginRow 72 = .ok (.ifCond .ne 22, 3)) ∧ (decode cX11_beginRow 75 = .ok (.aload_n 0, 1)) ∧ (decode cX11_beginRow 76 = .ok (.getfield 46, 3)) ∧ (decode cX11_beginRow 79 = .ok (.iload_n 1, 1)) ∧ (decode cX11_beginRow 80 = .ok (.baload, 1)) ∧ (decode cX11_beginRow 81 = .ok (.ifCond .eq 13, 3)) ∧ (decode cX11_beginRow 84 = .ok (.aload_n 0, 1)) := by decide +kernel
theorem dX11_beginRow_55 : decode cX11_beginRow 55 = .ok (.iaload, 1) := dq_X11_beginRow_55.1
theorem dX11_beginRow_56 : decode cX11_beginRow 56 = .ok (.ifCond .le 7, 3) := dq_X11_beginRow_55.2.1
theorem dX11_beginRow_59 : decode cX11_beginRow 59 = .ok (.iconst 1, 1) := dq_X11_beginRow_55.2.2.1
theorem dX11_beginRow_60 : decode cX11_beginRow 60 = .ok (.goto 4, 3) := dq_X11_beginRow_55.2.2.2.1
theorem dX11_beginRow_63 : decode cX11_beginRow 63 = .ok (.iconst 0, 1) := dq_X11_beginRow_55.2.2.2.2.1
theorem dX11_beginRow_64 : decode cX11_beginRow 64 = .ok (.istore_n 2, 1) := dq_X11_beginRow_55.2.2.2.2.2.1
theorem dX11_beginRow_65 : decode cX11_beginRow 65 = .ok (.iinc 3 1, 3) := dq_X11_beginRow_55.2.2.2.2.2.2.1
theorem dX11_beginRow_68 : decode cX11_beginRow 68 = .ok (.goto (-27), 3) := dq_X11_beginRow_55.2.2.2.2.2.2.2.1
theorem dX11_beginRow_71 : decode cX11_beginRow 71 = .ok (.iload_n 2, 1) := dq_X11_beginRow_55.2.2.2.2.2.2.2.2.1
theorem dX11_beginRow_72 : decode cX11_beginRow 72 = .ok (.ifCond .ne 22, 3) := dq_X11_beginRow_55.2.2.2.2.2.2.2.2.2.1
theorem dX11_beginRow_75 : decode cX11_beginRow 75 = .ok (.aload_n 0, 1) := dq_X11_beginRow_55.2.2.2.2.2.2.2.2.2.2.1
theorem dX11_beginRow_76 : decode cX11_beginRow 76 = .ok (.getfield 46, 3) := dq_X11_beginRow_55.2.2.2.2.2.2.2.2.2.2.2.1
theorem dX11_beginRow_79 : decode cX11_beginRow 79 = .ok (.iload_n 1, 1) := dq_X11_beginRow_55.2.2.2.2.2.2.2.2.2.2.2.2.1
theorem dX11_beginRow_80 : decode cX11_beginRow 80 = .ok (.baload, 1) := dq_X11_beginRow_55.2.2.2.2.2.2.2.2.2.2.2.2.2.1
theorem dX11_beginRow_81 : decode cX11_beginRow 81 = .ok (.ifCond .eq 13, 3) := dq_X11_beginRow_55.2.2.2.2.2.2.2.2.2.2.2.2.2.2.1
theorem dX11_beginRow_84 : decode cX11_beginRow 84 = .ok (.aload_n 0, 1) := dq_X11_beginRow_55.2.2.2.2.2.2.2.2.2.2.2.2.2.2.2
theorem dq_X11_beginRow_85 : (decode cX11_beginRow 85 = .ok (.dup, 1)) ∧ (decode cX11_beginRow 86 = .ok (.getfield 218, 3)) ∧ (decode cX11_beginRow 89 = .ok (.iconst 1, 1)) ∧ (decode cX11_beginRow 90 = .ok (.iadd, 1)) ∧ (decode cX11_beginRow 91 = .ok (.putfield 218, 3)) ∧ (decode cX11_beginRow 94 = .ok (.aload_n 0, 1)) ∧ (decode cX11_beginRow 95 = .ok (.getfield 46, 3)) ∧ (decode cX11_beginRow 98 = .ok (.iload_n 1, 1)) ∧ (decode cX11_beginRow 99 = .ok (.iconst 1, 1)) ∧ (decode cX11_beginRow 100 = .ok (.bastore, 1)) ∧ (decode cX11_beginRow 101 = .ok (.aload_n 0, 1)) ∧ (decode cX11_beginRow 102 = .ok (.iconst 0, 1)) ∧ (decode cX11_beginRow 103 = .ok (.putfield 209, 3)) ∧ (decode cX11_beginRow 106 = .ok (.aload_n 0, 1)) ∧ (decode cX11_beginRow 107 = .ok (.iconst 0, 1)) ∧ (decode cX11_beginRow 108 = .ok (.putfield 215, 3)) := by decide +kernel
theorem dX11_beginRow_85 : decode cX11_beginRow 85 = .ok (.dup, 1) := dq_X11_beginRow_85.1
theorem dX11_beginRow_86 : decode cX11_beginRow 86 = .ok (.getfield 218, 3) := dq_X11_beginRow_85.2.1
theorem dX11_beginRow_89 : decode cX11_beginRow 89 = .ok (.iconst 1, 1) := dq_X11_beginRow_85.2.2.1
theorem dX11_beginRow_90 : decode cX11_beginRow 90 = .ok (.iadd, 1) := dq_X11_beginRow_85.2.2.2.1
theorem dX11_beginRow_91 : decode cX11_beginRow 91 = .ok (.putfield 218, 3) := dq_X11_beginRow_85.2.2.2.2.1
theorem dX11_beginRow_94 : decode cX11_beginRow 94 = .ok (.aload_n 0, 1) := dq_X11_beginRow_85.2.2.2.2.2.1
theorem dX11_beginRow_95 : decode cX11_beginRow 95 = .ok (.getfield 46, 3) := dq_X11_beginRow_85.2.2.2.2.2.2.1
theorem dX11_beginRow_98 : decode cX11_beginRow 98 = .ok (.iload_n 1, 1) := dq_X11_beginRow_85.2.2.2.2.2.2.2.1
theorem dX11_beginRow_99 : decode cX11_beginRow 99 = .ok (.iconst 1, 1) := dq_X11_beginRow_85.2.2.2.2.2.2.2.2.1
theorem dX11_beginRow_100 : decode cX11_beginRow 100 = .ok (.bastore, 1) := dq_X11_beginRow_85.2.2.2.2.2.2.2.2.2.1
theorem dX11_beginRow_101 : decode cX11_beginRow 101 = .ok (.aload_n 0, 1) := dq_X11_beginRow_85.2.2.2.2.2.2.2.2.2.2.1
theorem dX11_beginRow_102 : decode cX11_beginRow 102 = .ok (.iconst 0, 1) := dq_X11_beginRow_85.2.2.2.2.2.2.2.2.2.2.2.1
theorem dX11_beginRow_103 : decode cX11_beginRow 103 = .ok (.putfield 209, 3) := dq_X11_beginRow_85.2.2.2.2.2.2.2.2.2.2.2.2.1
theorem dX11_beginRow_106 : decode cX11_beginRow 106 = .ok (.aload_n 0, 1) := dq_X11_beginRow_85.2.2.2.2.2.2.2.2.2.2.2.2.2.1
theorem dX11_beginRow_107 : decode cX11_beginRow 107 = .ok (.iconst 0, 1) := dq_X11_beginRow_85.2.2.2.2.2.2.2.2.2.2.2.2.2.2.1
theorem dX11_beginRow_108 : decode cX11_beginRow 108 = .ok (.putfield 215, 3) := dq_X11_beginRow_85.2.2.2.2.2.2.2.2.2.2.2.2.2.2.2
theorem dq_X11_beginRow_111 : (decode cX11_beginRow 111 = .ok (.aload_n 0, 1)) ∧ (decode cX11_beginRow 112 = .ok (.iconst (-1), 1)) ∧ (decode cX11_beginRow 113 = .ok (.putfield 245, 3)) ∧ (decode cX11_beginRow 116 = .ok (.aload_n 0, 1)) ∧ (decode cX11_beginRow 117 = .ok (.iconst (-1), 1)) ∧ (decode cX11_beginRow 118 = .ok (.putfield 248, 3)) ∧ (decode cX11_beginRow 121 = .ok (.aload_n 0, 1)) ∧ (decode cX11_beginRow 122 = .ok (.iconst (-1), 1)) ∧ (decode cX11_beginRow 123 = .ok (.putfield 242, 3)) ∧ (decode cX11_beginRow 126 = .ok (.iconst 0, 1)) ∧ (decode cX11_beginRow 127 = .ok (.istore_n 3, 1)) ∧ (decode cX11_beginRow 128 = .ok (.iload_n 3, 1)) ∧ (decode cX11_beginRow 129 = .ok (.iconst 4, 1)) ∧ (decode cX11_beginRow 130 = .ok (.if_icmp .ge 42, 3)) ∧ (decode cX11_beginRow 133 = .ok (.aload_n 0, 1)) ∧ (decode cX11_beginRow 134 = .ok (.getfield 104, 3)) := by decide +kernel
theorem dX11_beginRow_111 : decode cX11_beginRow 111 = .ok (.aload_n 0, 1) := dq_X11_beginRow_111.1
theorem dX11_beginRow_112 : decode cX11_beginRow 112 = .ok (.iconst (-1), 1) := dq_X11_beginRow_111.2.1
theorem dX11_beginRow_113 : decode cX11_beginRow 113 = .ok (.putfield 245, 3) := dq_X11_beginRow_111.2.2.1
theorem dX11_beginRow_116 : decode cX11_beginRow 116 = .ok (.aload_n 0, 1) := dq_X11_beginRow_111.2.2.2.1
theorem dX11_beginRow_117 : decode cX11_beginRow 117 = .ok (.iconst (-1), 1) := dq_X11_beginRow_111.2.2.2.2.1
theorem dX11_beginRow_118 : decode cX11_beginRow 118 = .ok (.putfield 248, 3) := dq_X11_beginRow_111.2.2.2.2.2.1
theorem dX11_beginRow_121 : decode cX11_beginRow 121 = .ok (.aload_n 0, 1) := dq_X11_beginRow_111.2.2.2.2.2.2.1
theorem dX11_beginRow_122 : decode cX11_beginRow 122 = .ok (.iconst (-1), 1) := dq_X11_beginRow_111.2.2.2.2.2.2.2.1
theorem dX11_beginRow_123 : decode cX11_beginRow 123 = .ok (.putfield 242, 3) := dq_X11_beginRow_111.2.2.2.2.2.2.2.2.1
theorem dX11_beginRow_126 : decode cX11_beginRow 126 = .ok (.iconst 0, 1) := dq_X11_beginRow_111.2.2.2.2.2.2.2.2.2.1
theorem dX11_beginRow_127 : decode cX11_beginRow 127 = .ok (.istore_n 3, 1) := dq_X11_beginRow_111.2.2.2.2.2.2.2.2.2.2.1
theorem dX11_beginRow_128 : decode cX11_beginRow 128 = .ok (.iload_n 3, 1) := dq_X11_beginRow_111.2.2.2.2.2.2.2.2.2.2.2.1
theorem dX11_beginRow_129 : decode cX11_beginRow 129 = .ok (.iconst 4, 1) := dq_X11_beginRow_111.2.2.2.2.2.2.2.2.2.2.2.2.1
theorem dX11_beginRow_130 : decode cX11_beginRow 130 = .ok (.if_icmp .ge 42, 3) := dq_X11_beginRow_111.2.2.2.2.2.2.2.2.2.2.2.2.2.1
theorem dX11_beginRow_133 : decode cX11_beginRow 133 = .ok (.aload_n 0, 1) := dq_X11_beginRow_111.2.2.2.2.2.2.2.2.2.2.2.2.2.2.1
theorem dX11_beginRow_134 : decode cX11_beginRow 134 = .ok (.getfield 104, 3) := dq_X11_beginRow_111.2.2.2.2.2.2.2.2.2.2.2.2.2.2.2
theorem dq_X11_beginRow_137 : (decode cX11_beginRow 137 = .ok (.iload_n 3, 1)) ∧ (decode cX11_beginRow 138 = .ok (.aload_n 0, 1)) ∧ (decode cX11_beginRow 139 = .ok (.getfield 37, 3)) ∧ (decode cX11_beginRow 142 = .ok (.sipush 256, 3)) ∧ (decode cX11_beginRow 145 = .ok (.aload_n 0, 1)) ∧ (decode cX11_beginRow 146 = .ok (.getfield 40, 3)) ∧ (decode cX11_beginRow 149 = .ok (.aload_n 0, 1)) ∧ (decode cX11_beginRow 150 = .ok (.getfield 203, 3)) ∧ (decode cX11_beginRow 153 = .ok (.iaload, 1)) ∧ (decode cX11_beginRow 154 = .ok (.imul, 1)) ∧ (decode cX11_beginRow 155 = .ok (.iconst 4, 1)) ∧ (decode cX11_beginRow 156 = .ok (.aload_n 0, 1)) ∧ (decode cX11_beginRow 157 = .ok (.getfield 206, 3)) ∧ (decode cX11_beginRow 160 = .ok (.imul, 1)) ∧ (decode cX11_beginRow 161 = .ok (.iadd, 1)) ∧ (decode cX11_beginRow 162 = .ok (.iload_n 3, 1)) := by decide +kernel
theorem dX11_beginRow_137 : decode cX11_beginRow 137 = .ok (.iload_n 3, 1) := dq_X11_beginRow_137.1
theorem dX11_beginRow_138 : decode cX11_beginRow 138 = .ok (.aload_n 0, 1) := dq_X11_beginRow_137.2.1
theorem dX11_beginRow_139 : decode cX11_beginRow 139 = .ok (.getfield 37, 3) := dq_X11_beginRow_137.2.2.1
theorem dX11_beginRow_142 : decode cX11_beginRow 142 = .ok (.sipush 256, 3) := dq_X11_beginRow_137.2.2.2.1
theorem dX11_beginRow_145 : decode cX11_beginRow 145 = .ok (.aload_n 0, 1) := dq_X11_beginRow_137.2.2.2.2.1
theorem dX11_beginRow_146 : decode cX11_beginRow 146 = .ok (.getfield 40, 3) := dq_X11_beginRow_137.2.2.2.2.2.1
theorem dX11_beginRow_149 : decode cX11_beginRow 149 = .ok (.aload_n 0, 1) := dq_X11_beginRow_137.2.2.2.2.2.2.1
theorem dX11_beginRow_150 : decode cX11_beginRow 150 = .ok (.getfield 203, 3) := dq_X11_beginRow_137.2.2.2.2.2.2.2.1
theorem dX11_beginRow_153 : decode cX11_beginRow 153 = .ok (.iaload, 1) := dq_X11_beginRow_137.2.2.2.2.2.2.2.2.1
theorem dX11_beginRow_154 : decode cX11_beginRow 154 = .ok (.imul, 1) := dq_X11_beginRow_137.2.2.2.2.2.2.2.2.2.1
theorem dX11_beginRow_155 : decode cX11_beginRow 155 = .ok (.iconst 4, 1) := dq_X11_beginRow_137.2.2.2.2.2.2.2.2.2.2.1
theorem dX11_beginRow_156 : decode cX11_beginRow 156 = .ok (.aload_n 0, 1) := dq_X11_beginRow_137.2.2.2.2.2.2.2.2.2.2.2.1
theorem dX11_beginRow_157 : decode cX11_beginRow 157 = .ok (.getfield 206, 3) := dq_X11_beginRow_137.2.2.2.2.2.2.2.2.2.2.2.2.1
theorem dX11_beginRow_160 : decode cX11_beginRow 160 = .ok (.imul, 1) := dq_X11_beginRow_137.2.2.2.2.2.2.2.2.2.2.2.2.2.1
theorem dX11_beginRow_161 : decode cX11_beginRow 161 = .ok (.iadd, 1) := dq_X11_beginRow_137.2.2.2.2.2.2.2.2.2.2.2.2.2.2.1
theorem dX11_beginRow_162 : decode cX11_beginRow 162 = .ok (.iload_n 3, 1) := dq_X11_beginRow_137.2.2.2.2.2.2.2.2.2.2.2.2.2.2.2
theorem dq_X11_beginRow_163 : (decode cX11_beginRow 163 = .ok (.iadd, 1)) ∧ (decode cX11_beginRow 164 = .ok (.iaload, 1)) ∧ (decode cX11_beginRow 165 = .ok (.iastore, 1)) ∧ (decode cX11_beginRow 166 = .ok (.iinc 3 1, 3)) ∧ (decode cX11_beginRow 169 = .ok (.goto (-41), 3)) ∧ (decode cX11_beginRow 172 = .ok (.return_, 1)) := by decide +kernel
theorem dX11_beginRow_163 : decode cX11_beginRow 163 = .ok (.iadd, 1) := dq_X11_beginRow_163.1
theorem dX11_beginRow_164 : decode cX11_beginRow 164 = .ok (.iaload, 1) := dq_X11_beginRow_163.2.1
theorem dX11_beginRow_165 : decode cX11_beginRow 165 = .ok (.iastore, 1) := dq_X11_beginRow_163.2.2.1
theorem dX11_beginRow_166 : decode cX11_beginRow 166 = .ok (.iinc 3 1, 3) := dq_X11_beginRow_163.2.2.2.1
theorem dX11_beginRow_169 : decode cX11_beginRow 169 = .ok (.goto (-41), 3) := dq_X11_beginRow_163.2.2.2.2.1
theorem dX11_beginRow_172 : decode cX11_beginRow 172 = .ok (.return_, 1) := dq_X11_beginRow_163.2.2.2.2.2
theorem dq_X11_effect_0 : (decode cX11_effect 0 = .ok (.iload_n 0, 1)) ∧ (decode cX11_effect 1 = .ok (.bipush 8, 2)) ∧ (decode cX11_effect 3 = .ok (.ishr, 1)) ∧ (decode cX11_effect 4 = .ok (.bipush 15, 2)) ∧ (decode cX11_effect 6 = .ok (.iand, 1)) ∧ (decode cX11_effect 7 = .ok (.ireturn, 1)) := by decide +kernel
theorem dX11_effect_0 : decode cX11_effect 0 = .ok (.iload_n 0, 1) := dq_X11_effect_0.1
theorem dX11_effect_1 : decode cX11_effect 1 = .ok (.bipush 8, 2) := dq_X11_effect_0.2.1
theorem dX11_effect_3 : decode cX11_effect 3 = .ok (.ishr, 1) := dq_X11_effect_0.2.2.1
theorem dX11_effect_4 : decode cX11_effect 4 = .ok (.bipush 15, 2) := dq_X11_effect_0.2.2.2.1
theorem dX11_effect_6 : decode cX11_effect 6 = .ok (.iand, 1) := dq_X11_effect_0.2.2.2.2.1
theorem dX11_effect_7 : decode cX11_effect 7 = .ok (.ireturn, 1) := dq_X11_effect_0.2.2.2.2.2
theorem dq_X11_x_0 : (decode cX11_x 0 = .ok (.iload_n 0, 1)) ∧ (decode cX11_x 1 = .ok (.iconst 4, 1)) ∧ (decode cX11_x 2 = .ok (.ishr, 1)) ∧ (decode cX11_x 3 = .ok (.bipush 15, 2)) ∧ (decode cX11_x 5 = .ok (.iand, 1)) ∧ (decode cX11_x 6 = .ok (.ireturn, 1)) := by decide +kernel
theorem dX11_x_0 : decode cX11_x 0 = .ok (.iload_n 0, 1) := dq_X11_x_0.1
theorem dX11_x_1 : decode cX11_x 1 = .ok (.iconst 4, 1) := dq_X11_x_0.2.1
theorem dX11_x_2 : decode cX11_x 2 = .ok (.ishr, 1) := dq_X11_x_0.2.2.1
theorem dX11_x_3 : decode cX11_x 3 = .ok (.bipush 15, 2) := dq_X11_x_0.2.2.2.1
theorem dX11_x_5 : decode cX11_x 5 = .ok (.iand, 1) := dq_X11_x_0.2.2.2.2.1
theorem dX11_x_6 : decode cX11_x 6 = .ok (.ireturn, 1) := dq_X11_x_0.2.2.2.2.2
theorem dq_X11_y_0 : (decode cX11_y 0 = .ok (.iload_n 0, 1)) ∧ (decode cX11_y 1 = .ok (.bipush 15, 2)) ∧ (decode cX11_y 3 = .ok (.iand, 1)) ∧ (decode cX11_y 4 = .ok (.ireturn, 1)) := by decide +kernel
theorem dX11_y_0 : decode cX11_y 0 = .ok (.iload_n 0, 1) := dq_X11_y_0.1
theorem dX11_y_1 : decode cX11_y 1 = .ok (.bipush 15, 2) := dq_X11_y_0.2.1
theorem dX11_y_3 : decode cX11_y 3 = .ok (.iand, 1) := dq_X11_y_0.2.2.1
theorem dX11_y_4 : decode cX11_y 4 = .ok (.ireturn, 1) := dq_X11_y_0.2.2.2
theorem dq_X11_isE_0 : (decode cX11_isE 0 = .ok (.iload_n 0, 1)) ∧ (decode cX11_isE 1 = .ok (.invokestatic 257, 3)) ∧ (decode cX11_isE 4 = .ok (.bipush 14, 2)) ∧ (decode cX11_isE 6 = .ok (.if_icmp .ne 15, 3)) ∧ (decode cX11_isE 9 = .ok (.iload_n 0, 1)) ∧ (decode cX11_isE 10 = .ok (.invokestatic 260, 3)) ∧ (decode cX11_isE 13 = .ok (.iload_n 1, 1)) ∧ (decode cX11_isE 14 = .ok (.if_icmp .ne 7, 3)) ∧ (decode cX11_isE 17 = .ok (.iconst 1, 1)) ∧ (decode cX11_isE 18 = .ok (.goto 4, 3)) ∧ (decode cX11_isE 21 = .ok (.iconst 0, 1)) ∧ (decode cX11_isE 22 = .ok (.ireturn, 1)) := by decide +kernel
theorem dX11_isE_0 : decode cX11_isE 0 = .ok (.iload_n 0, 1) := dq_X11_isE_0.1
theorem dX11_isE_1 : decode cX11_isE 1 = .ok (.invokestatic 257, 3) := dq_X11_isE_0.2.1
theorem dX11_isE_4 : decode cX11_isE 4 = .ok (.bipush 14, 2) := dq_X11_isE_0.2.2.1
theorem dX11_isE_6 : decode cX11_isE 6 = .ok (.if_icmp .ne 15, 3) := dq_X11_isE_0.2.2.2.1
theorem dX11_isE_9 : decode cX11_isE 9 = .ok (.iload_n 0, 1) := dq_X11_isE_0.2.2.2.2.1
theorem dX11_isE_10 : decode cX11_isE 10 = .ok (.invokestatic 260, 3) := dq_X11_isE_0.2.2.2.2.2.1
theorem dX11_isE_13 : decode cX11_isE 13 = .ok (.iload_n 1, 1) := dq_X11_isE_0.2.2.2.2.2.2.1
theorem dX11_isE_14 : decode cX11_isE 14 = .ok (.if_icmp .ne 7, 3) := dq_X11_isE_0.2.2.2.2.2.2.2.1
theorem dX11_isE_17 : decode cX11_isE 17 = .ok (.iconst 1, 1) := dq_X11_isE_0.2.2.2.2.2.2.2.2.1
theorem dX11_isE_18 : decode cX11_isE 18 = .ok (.goto 4, 3) := dq_X11_isE_0.2.2.2.2.2.2.2.2.2.1
theorem dX11_isE_21 : decode cX11_isE 21 = .ok (.iconst 0, 1) := dq_X11_isE_0.2.2.2.2.2.2.2.2.2.2.1
theorem dX11_isE_22 : decode cX11_isE 22 = .ok (.ireturn, 1) := dq_X11_isE_0.2.2.2.2.2.2.2.2.2.2.2
theorem dq_X11_tunedPeriod_0 : (decode cX11_tunedPeriod 0 = .ok (.iload_n 2, 1)) ∧ (decode cX11_tunedPeriod 1 = .ok (.iload_n 2, 1)) ∧ (decode cX11_tunedPeriod 2 = .ok (.aload_n 0, 1)) ∧ (decode cX11_tunedPeriod 3 = .ok (.getfield 62, 3)) ∧ (decode cX11_tunedPeriod 6 = .ok (.iload_n 1, 1)) ∧ (decode cX11_tunedPeriod 7 = .ok (.iaload, 1)) ∧ (decode cX11_tunedPeriod 8 = .ok (.imul, 1)) ∧ (decode cX11_tunedPeriod 9 = .ok (.sipush 138, 3)) ∧ (decode cX11_tunedPeriod 12 = .ok (.idiv, 1)) ∧ (decode cX11_tunedPeriod 13 = .ok (.isub, 1)) ∧ (decode cX11_tunedPeriod 14 = .ok (.bipush 113, 2)) ∧ (decode cX11_tunedPeriod 16 = .ok (.sipush 856, 3)) ∧ (decode cX11_tunedPeriod 19 = .ok (.invokestatic 263, 3)) ∧ (decode cX11_tunedPeriod 22 = .ok (.ireturn, 1)) := by decide +kernel
theorem dX11_tunedPeriod_0 : decode cX11_tunedPeriod 0 = .ok (.iload_n 2, 1) := dq_X11_tunedPeriod_0.1
theorem dX11_tunedPeriod_1 : decode cX11_tunedPeriod 1 = .ok (.iload_n 2, 1) := dq_X11_tunedPeriod_0.2.1
theorem dX11_tunedPeriod_2 : decode cX11_tunedPeriod 2 = .ok (.aload_n 0, 1) := dq_X11_tunedPeriod_0.2.2.1
theorem dX11_tunedPeriod_3 : decode cX11_tunedPeriod 3 = .ok (.getfield 62, 3) := dq_X11_tunedPeriod_0.2.2.2.1
theorem dX11_tunedPeriod_6 : decode cX11_tunedPeriod 6 = .ok (.iload_n 1, 1) := dq_X11_tunedPeriod_0.2.2.2.2.1
theorem dX11_tunedPeriod_7 : decode cX11_tunedPeriod 7 = .ok (.iaload, 1) := dq_X11_tunedPeriod_0.2.2.2.2.2.1
theorem dX11_tunedPeriod_8 : decode cX11_tunedPeriod 8 = .ok (.imul, 1) := dq_X11_tunedPeriod_0.2.2.2.2.2.2.1
theorem dX11_tunedPeriod_9 : decode cX11_tunedPeriod 9 = .ok (.sipush 138, 3) := dq_X11_tunedPeriod_0.2.2.2.2.2.2.2.1
theorem dX11_tunedPeriod_12 : decode cX11_tunedPeriod 12 = .ok (.idiv, 1) := dq_X11_tunedPeriod_0.2.2.2.2.2.2.2.2.1
theorem dX11_tunedPeriod_13 : decode cX11_tunedPeriod 13 = .ok (.isub, 1) := dq_X11_tunedPeriod_0.2.2.2.2.2.2.2.2.2.1
theorem dX11_tunedPeriod_14 : decode cX11_tunedPeriod 14 = .ok (.bipush 113, 2) := dq_X11_tunedPeriod_0.2.2.2.2.2.2.2.2.2.2.1
theorem dX11_tunedPeriod_16 : decode cX11_tunedPeriod 16 = .ok (.sipush 856, 3) := dq_X11_tunedPeriod_0.2.2.2.2.2.2.2.2.2.2.2.1
theorem dX11_tunedPeriod_19 : decode cX11_tunedPeriod 19 = .ok (.invokestatic 263, 3) := dq_X11_tunedPeriod_0.2.2.2.2.2.2.2.2.2.2.2.2.1
theorem dX11_tunedPeriod_22 : decode cX11_tunedPeriod 22 = .ok (.ireturn, 1) := dq_X11_tunedPeriod_0.2.2.2.2.2.2.2.2.2.2.2.2.2
theorem dq_X11_begins_0 : (decode cX11_begins 0 = .ok (.aload_n 0, 1)) ∧ (decode cX11_begins 1 = .ok (.getfield 113, 3)) ∧ (decode cX11_begins 4 = .ok (.iload_n 1, 1)) ∧ (decode cX11_begins 5 = .ok (.lconst 0, 1)) ∧ (decode cX11_begins 6 = .ok (.lastore, 1)) ∧ (decode cX11_begins 7 = .ok (.aload_n 0, 1)) ∧ (decode cX11_begins 8 = .ok (.getfield 117, 3)) ∧ (decode cX11_begins 11 = .ok (.iload_n 1, 1)) ∧ (decode cX11_begins 12 = .ok (.aload_n 0, 1)) ∧ (decode cX11_begins 13 = .ok (.getfield 56, 3)) ∧ (decode cX11_begins 16 = .ok (.iload_n 1, 1)) ∧ (decode cX11_begins 17 = .ok (.iaload, 1)) ∧ (decode cX11_begins 18 = .ok (.ifCond .le 21, 3)) ∧ (decode cX11_begins 21 = .ok (.aload_n 0, 1)) ∧ (decode cX11_begins 22 = .ok (.getfield 17, 3)) ∧ (decode cX11_begins 25 = .ok (.aload_n 0, 1)) := by decide +kernel
theorem dX11_begins_0 : decode cX11_begins 0 = .ok (.aload_n 0, 1) := dq_X11_begins_0.1
theorem dX11_begins_1 : decode cX11_begins 1 = .ok (.getfield 113, 3) := dq_X11_begins_0.2.1
theorem dX11_begins_4 : decode cX11_begins 4 = .ok (.iload_n 1, 1) := dq_X11_begins_0.2.2.1
theorem dX11_begins_5 : decode cX11_begins 5 = .ok (.lconst 0, 1) := dq_X11_begins_0.2.2.2.1
theorem dX11_begins_6 : decode cX11_begins 6 = .ok (.lastore, 1) := dq_X11_begins_0.2.2.2.2.1
theorem dX11_begins_7 : decode cX11_begins 7 = .ok (.aload_n 0, 1) := dq_X11_begins_0.2.2.2.2.2.1
theorem dX11_begins_8 : decode cX11_begins 8 = .ok (.getfield 117, 3) := dq_X11_begins_0.2.2.2.2.2.2.1
theorem dX11_begins_11 : decode cX11_begins 11 = .ok (.iload_n 1, 1) := dq_X11_begins_0.2.2.2.2.2.2.2.1
theorem dX11_begins_12 : decode cX11_begins 12 = .ok (.aload_n 0, 1) := dq_X11_begins_0.2.2.2.2.2.2.2.2.1
theorem dX11_begins_13 : decode cX11_begins 13 = .ok (.getfield 56, 3) := dq_X11_begins_0.2.2.2.2.2.2.2.2.2.1
theorem dX11_begins_16 : decode cX11_begins 16 = .ok (.iload_n 1, 1) := dq_X11_begins_0.2.2.2.2.2.2.2.2.2.2.1
theorem dX11_begins_17 : decode cX11_begins 17 = .ok (.iaload, 1) := dq_X11_begins_0.2.2.2.2.2.2.2.2.2.2.2.1
theorem dX11_begins_18 : decode cX11_begins 18 = .ok (.ifCond .le 21, 3) := dq_X11_begins_0.2.2.2.2.2.2.2.2.2.2.2.2.1
theorem dX11_begins_21 : decode cX11_begins 21 = .ok (.aload_n 0, 1) := dq_X11_begins_0.2.2.2.2.2.2.2.2.2.2.2.2.2.1
theorem dX11_begins_22 : decode cX11_begins 22 = .ok (.getfield 17, 3) := dq_X11_begins_0.2.2.2.2.2.2.2.2.2.2.2.2.2.2.1
theorem dX11_begins_25 : decode cX11_begins 25 = .ok (.aload_n 0, 1) := dq_X11_begins_0.2.2.2.2.2.2.2.2.2.2.2.2.2.2.2
theorem dq_X11_begins_26 : (decode cX11_begins 26 = .ok (.getfield 56, 3)) ∧ (decode cX11_begins 29 = .ok (.iload_n 1, 1)) ∧ (decode cX11_begins 30 = .ok (.iaload, 1)) ∧ (decode cX11_begins 31 = .ok (.iaload, 1)) ∧ (decode cX11_begins 32 = .ok (.ifCond .le 7, 3)) ∧ (decode cX11_begins 35 = .ok (.iconst 1, 1)) ∧ (decode cX11_begins 36 = .ok (.goto 4, 3)) ∧ (decode cX11_begins 39 = .ok (.iconst 0, 1)) ∧ (decode cX11_begins 40 = .ok (.bastore, 1)) ∧ (decode cX11_begins 41 = .ok (.return_, 1)) := by decide +kernel
theorem dX11_begins_26 : decode cX11_begins 26 = .ok (.getfield 56, 3) := dq_X11_begins_26.1
theorem dX11_begins_29 : decode cX11_begins 29 = .ok (.iload_n 1, 1) := dq_X11_begins_26.2.1
theorem dX11_begins_30 : decode cX11_begins 30 = .ok (.iaload, 1) := dq_X11_begins_26.2.2.1
theorem dX11_begins_31 : decode cX11_begins 31 = .ok (.iaload, 1) := dq_X11_begins_26.2.2.2.1
theorem dX11_begins_32 : decode cX11_begins 32 = .ok (.ifCond .le 7, 3) := dq_X11_begins_26.2.2.2.2.1
theorem dX11_begins_35 : decode cX11_begins 35 = .ok (.iconst 1, 1) := dq_X11_begins_26.2.2.2.2.2.1
theorem dX11_begins_36 : decode cX11_begins 36 = .ok (.goto 4, 3) := dq_X11_begins_26.2.2.2.2.2.2.1
theorem dX11_begins_39 : decode cX11_begins 39 = .ok (.iconst 0, 1) := dq_X11_begins_26.2.2.2.2.2.2.2.1
theorem dX11_begins_40 : decode cX11_begins 40 = .ok (.bastore, 1) := dq_X11_begins_26.2.2.2.2.2.2.2.2.1
theorem dX11_begins_41 : decode cX11_begins 41 = .ok (.return_, 1) := dq_X11_begins_26.2.2.2.2.2.2.2.2.2
theorem dq_X11_comes_0 : (decode cX11_comes 0 = .ok (.aload_n 0, 1)) ∧ (decode cX11_comes 1 = .ok (.getfield 104, 3)) ∧ (decode cX11_comes 4 = .ok (.iload_n 1, 1)) ∧ (decode cX11_comes 5 = .ok (.iaload, 1)) ∧ (decode cX11_comes 6 = .ok (.istore_n 2, 1)) ∧ (decode cX11_comes 7 = .ok (.iload_n 2, 1)) ∧ (decode cX11_comes 8 = .ok (.bipush 12, 2)) ∧ (decode cX11_comes 10 = .ok (.ishr, 1)) ∧ (decode cX11_comes 11 = .ok (.bipush 31, 2)) ∧ (decode cX11_comes 13 = .ok (.iand, 1)) ∧ (decode cX11_comes 14 = .ok (.istore_n 3, 1)) ∧ (decode cX11_comes 15 = .ok (.iload_n 2, 1)) ∧ (decode cX11_comes 16 = .ok (.bipush 17, 2)) ∧ (decode cX11_comes 18 = .ok (.ishr, 1)) ∧ (decode cX11_comes 19 = .ok (.istore 4, 2)) ∧ (decode cX11_comes 21 = .ok (.iload_n 3, 1)) := by decide +kernel
theorem dX11_comes_0 : decode cX11_comes 0 = .ok (.aload_n 0, 1) := dq_X11_comes_0.1
theorem dX11_comes_1 : decode cX11_comes 1 = .ok (.getfield 104, 3) := dq_X11_comes_0.2.1
theorem dX11_comes_4 : decode cX11_comes 4 = .ok (.iload_n 1, 1) := dq_X11_comes_0.2.2.1
theorem dX11_comes_5 : decode cX11_comes 5 = .ok (.iaload, 1) := dq_X11_comes_0.2.2.2.1
theorem dX11_comes_6 : decode cX11_comes 6 = .ok (.istore_n 2, 1) := dq_X11_comes_0.2.2.2.2.1
theorem dX11_comes_7 : decode cX11_comes 7 = .ok (.iload_n 2, 1) := dq_X11_comes_0.2.2.2.2.2.1
theorem dX11_comes_8 : decode cX11_comes 8 = .ok (.bipush 12, 2) := dq_X11_comes_0.2.2.2.2.2.2.1
theorem dX11_comes_10 : decode cX11_comes 10 = .ok (.ishr, 1) := dq_X11_comes_0.2.2.2.2.2.2.2.1
theorem dX11_comes_11 : decode cX11_comes 11 = .ok (.bipush 31, 2) := dq_X11_comes_0.2.2.2.2.2.2.2.2.1
theorem dX11_comes_13 : decode cX11_comes 13 = .ok (.iand, 1) := dq_X11_comes_0.2.2.2.2.2.2.2.2.2.1
theorem dX11_comes_14 : decode cX11_comes 14 = .ok (.istore_n 3, 1) := dq_X11_comes_0.2.2.2.2.2.2.2.2.2.2.1
theorem dX11_comes_15 : decode cX11_comes 15 = .ok (.iload_n 2, 1) := dq_X11_comes_0.2.2.2.2.2.2.2.2.2.2.2.1
theorem dX11_comes_16 : decode cX11_comes 16 = .ok (.bipush 17, 2) := dq_X11_comes_0.2.2.2.2.2.2.2.2.2.2.2.2.1
theorem dX11_comes_18 : decode cX11_comes 18 = .ok (.ishr, 1) := dq_X11_comes_0.2.2.2.2.2.2.2.2.2.2.2.2.2.1
theorem dX11_comes_19 : decode cX11_comes 19 = .ok (.istore 4, 2) := dq_X11_comes_0.2.2.2.2.2.2.2.2.2.2.2.2.2.2.1
theorem dX11_comes_21 : decode cX11_comes 21 = .ok (.iload_n 3, 1) := dq_X11_comes_0.2.2.2.2.2.2.2.2.2.2.2.2.2.2.2
theorem dq_X11_comes_22 : (decode cX11_comes 22 = .ok (.ifCond .le 34, 3)) ∧ (decode cX11_comes 25 = .ok (.aload_n 0, 1)) ∧ (decode cX11_comes 26 = .ok (.getfield 56, 3)) ∧ (decode cX11_comes 29 = .ok (.iload_n 1, 1)) ∧ (decode cX11_comes 30 = .ok (.iload_n 3, 1)) ∧ (decode cX11_comes 31 = .ok (.iastore, 1)) ∧ (decode cX11_comes 32 = .ok (.aload_n 0, 1)) ∧ (decode cX11_comes 33 = .ok (.getfield 59, 3)) ∧ (decode cX11_comes 36 = .ok (.iload_n 1, 1)) ∧ (decode cX11_comes 37 = .ok (.aload_n 0, 1)) ∧ (decode cX11_comes 38 = .ok (.getfield 24, 3)) ∧ (decode cX11_comes 41 = .ok (.iload_n 3, 1)) ∧ (decode cX11_comes 42 = .ok (.iaload, 1)) ∧ (decode cX11_comes 43 = .ok (.iastore, 1)) ∧ (decode cX11_comes 44 = .ok (.aload_n 0, 1)) ∧ (decode cX11_comes 45 = .ok (.getfield 62, 3)) := by decide +kernel
theorem dX11_comes_22 : decode cX11_comes 22 = .ok (.ifCond .le 34, 3) := dq_X11_comes_22.1
theorem dX11_comes_25 : decode cX11_comes 25 = .ok (.aload_n 0, 1) := dq_X11_comes_22.2.1
theorem dX11_comes_26 : decode cX11_comes 26 = .ok (.getfield 56, 3) := dq_X11_comes_22.2.2.1
theorem dX11_comes_29 : decode cX11_comes 29 = .ok (.iload_n 1, 1) := dq_X11_comes_22.2.2.2.1
theorem dX11_comes_30 : decode cX11_comes 30 = .ok (.iload_n 3, 1) := dq_X11_comes_22.2.2.2.2.1
theorem dX11_comes_31 : decode cX11_comes 31 = .ok (.iastore, 1) := dq_X11_comes_22.2.2.2.2.2.1
theorem dX11_comes_32 : decode cX11_comes 32 = .ok (.aload_n 0, 1) := dq_X11_comes_22.2.2.2.2.2.2.1
theorem dX11_comes_33 : decode cX11_comes 33 = .ok (.getfield 59, 3) := dq_X11_comes_22.2.2.2.2.2.2.2.1
theorem dX11_comes_36 : decode cX11_comes 36 = .ok (.iload_n 1, 1) := dq_X11_comes_22.2.2.2.2.2.2.2.2.1
theorem dX11_comes_37 : decode cX11_comes 37 = .ok (.aload_n 0, 1) := dq_X11_comes_22.2.2.2.2.2.2.2.2.2.1
theorem dX11_comes_38 : decode cX11_comes 38 = .ok (.getfield 24, 3) := dq_X11_comes_22.2.2.2.2.2.2.2.2.2.2.1
theorem dX11_comes_41 : decode cX11_comes 41 = .ok (.iload_n 3, 1) := dq_X11_comes_22.2.2.2.2.2.2.2.2.2.2.2.1
theorem dX11_comes_42 : decode cX11_comes 42 = .ok (.iaload, 1) := dq_X11_comes_22.2.2.2.2.2.2.2.2.2.2.2.2.1
theorem dX11_comes_43 : decode cX11_comes 43 = .ok (.iastore, 1) := dq_X11_comes_22.2.2.2.2.2.2.2.2.2.2.2.2.2.1
theorem dX11_comes_44 : decode cX11_comes 44 = .ok (.aload_n 0, 1) := dq_X11_comes_22.2.2.2.2.2.2.2.2.2.2.2.2.2.2.1
theorem dX11_comes_45 : decode cX11_comes 45 = .ok (.getfield 62, 3) := dq_X11_comes_22.2.2.2.2.2.2.2.2.2.2.2.2.2.2.2
theorem dq_X11_comes_48 : (decode cX11_comes 48 = .ok (.iload_n 1, 1)) ∧ (decode cX11_comes 49 = .ok (.aload_n 0, 1)) ∧ (decode cX11_comes 50 = .ok (.getfield 21, 3)) ∧ (decode cX11_comes 53 = .ok (.iload_n 3, 1)) ∧ (decode cX11_comes 54 = .ok (.iaload, 1)) ∧ (decode cX11_comes 55 = .ok (.iastore, 1)) ∧ (decode cX11_comes 56 = .ok (.iload 4, 2)) ∧ (decode cX11_comes 58 = .ok (.ifCond .ne 4, 3)) ∧ (decode cX11_comes 61 = .ok (.return_, 1)) ∧ (decode cX11_comes 62 = .ok (.iload_n 2, 1)) ∧ (decode cX11_comes 63 = .ok (.invokestatic 257, 3)) ∧ (decode cX11_comes 66 = .ok (.iconst 3, 1)) ∧ (decode cX11_comes 67 = .ok (.if_icmp .eq 11, 3)) ∧ (decode cX11_comes 70 = .ok (.iload_n 2, 1)) ∧ (decode cX11_comes 71 = .ok (.invokestatic 257, 3)) ∧ (decode cX11_comes 74 = .ok (.iconst 5, 1)) := by decide +kernel
theorem dX11_comes_48 : decode cX11_comes 48 = .ok (.iload_n 1, 1) := dq_X11_comes_48.1
theorem dX11_comes_49 : decode cX11_comes 49 = .ok (.aload_n 0, 1) := dq_X11_comes_48.2.1
theorem dX11_comes_50 : decode cX11_comes 50 = .ok (.getfield 21, 3) := dq_X11_comes_48.2.2.1
theorem dX11_comes_53 : decode cX11_comes 53 = .ok (.iload_n 3, 1) := dq_X11_comes_48.2.2.2.1
theorem dX11_comes_54 : decode cX11_comes 54 = .ok (.iaload, 1) := dq_X11_comes_48.2.2.2.2.1
theorem dX11_comes_55 : decode cX11_comes 55 = .ok (.iastore, 1) := dq_X11_comes_48.2.2.2.2.2.1
theorem dX11_comes_56 : decode cX11_comes 56 = .ok (.iload 4, 2) := dq_X11_comes_48.2.2.2.2.2.2.1
theorem dX11_comes_58 : decode cX11_comes 58 = .ok (.ifCond .ne 4, 3) := dq_X11_comes_48.2.2.2.2.2.2.2.1
theorem dX11_comes_61 : decode cX11_comes 61 = .ok (.return_, 1) := dq_X11_comes_48.2.2.2.2.2.2.2.2.1
theorem dX11_comes_62 : decode cX11_comes 62 = .ok (.iload_n 2, 1) := dq_X11_comes_48.2.2.2.2.2.2.2.2.2.1
theorem dX11_comes_63 : decode cX11_comes 63 = .ok (.invokestatic 257, 3) := dq_X11_comes_48.2.2.2.2.2.2.2.2.2.2.1
theorem dX11_comes_66 : decode cX11_comes 66 = .ok (.iconst 3, 1) := dq_X11_comes_48.2.2.2.2.2.2.2.2.2.2.2.1
theorem dX11_comes_67 : decode cX11_comes 67 = .ok (.if_icmp .eq 11, 3) := dq_X11_comes_48.2.2.2.2.2.2.2.2.2.2.2.2.1
theorem dX11_comes_70 : decode cX11_comes 70 = .ok (.iload_n 2, 1) := dq_X11_comes_48.2.2.2.2.2.2.2.2.2.2.2.2.2.1
theorem dX11_comes_71 : decode cX11_comes 71 = .ok (.invokestatic 257, 3) := dq_X11_comes_48.2.2.2.2.2.2.2.2.2.2.2.2.2.2.1
theorem dX11_comes_74 : decode cX11_comes 74 = .ok (.iconst 5, 1) := dq_X11_comes_48.2.2.2.2.2.2.2.2.2.2.2.2.2.2.2
theorem dq_X11_comes_75 : (decode cX11_comes 75 = .ok (.if_icmp .ne 17, 3)) ∧ (decode cX11_comes 78 = .ok (.aload_n 0, 1)) ∧ (decode cX11_comes 79 = .ok (.getfield 71, 3)) ∧ (decode cX11_comes 82 = .ok (.iload_n 1, 1)) ∧ (decode cX11_comes 83 = .ok (.aload_n 0, 1)) ∧ (decode cX11_comes 84 = .ok (.iload_n 1, 1)) ∧ (decode cX11_comes 85 = .ok (.iload 4, 2)) ∧ (decode cX11_comes 87 = .ok (.invokevirtual 266, 3)) ∧ (decode cX11_comes 90 = .ok (.iastore, 1)) ∧ (decode cX11_comes 91 = .ok (.return_, 1)) ∧ (decode cX11_comes 92 = .ok (.aload_n 0, 1)) ∧ (decode cX11_comes 93 = .ok (.getfield 65, 3)) ∧ (decode cX11_comes 96 = .ok (.iload_n 1, 1)) ∧ (decode cX11_comes 97 = .ok (.aload_n 0, 1)) ∧ (decode cX11_comes 98 = .ok (.iload_n 1, 1)) ∧ (decode cX11_comes 99 = .ok (.iload 4, 2)) := by decide +kernel
theorem dX11_comes_75 : decode cX11_comes 75 = .ok (.if_icmp .ne 17, 3) := dq_X11_comes_75.1
theorem dX11_comes_78 : decode cX11_comes 78 = .ok (.aload_n 0, 1) := dq_X11_comes_75.2.1
theorem dX11_comes_79 : decode cX11_comes 79 = .ok (.getfield 71, 3) := dq_X11_comes_75.2.2.1
theorem dX11_comes_82 : decode cX11_comes 82 = .ok (.iload_n 1, 1) := dq_X11_comes_75.2.2.2.1
theorem dX11_comes_83 : decode cX11_comes 83 = .ok (.aload_n 0, 1) := dq_X11_comes_75.2.2.2.2.1
theorem dX11_comes_84 : decode cX11_comes 84 = .ok (.iload_n 1, 1) := dq_X11_comes_75.2.2.2.2.2.1
theorem dX11_comes_85 : decode cX11_comes 85 = .ok (.iload 4, 2) := dq_X11_comes_75.2.2.2.2.2.2.1
theorem dX11_comes_87 : decode cX11_comes 87 = .ok (.invokevirtual 266, 3) := dq_X11_comes_75.2.2.2.2.2.2.2.1
theorem dX11_comes_90 : decode cX11_comes 90 = .ok (.iastore, 1) := dq_X11_comes_75.2.2.2.2.2.2.2.2.1
theorem dX11_comes_91 : decode cX11_comes 91 = .ok (.return_, 1) := dq_X11_comes_75.2.2.2.2.2.2.2.2.2.1
theorem dX11_comes_92 : decode cX11_comes 92 = .ok (.aload_n 0, 1) := dq_X11_comes_75.2.2.2.2.2.2.2.2.2.2.1
theorem dX11_comes_93 : decode cX11_comes 93 = .ok (.getfield 65, 3) := dq_X11_comes_75.2.2.2.2.2.2.2.2.2.2.2.1
theorem dX11_comes_96 : decode cX11_comes 96 = .ok (.iload_n 1, 1) := dq_X11_comes_75.2.2.2.2.2.2.2.2.2.2.2.2.1
theorem dX11_comes_97 : decode cX11_comes 97 = .ok (.aload_n 0, 1) := dq_X11_comes_75.2.2.2.2.2.2.2.2.2.2.2.2.2.1
theorem dX11_comes_98 : decode cX11_comes 98 = .ok (.iload_n 1, 1) := dq_X11_comes_75.2.2.2.2.2.2.2.2.2.2.2.2.2.2.1
theorem dX11_comes_99 : decode cX11_comes 99 = .ok (.iload 4, 2) := dq_X11_comes_75.2.2.2.2.2.2.2.2.2.2.2.2.2.2.2
theorem dq_X11_comes_101 : (decode cX11_comes 101 = .ok (.invokevirtual 266, 3)) ∧ (decode cX11_comes 104 = .ok (.iastore, 1)) ∧ (decode cX11_comes 105 = .ok (.aload_n 0, 1)) ∧ (decode cX11_comes 106 = .ok (.getfield 68, 3)) ∧ (decode cX11_comes 109 = .ok (.iload_n 1, 1)) ∧ (decode cX11_comes 110 = .ok (.aload_n 0, 1)) ∧ (decode cX11_comes 111 = .ok (.getfield 65, 3)) ∧ (decode cX11_comes 114 = .ok (.iload_n 1, 1)) ∧ (decode cX11_comes 115 = .ok (.iaload, 1)) ∧ (decode cX11_comes 116 = .ok (.iastore, 1)) ∧ (decode cX11_comes 117 = .ok (.aload_n 0, 1)) ∧ (decode cX11_comes 118 = .ok (.iload_n 1, 1)) ∧ (decode cX11_comes 119 = .ok (.invokevirtual 269, 3)) ∧ (decode cX11_comes 122 = .ok (.aload_n 0, 1)) ∧ (decode cX11_comes 123 = .ok (.getfield 80, 3)) ∧ (decode cX11_comes 126 = .ok (.iload_n 1, 1)) := by decide +kernel
theorem dX11_comes_101 : decode cX11_comes 101 = .ok (.invokevirtual 266, 3) := dq_X11_comes_101.1
theorem dX11_comes_104 : decode cX11_comes 104 = .ok (.iastore, 1) := dq_X11_comes_101.2.1
theorem dX11_comes_105 : decode cX11_comes 105 = .ok (.aload_n 0, 1) := dq_X11_comes_101.2.2.1
theorem dX11_comes_106 : decode cX11_comes 106 = .ok (.getfield 68, 3) := dq_X11_comes_101.2.2.2.1
theorem dX11_comes_109 : decode cX11_comes 109 = .ok (.iload_n 1, 1) := dq_X11_comes_101.2.2.2.2.1
theorem dX11_comes_110 : decode cX11_comes 110 = .ok (.aload_n 0, 1) := dq_X11_comes_101.2.2.2.2.2.1
theorem dX11_comes_111 : decode cX11_comes 111 = .ok (.getfield 65, 3) := dq_X11_comes_101.2.2.2.2.2.2.1
theorem dX11_comes_114 : decode cX11_comes 114 = .ok (.iload_n 1, 1) := dq_X11_comes_101.2.2.2.2.2.2.2.1
theorem dX11_comes_115 : decode cX11_comes 115 = .ok (.iaload, 1) := dq_X11_comes_101.2.2.2.2.2.2.2.2.1
theorem dX11_comes_116 : decode cX11_comes 116 = .ok (.iastore, 1) := dq_X11_comes_101.2.2.2.2.2.2.2.2.2.1
theorem dX11_comes_117 : decode cX11_comes 117 = .ok (.aload_n 0, 1) := dq_X11_comes_101.2.2.2.2.2.2.2.2.2.2.1
theorem dX11_comes_118 : decode cX11_comes 118 = .ok (.iload_n 1, 1) := dq_X11_comes_101.2.2.2.2.2.2.2.2.2.2.2.1
theorem dX11_comes_119 : decode cX11_comes 119 = .ok (.invokevirtual 269, 3) := dq_X11_comes_101.2.2.2.2.2.2.2.2.2.2.2.2.1
theorem dX11_comes_122 : decode cX11_comes 122 = .ok (.aload_n 0, 1) := dq_X11_comes_101.2.2.2.2.2.2.2.2.2.2.2.2.2.1
theorem dX11_comes_123 : decode cX11_comes 123 = .ok (.getfield 80, 3) := dq_X11_comes_101.2.2.2.2.2.2.2.2.2.2.2.2.2.2.1
theorem dX11_comes_126 : decode cX11_comes 126 = .ok (.iload_n 1, 1) := dq_X11_comes_101.2.2.2.2.2.2.2.2.2.2.2.2.2.2.2
theorem dq_X11_comes_127 : (decode cX11_comes 127 = .ok (.iconst 0, 1)) ∧ (decode cX11_comes 128 = .ok (.iastore, 1)) ∧ (decode cX11_comes 129 = .ok (.aload_n 0, 1)) ∧ (decode cX11_comes 130 = .ok (.getfield 89, 3)) ∧ (decode cX11_comes 133 = .ok (.iload_n 1, 1)) ∧ (decode cX11_comes 134 = .ok (.iconst 0, 1)) ∧ (decode cX11_comes 135 = .ok (.iastore, 1)) ∧ (decode cX11_comes 136 = .ok (.return_, 1)) := by decide +kernel
theorem dX11_comes_127 : decode cX11_comes 127 = .ok (.iconst 0, 1) := dq_X11_comes_127.1
theorem dX11_comes_128 : decode cX11_comes 128 = .ok (.iastore, 1) := dq_X11_comes_127.2.1
theorem dX11_comes_129 : decode cX11_comes 129 = .ok (.aload_n 0, 1) := dq_X11_comes_127.2.2.1
theorem dX11_comes_130 : decode cX11_comes 130 = .ok (.getfield 89, 3) := dq_X11_comes_127.2.2.2.1
theorem dX11_comes_133 : decode cX11_comes 133 = .ok (.iload_n 1, 1) := dq_X11_comes_127.2.2.2.2.1
theorem dX11_comes_134 : decode cX11_comes 134 = .ok (.iconst 0, 1) := dq_X11_comes_127.2.2.2.2.2.1
theorem dX11_comes_135 : decode cX11_comes 135 = .ok (.iastore, 1) := dq_X11_comes_127.2.2.2.2.2.2.1
theorem dX11_comes_136 : decode cX11_comes 136 = .ok (.return_, 1) := dq_X11_comes_127.2.2.2.2.2.2.2
theorem dq_X11_periodBy_0 : (decode cX11_periodBy 0 = .ok (.aload_n 0, 1)) ∧ (decode cX11_periodBy 1 = .ok (.getfield 65, 3)) ∧ (decode cX11_periodBy 4 = .ok (.iload_n 1, 1)) ∧ (decode cX11_periodBy 5 = .ok (.iaload, 1)) ∧ (decode cX11_periodBy 6 = .ok (.ifCond .eq 25, 3)) ∧ (decode cX11_periodBy 9 = .ok (.aload_n 0, 1)) ∧ (decode cX11_periodBy 10 = .ok (.getfield 65, 3)) ∧ (decode cX11_periodBy 13 = .ok (.iload_n 1, 1)) ∧ (decode cX11_periodBy 14 = .ok (.aload_n 0, 1)) ∧ (decode cX11_periodBy 15 = .ok (.getfield 65, 3)) ∧ (decode cX11_periodBy 18 = .ok (.iload_n 1, 1)) ∧ (decode cX11_periodBy 19 = .ok (.iaload, 1)) ∧ (decode cX11_periodBy 20 = .ok (.iload_n 2, 1)) ∧ (decode cX11_periodBy 21 = .ok (.iadd, 1)) ∧ (decode cX11_periodBy 22 = .ok (.bipush 113, 2)) ∧ (decode cX11_periodBy 24 = .ok (.sipush 856, 3)) := by decide +kernel
theorem dX11_periodBy_0 : decode cX11_periodBy 0 = .ok (.aload_n 0, 1) := dq_X11_periodBy_0.1
theorem dX11_periodBy_1 : decode cX11_periodBy 1 = .ok (.getfield 65, 3) := dq_X11_periodBy_0.2.1
theorem dX11_periodBy_4 : decode cX11_periodBy 4 = .ok (.iload_n 1, 1) := dq_X11_periodBy_0.2.2.1
theorem dX11_periodBy_5 : decode cX11_periodBy 5 = .ok (.iaload, 1) := dq_X11_periodBy_0.2.2.2.1
theorem dX11_periodBy_6 : decode cX11_periodBy 6 = .ok (.ifCond .eq 25, 3) := dq_X11_periodBy_0.2.2.2.2.1
theorem dX11_periodBy_9 : decode cX11_periodBy 9 = .ok (.aload_n 0, 1) := dq_X11_periodBy_0.2.2.2.2.2.1
theorem dX11_periodBy_10 : decode cX11_periodBy 10 = .ok (.getfield 65, 3) := dq_X11_periodBy_0.2.2.2.2.2.2.1
theorem dX11_periodBy_13 : decode cX11_periodBy 13 = .ok (.iload_n 1, 1) := dq_X11_periodBy_0.2.2.2.2.2.2.2.1
theorem dX11_periodBy_14 : decode cX11_periodBy 14 = .ok (.aload_n 0, 1) := dq_X11_periodBy_0.2.2.2.2.2.2.2.2.1
theorem dX11_periodBy_15 : decode cX11_periodBy 15 = .ok (.getfield 65, 3) := dq_X11_periodBy_0.2.2.2.2.2.2.2.2.2.1
theorem dX11_periodBy_18 : decode cX11_periodBy 18 = .ok (.iload_n 1, 1) := dq_X11_periodBy_0.2.2.2.2.2.2.2.2.2.2.1
theorem dX11_periodBy_19 : decode cX11_periodBy 19 = .ok (.iaload, 1) := dq_X11_periodBy_0.2.2.2.2.2.2.2.2.2.2.2.1
theorem dX11_periodBy_20 : decode cX11_periodBy 20 = .ok (.iload_n 2, 1) := dq_X11_periodBy_0.2.2.2.2.2.2.2.2.2.2.2.2.1
theorem dX11_periodBy_21 : decode cX11_periodBy 21 = .ok (.iadd, 1) := dq_X11_periodBy_0.2.2.2.2.2.2.2.2.2.2.2.2.2.1
theorem dX11_periodBy_22 : decode cX11_periodBy 22 = .ok (.bipush 113, 2) := dq_X11_periodBy_0.2.2.2.2.2.2.2.2.2.2.2.2.2.2.1
theorem dX11_periodBy_24 : decode cX11_periodBy 24 = .ok (.sipush 856, 3) := dq_X11_periodBy_0.2.2.2.2.2.2.2.2.2.2.2.2.2.2.2
theorem dq_X11_periodBy_27 : (decode cX11_periodBy 27 = .ok (.invokestatic 263, 3)) ∧ (decode cX11_periodBy 30 = .ok (.iastore, 1)) ∧ (decode cX11_periodBy 31 = .ok (.return_, 1)) := by decide +kernel
theorem dX11_periodBy_27 : decode cX11_periodBy 27 = .ok (.invokestatic 263, 3) := dq_X11_periodBy_27.1
theorem dX11_periodBy_30 : decode cX11_periodBy 30 = .ok (.iastore, 1) := dq_X11_periodBy_27.2.1
theorem dX11_periodBy_31 : decode cX11_periodBy 31 = .ok (.return_, 1) := dq_X11_periodBy_27.2.2
theorem dq_X11_volumeBy_0 : (decode cX11_volumeBy 0 = .ok (.aload_n 0, 1)) ∧ (decode cX11_volumeBy 1 = .ok (.getfield 59, 3)) ∧ (decode cX11_volumeBy 4 = .ok (.iload_n 1, 1)) ∧ (decode cX11_volumeBy 5 = .ok (.aload_n 0, 1)) ∧ (decode cX11_volumeBy 6 = .ok (.getfield 59, 3)) ∧ (decode cX11_volumeBy 9 = .ok (.iload_n 1, 1)) ∧ (decode cX11_volumeBy 10 = .ok (.iaload, 1)) ∧ (decode cX11_volumeBy 11 = .ok (.iload_n 2, 1)) ∧ (decode cX11_volumeBy 12 = .ok (.iadd, 1)) ∧ (decode cX11_volumeBy 13 = .ok (.iconst 0, 1)) ∧ (decode cX11_volumeBy 14 = .ok (.bipush 64, 2)) ∧ (decode cX11_volumeBy 16 = .ok (.invokestatic 263, 3)) ∧ (decode cX11_volumeBy 19 = .ok (.iastore, 1)) ∧ (decode cX11_volumeBy 20 = .ok (.return_, 1)) := by decide +kernel
theorem dX11_volumeBy_0 : decode cX11_volumeBy 0 = .ok (.aload_n 0, 1) := dq_X11_volumeBy_0.1
theorem dX11_volumeBy_1 : decode cX11_volumeBy 1 = .ok (.getfield 59, 3) := dq_X11_volumeBy_0.2.1
theorem dX11_volumeBy_4 : decode cX11_volumeBy 4 = .ok (.iload_n 1, 1) := dq_X11_volumeBy_0.2.2.1
theorem dX11_volumeBy_5 : decode cX11_volumeBy 5 = .ok (.aload_n 0, 1) := dq_X11_volumeBy_0.2.2.2.1
theorem dX11_volumeBy_6 : decode cX11_volumeBy 6 = .ok (.getfield 59, 3) := dq_X11_volumeBy_0.2.2.2.2.1
theorem dX11_volumeBy_9 : decode cX11_volumeBy 9 = .ok (.iload_n 1, 1) := dq_X11_volumeBy_0.2.2.2.2.2.1
theorem dX11_volumeBy_10 : decode cX11_volumeBy 10 = .ok (.iaload, 1) := dq_X11_volumeBy_0.2.2.2.2.2.2.1
theorem dX11_volumeBy_11 : decode cX11_volumeBy 11 = .ok (.iload_n 2, 1) := dq_X11_volumeBy_0.2.2.2.2.2.2.2.1
theorem dX11_volumeBy_12 : decode cX11_volumeBy 12 = .ok (.iadd, 1) := dq_X11_volumeBy_0.2.2.2.2.2.2.2.2.1
theorem dX11_volumeBy_13 : decode cX11_volumeBy 13 = .ok (.iconst 0, 1) := dq_X11_volumeBy_0.2.2.2.2.2.2.2.2.2.1
theorem dX11_volumeBy_14 : decode cX11_volumeBy 14 = .ok (.bipush 64, 2) := dq_X11_volumeBy_0.2.2.2.2.2.2.2.2.2.2.1
theorem dX11_volumeBy_16 : decode cX11_volumeBy 16 = .ok (.invokestatic 263, 3) := dq_X11_volumeBy_0.2.2.2.2.2.2.2.2.2.2.2.1
theorem dX11_volumeBy_19 : decode cX11_volumeBy 19 = .ok (.iastore, 1) := dq_X11_volumeBy_0.2.2.2.2.2.2.2.2.2.2.2.2.1
theorem dX11_volumeBy_20 : decode cX11_volumeBy 20 = .ok (.return_, 1) := dq_X11_volumeBy_0.2.2.2.2.2.2.2.2.2.2.2.2.2
theorem dq_X11_replaced_0 : (decode cX11_replaced 0 = .ok (.iload_n 1, 1)) ∧ (decode cX11_replaced 1 = .ok (.invokestatic 260, 3)) ∧ (decode cX11_replaced 4 = .ok (.ifCond .eq 11, 3)) ∧ (decode cX11_replaced 7 = .ok (.iload_n 1, 1)) ∧ (decode cX11_replaced 8 = .ok (.sipush 240, 3)) ∧ (decode cX11_replaced 11 = .ok (.iand, 1)) ∧ (decode cX11_replaced 12 = .ok (.goto 8, 3)) ∧ (decode cX11_replaced 15 = .ok (.iload_n 0, 1)) ∧ (decode cX11_replaced 16 = .ok (.sipush 240, 3)) ∧ (decode cX11_replaced 19 = .ok (.iand, 1)) ∧ (decode cX11_replaced 20 = .ok (.iload_n 1, 1)) ∧ (decode cX11_replaced 21 = .ok (.invokestatic 272, 3)) ∧ (decode cX11_replaced 24 = .ok (.ifCond .eq 10, 3)) ∧ (decode cX11_replaced 27 = .ok (.iload_n 1, 1)) ∧ (decode cX11_replaced 28 = .ok (.invokestatic 272, 3)) ∧ (decode cX11_replaced 31 = .ok (.goto 7, 3)) := by decide +kernel
theorem dX11_replaced_0 : decode cX11_replaced 0 = .ok (.iload_n 1, 1) := dq_X11_replaced_0.1
theorem dX11_replaced_1 : decode cX11_replaced 1 = .ok (.invokestatic 260, 3) := dq_X11_replaced_0.2.1
theorem dX11_replaced_4 : decode cX11_replaced 4 = .ok (.ifCond .eq 11, 3) := dq_X11_replaced_0.2.2.1
theorem dX11_replaced_7 : decode cX11_replaced 7 = .ok (.iload_n 1, 1) := dq_X11_replaced_0.2.2.2.1
theorem dX11_replaced_8 : decode cX11_replaced 8 = .ok (.sipush 240, 3) := dq_X11_replaced_0.2.2.2.2.1
theorem dX11_replaced_11 : decode cX11_replaced 11 = .ok (.iand, 1) := dq_X11_replaced_0.2.2.2.2.2.1
theorem dX11_replaced_12 : decode cX11_replaced 12 = .ok (.goto 8, 3) := dq_X11_replaced_0.2.2.2.2.2.2.1
theorem dX11_replaced_15 : decode cX11_replaced 15 = .ok (.iload_n 0, 1) := dq_X11_replaced_0.2.2.2.2.2.2.2.1
theorem dX11_replaced_16 : decode cX11_replaced 16 = .ok (.sipush 240, 3) := dq_X11_replaced_0.2.2.2.2.2.2.2.2.1
theorem dX11_replaced_19 : decode cX11_replaced 19 = .ok (.iand, 1) := dq_X11_replaced_0.2.2.2.2.2.2.2.2.2.1
theorem dX11_replaced_20 : decode cX11_replaced 20 = .ok (.iload_n 1, 1) := dq_X11_replaced_0.2.2.2.2.2.2.2.2.2.2.1
theorem dX11_replaced_21 : decode cX11_replaced 21 = .ok (.invokestatic 272, 3) := dq_X11_replaced_0.2.2.2.2.2.2.2.2.2.2.2.1
theorem dX11_replaced_24 : decode cX11_replaced 24 = .ok (.ifCond .eq 10, 3) := dq_X11_replaced_0.2.2.2.2.2.2.2.2.2.2.2.2.1
theorem dX11_replaced_27 : decode cX11_replaced 27 = .ok (.iload_n 1, 1) := dq_X11_replaced_0.2.2.2.2.2.2.2.2.2.2.2.2.2.1
theorem dX11_replaced_28 : decode cX11_replaced 28 = .ok (.invokestatic 272, 3) := dq_X11_replaced_0.2.2.2.2.2.2.2.2.2.2.2.2.2.2.1
theorem dX11_replaced_31 : decode cX11_replaced 31 = .ok (.goto 7, 3) := dq_X11_replaced_0.2.2.2.2.2.2.2.2.2.2.2.2.2.2.2
theorem dq_X11_replaced_34 : (decode cX11_replaced 34 = .ok (.iload_n 0, 1)) ∧ (decode cX11_replaced 35 = .ok (.invokestatic 272, 3)) ∧ (decode cX11_replaced 38 = .ok (.ior, 1)) ∧ (decode cX11_replaced 39 = .ok (.ireturn, 1)) := by decide +kernel
theorem dX11_replaced_34 : decode cX11_replaced 34 = .ok (.iload_n 0, 1) := dq_X11_replaced_34.1
theorem dX11_replaced_35 : decode cX11_replaced 35 = .ok (.invokestatic 272, 3) := dq_X11_replaced_34.2.1
theorem dX11_replaced_38 : decode cX11_replaced 38 = .ok (.ior, 1) := dq_X11_replaced_34.2.2.1
theorem dX11_replaced_39 : decode cX11_replaced 39 = .ok (.ireturn, 1) := dq_X11_replaced_34.2.2.2
theorem dq_X11_acts_0 : (decode cX11_acts 0 = .ok (.aload_n 0, 1)) ∧ (decode cX11_acts 1 = .ok (.getfield 104, 3)) ∧ (decode cX11_acts 4 = .ok (.iload_n 1, 1)) ∧ (decode cX11_acts 5 = .ok (.iaload, 1)) ∧ (decode cX11_acts 6 = .ok (.istore_n 2, 1)) ∧ (decode cX11_acts 7 = .ok (.iload_n 2, 1)) ∧ (decode cX11_acts 8 = .ok (.bipush 13, 2)) ∧ (decode cX11_acts 10 = .ok (.invokestatic 275, 3)) ∧ (decode cX11_acts 13 = .ok (.ifCond .eq 14, 3)) ∧ (decode cX11_acts 16 = .ok (.iload_n 2, 1)) ∧ (decode cX11_acts 17 = .ok (.invokestatic 272, 3)) ∧ (decode cX11_acts 20 = .ok (.ifCond .le 7, 3)) ∧ (decode cX11_acts 23 = .ok (.iconst 1, 1)) ∧ (decode cX11_acts 24 = .ok (.goto 4, 3)) ∧ (decode cX11_acts 27 = .ok (.iconst 0, 1)) ∧ (decode cX11_acts 28 = .ok (.istore_n 3, 1)) := by decide +kernel
theorem dX11_acts_0 : decode cX11_acts 0 = .ok (.aload_n 0, 1) := dq_X11_acts_0.1
theorem dX11_acts_1 : decode cX11_acts 1 = .ok (.getfield 104, 3) := dq_X11_acts_0.2.1
theorem dX11_acts_4 : decode cX11_acts 4 = .ok (.iload_n 1, 1) := dq_X11_acts_0.2.2.1
theorem dX11_acts_5 : decode cX11_acts 5 = .ok (.iaload, 1) := dq_X11_acts_0.2.2.2.1
theorem dX11_acts_6 : decode cX11_acts 6 = .ok (.istore_n 2, 1) := dq_X11_acts_0.2.2.2.2.1
theorem dX11_acts_7 : decode cX11_acts 7 = .ok (.iload_n 2, 1) := dq_X11_acts_0.2.2.2.2.2.1
theorem dX11_acts_8 : decode cX11_acts 8 = .ok (.bipush 13, 2) := dq_X11_acts_0.2.2.2.2.2.2.1
theorem dX11_acts_10 : decode cX11_acts 10 = .ok (.invokestatic 275, 3) := dq_X11_acts_0.2.2.2.2.2.2.2.1
theorem dX11_acts_13 : decode cX11_acts 13 = .ok (.ifCond .eq 14, 3) := dq_X11_acts_0.2.2.2.2.2.2.2.2.1
theorem dX11_acts_16 : decode cX11_acts 16 = .ok (.iload_n 2, 1) := dq_X11_acts_0.2.2.2.2.2.2.2.2.2.1
theorem dX11_acts_17 : decode cX11_acts 17 = .ok (.invokestatic 272, 3) := dq_X11_acts_0.2.2.2.2.2.2.2.2.2.2.1
theorem dX11_acts_20 : decode cX11_acts 20 = .ok (.ifCond .le 7, 3) := dq_X11_acts_0.2.2.2.2.2.2.2.2.2.2.2.1
theorem dX11_acts_23 : decode cX11_acts 23 = .ok (.iconst 1, 1) := dq_X11_acts_0.2.2.2.2.2.2.2.2.2.2.2.2.1
theorem dX11_acts_24 : decode cX11_acts 24 = .ok (.goto 4, 3) := dq_X11_acts_0.2.2.2.2.2.2.2.2.2.2.2.2.2.1
theorem dX11_acts_27 : decode cX11_acts 27 = .ok (.iconst 0, 1) := dq_X11_acts_0.2.2.2.2.2.2.2.2.2.2.2.2.2.2.1
theorem dX11_acts_28 : decode cX11_acts 28 = .ok (.istore_n 3, 1) := dq_X11_acts_0.2.2.2.2.2.2.2.2.2.2.2.2.2.2.2
theorem dq_X11_acts_29 : (decode cX11_acts 29 = .ok (.aload_n 0, 1)) ∧ (decode cX11_acts 30 = .ok (.getfield 209, 3)) ∧ (decode cX11_acts 33 = .ok (.iload_n 3, 1)) ∧ (decode cX11_acts 34 = .ok (.ifCond .eq 10, 3)) ∧ (decode cX11_acts 37 = .ok (.iload_n 2, 1)) ∧ (decode cX11_acts 38 = .ok (.invokestatic 272, 3)) ∧ (decode cX11_acts 41 = .ok (.goto 4, 3)) ∧ (decode cX11_acts 44 = .ok (.iconst 0, 1)) ∧ (decode cX11_acts 45 = .ok (.if_icmp .ne 8, 3)) ∧ (decode cX11_acts 48 = .ok (.aload_n 0, 1)) ∧ (decode cX11_acts 49 = .ok (.iload_n 1, 1)) ∧ (decode cX11_acts 50 = .ok (.invokevirtual 279, 3)) ∧ (decode cX11_acts 53 = .ok (.aload_n 0, 1)) ∧ (decode cX11_acts 54 = .ok (.getfield 209, 3)) ∧ (decode cX11_acts 57 = .ok (.ifCond .ne 12, 3)) ∧ (decode cX11_acts 60 = .ok (.aload_n 0, 1)) := by decide +kernel
theorem dX11_acts_29 : decode cX11_acts 29 = .ok (.aload_n 0, 1) := dq_X11_acts_29.1
theorem dX11_acts_30 : decode cX11_acts 30 = .ok (.getfield 209, 3) := dq_X11_acts_29.2.1
theorem dX11_acts_33 : decode cX11_acts 33 = .ok (.iload_n 3, 1) := dq_X11_acts_29.2.2.1
theorem dX11_acts_34 : decode cX11_acts 34 = .ok (.ifCond .eq 10, 3) := dq_X11_acts_29.2.2.2.1
theorem dX11_acts_37 : decode cX11_acts 37 = .ok (.iload_n 2, 1) := dq_X11_acts_29.2.2.2.2.1
theorem dX11_acts_38 : decode cX11_acts 38 = .ok (.invokestatic 272, 3) := dq_X11_acts_29.2.2.2.2.2.1
theorem dX11_acts_41 : decode cX11_acts 41 = .ok (.goto 4, 3) := dq_X11_acts_29.2.2.2.2.2.2.1
theorem dX11_acts_44 : decode cX11_acts 44 = .ok (.iconst 0, 1) := dq_X11_acts_29.2.2.2.2.2.2.2.1
theorem dX11_acts_45 : decode cX11_acts 45 = .ok (.if_icmp .ne 8, 3) := dq_X11_acts_29.2.2.2.2.2.2.2.2.1
theorem dX11_acts_48 : decode cX11_acts 48 = .ok (.aload_n 0, 1) := dq_X11_acts_29.2.2.2.2.2.2.2.2.2.1
theorem dX11_acts_49 : decode cX11_acts 49 = .ok (.iload_n 1, 1) := dq_X11_acts_29.2.2.2.2.2.2.2.2.2.2.1
theorem dX11_acts_50 : decode cX11_acts 50 = .ok (.invokevirtual 279, 3) := dq_X11_acts_29.2.2.2.2.2.2.2.2.2.2.2.1
theorem dX11_acts_53 : decode cX11_acts 53 = .ok (.aload_n 0, 1) := dq_X11_acts_29.2.2.2.2.2.2.2.2.2.2.2.2.1
theorem dX11_acts_54 : decode cX11_acts 54 = .ok (.getfield 209, 3) := dq_X11_acts_29.2.2.2.2.2.2.2.2.2.2.2.2.2.1
theorem dX11_acts_57 : decode cX11_acts 57 = .ok (.ifCond .ne 12, 3) := dq_X11_acts_29.2.2.2.2.2.2.2.2.2.2.2.2.2.2.1
theorem dX11_acts_60 : decode cX11_acts 60 = .ok (.aload_n 0, 1) := dq_X11_acts_29.2.2.2.2.2.2.2.2.2.2.2.2.2.2.2
theorem dq_X11_acts_61 : (decode cX11_acts 61 = .ok (.iload_n 1, 1)) ∧ (decode cX11_acts 62 = .ok (.iload_n 2, 1)) ∧ (decode cX11_acts 63 = .ok (.invokevirtual 282, 3)) ∧ (decode cX11_acts 66 = .ok (.goto 9, 3)) ∧ (decode cX11_acts 69 = .ok (.aload_n 0, 1)) ∧ (decode cX11_acts 70 = .ok (.iload_n 1, 1)) ∧ (decode cX11_acts 71 = .ok (.iload_n 2, 1)) ∧ (decode cX11_acts 72 = .ok (.invokevirtual 286, 3)) ∧ (decode cX11_acts 75 = .ok (.iload_n 2, 1)) ∧ (decode cX11_acts 76 = .ok (.bipush 9, 2)) ∧ (decode cX11_acts 78 = .ok (.invokestatic 275, 3)) ∧ (decode cX11_acts 81 = .ok (.ifCond .eq 41, 3)) ∧ (decode cX11_acts 84 = .ok (.iload_n 2, 1)) ∧ (decode cX11_acts 85 = .ok (.invokestatic 272, 3)) ∧ (decode cX11_acts 88 = .ok (.ifCond .eq 34, 3)) ∧ (decode cX11_acts 91 = .ok (.aload_n 0, 1)) := by decide +kernel
theorem dX11_acts_61 : decode cX11_acts 61 = .ok (.iload_n 1, 1) := dq_X11_acts_61.1
theorem dX11_acts_62 : decode cX11_acts 62 = .ok (.iload_n 2, 1) := dq_X11_acts_61.2.1
theorem dX11_acts_63 : decode cX11_acts 63 = .ok (.invokevirtual 282, 3) := dq_X11_acts_61.2.2.1
theorem dX11_acts_66 : decode cX11_acts 66 = .ok (.goto 9, 3) := dq_X11_acts_61.2.2.2.1
theorem dX11_acts_69 : decode cX11_acts 69 = .ok (.aload_n 0, 1) := dq_X11_acts_61.2.2.2.2.1
theorem dX11_acts_70 : decode cX11_acts 70 = .ok (.iload_n 1, 1) := dq_X11_acts_61.2.2.2.2.2.1
theorem dX11_acts_71 : decode cX11_acts 71 = .ok (.iload_n 2, 1) := dq_X11_acts_61.2.2.2.2.2.2.1
theorem dX11_acts_72 : decode cX11_acts 72 = .ok (.invokevirtual 286, 3) := dq_X11_acts_61.2.2.2.2.2.2.2.1
theorem dX11_acts_75 : decode cX11_acts 75 = .ok (.iload_n 2, 1) := dq_X11_acts_61.2.2.2.2.2.2.2.2.1
theorem dX11_acts_76 : decode cX11_acts 76 = .ok (.bipush 9, 2) := dq_X11_acts_61.2.2.2.2.2.2.2.2.2.1
theorem dX11_acts_78 : decode cX11_acts 78 = .ok (.invokestatic 275, 3) := dq_X11_acts_61.2.2.2.2.2.2.2.2.2.2.1
theorem dX11_acts_81 : decode cX11_acts 81 = .ok (.ifCond .eq 41, 3) := dq_X11_acts_61.2.2.2.2.2.2.2.2.2.2.2.1
theorem dX11_acts_84 : decode cX11_acts 84 = .ok (.iload_n 2, 1) := dq_X11_acts_61.2.2.2.2.2.2.2.2.2.2.2.2.1
theorem dX11_acts_85 : decode cX11_acts 85 = .ok (.invokestatic 272, 3) := dq_X11_acts_61.2.2.2.2.2.2.2.2.2.2.2.2.2.1
theorem dX11_acts_88 : decode cX11_acts 88 = .ok (.ifCond .eq 34, 3) := dq_X11_acts_61.2.2.2.2.2.2.2.2.2.2.2.2.2.2.1
theorem dX11_acts_91 : decode cX11_acts 91 = .ok (.aload_n 0, 1) := dq_X11_acts_61.2.2.2.2.2.2.2.2.2.2.2.2.2.2.2
theorem dq_X11_acts_92 : (decode cX11_acts 92 = .ok (.getfield 209, 3)) ∧ (decode cX11_acts 95 = .ok (.iload_n 2, 1)) ∧ (decode cX11_acts 96 = .ok (.invokestatic 272, 3)) ∧ (decode cX11_acts 99 = .ok (.irem, 1)) ∧ (decode cX11_acts 100 = .ok (.ifCond .ne 22, 3)) ∧ (decode cX11_acts 103 = .ok (.aload_n 0, 1)) ∧ (decode cX11_acts 104 = .ok (.getfield 209, 3)) ∧ (decode cX11_acts 107 = .ok (.ifCond .gt 10, 3)) ∧ (decode cX11_acts 110 = .ok (.iload_n 2, 1)) ∧ (decode cX11_acts 111 = .ok (.bipush 17, 2)) ∧ (decode cX11_acts 113 = .ok (.ishr, 1)) ∧ (decode cX11_acts 114 = .ok (.ifCond .ne 8, 3)) ∧ (decode cX11_acts 117 = .ok (.aload_n 0, 1)) ∧ (decode cX11_acts 118 = .ok (.iload_n 1, 1)) ∧ (decode cX11_acts 119 = .ok (.invokevirtual 269, 3)) ∧ (decode cX11_acts 122 = .ok (.iload_n 2, 1)) := by decide +kernel
theorem dX11_acts_92 : decode cX11_acts 92 = .ok (.getfield 209, 3) := dq_X11_acts_92.1
theorem dX11_acts_95 : decode cX11_acts 95 = .ok (.iload_n 2, 1) := dq_X11_acts_92.2.1
theorem dX11_acts_96 : decode cX11_acts 96 = .ok (.invokestatic 272, 3) := dq_X11_acts_92.2.2.1
theorem dX11_acts_99 : decode cX11_acts 99 = .ok (.irem, 1) := dq_X11_acts_92.2.2.2.1
theorem dX11_acts_100 : decode cX11_acts 100 = .ok (.ifCond .ne 22, 3) := dq_X11_acts_92.2.2.2.2.1
theorem dX11_acts_103 : decode cX11_acts 103 = .ok (.aload_n 0, 1) := dq_X11_acts_92.2.2.2.2.2.1
theorem dX11_acts_104 : decode cX11_acts 104 = .ok (.getfield 209, 3) := dq_X11_acts_92.2.2.2.2.2.2.1
theorem dX11_acts_107 : decode cX11_acts 107 = .ok (.ifCond .gt 10, 3) := dq_X11_acts_92.2.2.2.2.2.2.2.1
theorem dX11_acts_110 : decode cX11_acts 110 = .ok (.iload_n 2, 1) := dq_X11_acts_92.2.2.2.2.2.2.2.2.1
theorem dX11_acts_111 : decode cX11_acts 111 = .ok (.bipush 17, 2) := dq_X11_acts_92.2.2.2.2.2.2.2.2.2.1
theorem dX11_acts_113 : decode cX11_acts 113 = .ok (.ishr, 1) := dq_X11_acts_92.2.2.2.2.2.2.2.2.2.2.1
theorem dX11_acts_114 : decode cX11_acts 114 = .ok (.ifCond .ne 8, 3) := dq_X11_acts_92.2.2.2.2.2.2.2.2.2.2.2.1
theorem dX11_acts_117 : decode cX11_acts 117 = .ok (.aload_n 0, 1) := dq_X11_acts_92.2.2.2.2.2.2.2.2.2.2.2.2.1
theorem dX11_acts_118 : decode cX11_acts 118 = .ok (.iload_n 1, 1) := dq_X11_acts_92.2.2.2.2.2.2.2.2.2.2.2.2.2.1
theorem dX11_acts_119 : decode cX11_acts 119 = .ok (.invokevirtual 269, 3) := dq_X11_acts_92.2.2.2.2.2.2.2.2.2.2.2.2.2.2.1
theorem dX11_acts_122 : decode cX11_acts 122 = .ok (.iload_n 2, 1) := dq_X11_acts_92.2.2.2.2.2.2.2.2.2.2.2.2.2.2.2
theorem dq_X11_acts_123 : (decode cX11_acts 123 = .ok (.bipush 12, 2)) ∧ (decode cX11_acts 125 = .ok (.invokestatic 275, 3)) ∧ (decode cX11_acts 128 = .ok (.ifCond .eq 21, 3)) ∧ (decode cX11_acts 131 = .ok (.aload_n 0, 1)) ∧ (decode cX11_acts 132 = .ok (.getfield 209, 3)) ∧ (decode cX11_acts 135 = .ok (.iload_n 2, 1)) ∧ (decode cX11_acts 136 = .ok (.invokestatic 272, 3)) ∧ (decode cX11_acts 139 = .ok (.if_icmp .ne 10, 3)) ∧ (decode cX11_acts 142 = .ok (.aload_n 0, 1)) ∧ (decode cX11_acts 143 = .ok (.getfield 59, 3)) ∧ (decode cX11_acts 146 = .ok (.iload_n 1, 1)) ∧ (decode cX11_acts 147 = .ok (.iconst 0, 1)) ∧ (decode cX11_acts 148 = .ok (.iastore, 1)) ∧ (decode cX11_acts 149 = .ok (.aload_n 0, 1)) ∧ (decode cX11_acts 150 = .ok (.iload_n 1, 1)) ∧ (decode cX11_acts 151 = .ok (.iload_n 2, 1)) := by decide +kernel
theorem dX11_acts_123 : decode cX11_acts 123 = .ok (.bipush 12, 2) := dq_X11_acts_123.1
theorem dX11_acts_125 : decode cX11_acts 125 = .ok (.invokestatic 275, 3) := dq_X11_acts_123.2.1
theorem dX11_acts_128 : decode cX11_acts 128 = .ok (.ifCond .eq 21, 3) := dq_X11_acts_123.2.2.1
theorem dX11_acts_131 : decode cX11_acts 131 = .ok (.aload_n 0, 1) := dq_X11_acts_123.2.2.2.1
theorem dX11_acts_132 : decode cX11_acts 132 = .ok (.getfield 209, 3) := dq_X11_acts_123.2.2.2.2.1
theorem dX11_acts_135 : decode cX11_acts 135 = .ok (.iload_n 2, 1) := dq_X11_acts_123.2.2.2.2.2.1
theorem dX11_acts_136 : decode cX11_acts 136 = .ok (.invokestatic 272, 3) := dq_X11_acts_123.2.2.2.2.2.2.1
theorem dX11_acts_139 : decode cX11_acts 139 = .ok (.if_icmp .ne 10, 3) := dq_X11_acts_123.2.2.2.2.2.2.2.1
theorem dX11_acts_142 : decode cX11_acts 142 = .ok (.aload_n 0, 1) := dq_X11_acts_123.2.2.2.2.2.2.2.2.1
theorem dX11_acts_143 : decode cX11_acts 143 = .ok (.getfield 59, 3) := dq_X11_acts_123.2.2.2.2.2.2.2.2.2.1
theorem dX11_acts_146 : decode cX11_acts 146 = .ok (.iload_n 1, 1) := dq_X11_acts_123.2.2.2.2.2.2.2.2.2.2.1
theorem dX11_acts_147 : decode cX11_acts 147 = .ok (.iconst 0, 1) := dq_X11_acts_123.2.2.2.2.2.2.2.2.2.2.2.1
theorem dX11_acts_148 : decode cX11_acts 148 = .ok (.iastore, 1) := dq_X11_acts_123.2.2.2.2.2.2.2.2.2.2.2.2.1
theorem dX11_acts_149 : decode cX11_acts 149 = .ok (.aload_n 0, 1) := dq_X11_acts_123.2.2.2.2.2.2.2.2.2.2.2.2.2.1
theorem dX11_acts_150 : decode cX11_acts 150 = .ok (.iload_n 1, 1) := dq_X11_acts_123.2.2.2.2.2.2.2.2.2.2.2.2.2.2.1
theorem dX11_acts_151 : decode cX11_acts 151 = .ok (.iload_n 2, 1) := dq_X11_acts_123.2.2.2.2.2.2.2.2.2.2.2.2.2.2.2
theorem dq_X11_acts_152 : (decode cX11_acts 152 = .ok (.invokevirtual 289, 3)) ∧ (decode cX11_acts 155 = .ok (.return_, 1)) := by decide +kernel
theorem dX11_acts_152 : decode cX11_acts 152 = .ok (.invokevirtual 289, 3) := dq_X11_acts_152.1
theorem dX11_acts_155 : decode cX11_acts 155 = .ok (.return_, 1) := dq_X11_acts_152.2
theorem dq_X11_first_0 : (decode cX11_first 0 = .ok (.iload_n 2, 1)) ∧ (decode cX11_first 1 = .ok (.sipush 255, 3)) ∧ (decode cX11_first 4 = .ok (.iand, 1)) ∧ (decode cX11_first 5 = .ok (.istore_n 3, 1)) ∧ (decode cX11_first 6 = .ok (.iload_n 2, 1)) ∧ (decode cX11_first 7 = .ok (.invokestatic 257, 3)) ∧ (decode cX11_first 10 = .ok (.tableswitch 292 3 15 #[66, 80, 292, 292, 99, 292, 118, 292, 187, 195, 210, 250, 266], 66)) ∧ (decode cX11_first 76 = .ok (.iload_n 3, 1)) ∧ (decode cX11_first 77 = .ok (.ifCond .eq 225, 3)) ∧ (decode cX11_first 80 = .ok (.aload_n 0, 1)) ∧ (decode cX11_first 81 = .ok (.getfield 74, 3)) ∧ (decode cX11_first 84 = .ok (.iload_n 1, 1)) ∧ (decode cX11_first 85 = .ok (.iload_n 3, 1)) ∧ (decode cX11_first 86 = .ok (.iastore, 1)) ∧ (decode cX11_first 87 = .ok (.goto 215, 3)) ∧ (decode cX11_first 90 = .ok (.aload_n 0, 1)) := by decide +kernel
theorem dX11_first_0 : decode cX11_first 0 = .ok (.iload_n 2, 1) := dq_X11_first_0.1
theorem dX11_first_1 : decode cX11_first 1 = .ok (.sipush 255, 3) := dq_X11_first_0.2.1
theorem dX11_first_4 : decode cX11_first 4 = .ok (.iand, 1) := dq_X11_first_0.2.2.1
theorem dX11_first_5 : decode cX11_first 5 = .ok (.istore_n 3, 1) := dq_X11_first_0.2.2.2.1
theorem dX11_first_6 : decode cX11_first 6 = .ok (.iload_n 2, 1) := dq_X11_first_0.2.2.2.2.1
theorem dX11_first_7 : decode cX11_first 7 = .ok (.invokestatic 257, 3) := dq_X11_first_0.2.2.2.2.2.1
theorem dX11_first_10 : decode cX11_first 10 = .ok (.tableswitch 292 3 15 #[66, 80, 292, 292, 99, 292, 118, 292, 187, 195, 210, 250, 266], 66) := dq_X11_first_0.2.2.2.2.2.2.1
theorem dX11_first_76 : decode cX11_first 76 = .ok (.iload_n 3, 1) := dq_X11_first_0.2.2.2.2.2.2.2.1
theorem dX11_first_77 : decode cX11_first 77 = .ok (.ifCond .eq 225, 3) := dq_X11_first_0.2.2.2.2.2.2.2.2.1
theorem dX11_first_80 : decode cX11_first 80 = .ok (.aload_n 0, 1) := dq_X11_first_0.2.2.2.2.2.2.2.2.2.1
theorem dX11_first_81 : decode cX11_first 81 = .ok (.getfield 74, 3) := dq_X11_first_0.2.2.2.2.2.2.2.2.2.2.1
theorem dX11_first_84 : decode cX11_first 84 = .ok (.iload_n 1, 1) := dq_X11_first_0.2.2.2.2.2.2.2.2.2.2.2.1
theorem dX11_first_85 : decode cX11_first 85 = .ok (.iload_n 3, 1) := dq_X11_first_0.2.2.2.2.2.2.2.2.2.2.2.2.1
theorem dX11_first_86 : decode cX11_first 86 = .ok (.iastore, 1) := dq_X11_first_0.2.2.2.2.2.2.2.2.2.2.2.2.2.1
theorem dX11_first_87 : decode cX11_first 87 = .ok (.goto 215, 3) := dq_X11_first_0.2.2.2.2.2.2.2.2.2.2.2.2.2.2.1
theorem dX11_first_90 : decode cX11_first 90 = .ok (.aload_n 0, 1) := dq_X11_first_0.2.2.2.2.2.2.2.2.2.2.2.2.2.2.2
theorem dq_X11_first_91 : (decode cX11_first 91 = .ok (.getfield 77, 3)) ∧ (decode cX11_first 94 = .ok (.iload_n 1, 1)) ∧ (decode cX11_first 95 = .ok (.aload_n 0, 1)) ∧ (decode cX11_first 96 = .ok (.getfield 77, 3)) ∧ (decode cX11_first 99 = .ok (.iload_n 1, 1)) ∧ (decode cX11_first 100 = .ok (.iaload, 1)) ∧ (decode cX11_first 101 = .ok (.iload_n 3, 1)) ∧ (decode cX11_first 102 = .ok (.invokestatic 292, 3)) ∧ (decode cX11_first 105 = .ok (.iastore, 1)) ∧ (decode cX11_first 106 = .ok (.goto 196, 3)) ∧ (decode cX11_first 109 = .ok (.aload_n 0, 1)) ∧ (decode cX11_first 110 = .ok (.getfield 86, 3)) ∧ (decode cX11_first 113 = .ok (.iload_n 1, 1)) ∧ (decode cX11_first 114 = .ok (.aload_n 0, 1)) ∧ (decode cX11_first 115 = .ok (.getfield 86, 3)) ∧ (decode cX11_first 118 = .ok (.iload_n 1, 1)) := by decide +kernel
theorem dX11_first_91 : decode cX11_first 91 = .ok (.getfield 77, 3) := dq_X11_first_91.1
theorem dX11_first_94 : decode cX11_first 94 = .ok (.iload_n 1, 1) := dq_X11_first_91.2.1
theorem dX11_first_95 : decode cX11_first 95 = .ok (.aload_n 0, 1) := dq_X11_first_91.2.2.1
theorem dX11_first_96 : decode cX11_first 96 = .ok (.getfield 77, 3) := dq_X11_first_91.2.2.2.1
theorem dX11_first_99 : decode cX11_first 99 = .ok (.iload_n 1, 1) := dq_X11_first_91.2.2.2.2.1
theorem dX11_first_100 : decode cX11_first 100 = .ok (.iaload, 1) := dq_X11_first_91.2.2.2.2.2.1
theorem dX11_first_101 : decode cX11_first 101 = .ok (.iload_n 3, 1) := dq_X11_first_91.2.2.2.2.2.2.1
theorem dX11_first_102 : decode cX11_first 102 = .ok (.invokestatic 292, 3) := dq_X11_first_91.2.2.2.2.2.2.2.1
theorem dX11_first_105 : decode cX11_first 105 = .ok (.iastore, 1) := dq_X11_first_91.2.2.2.2.2.2.2.2.1
theorem dX11_first_106 : decode cX11_first 106 = .ok (.goto 196, 3) := dq_X11_first_91.2.2.2.2.2.2.2.2.2.1
theorem dX11_first_109 : decode cX11_first 109 = .ok (.aload_n 0, 1) := dq_X11_first_91.2.2.2.2.2.2.2.2.2.2.1
theorem dX11_first_110 : decode cX11_first 110 = .ok (.getfield 86, 3) := dq_X11_first_91.2.2.2.2.2.2.2.2.2.2.2.1
theorem dX11_first_113 : decode cX11_first 113 = .ok (.iload_n 1, 1) := dq_X11_first_91.2.2.2.2.2.2.2.2.2.2.2.2.1
theorem dX11_first_114 : decode cX11_first 114 = .ok (.aload_n 0, 1) := dq_X11_first_91.2.2.2.2.2.2.2.2.2.2.2.2.2.1
theorem dX11_first_115 : decode cX11_first 115 = .ok (.getfield 86, 3) := dq_X11_first_91.2.2.2.2.2.2.2.2.2.2.2.2.2.2.1
theorem dX11_first_118 : decode cX11_first 118 = .ok (.iload_n 1, 1) := dq_X11_first_91.2.2.2.2.2.2.2.2.2.2.2.2.2.2.2
theorem dq_X11_first_119 : (decode cX11_first 119 = .ok (.iaload, 1)) ∧ (decode cX11_first 120 = .ok (.iload_n 3, 1)) ∧ (decode cX11_first 121 = .ok (.invokestatic 292, 3)) ∧ (decode cX11_first 124 = .ok (.iastore, 1)) ∧ (decode cX11_first 125 = .ok (.goto 177, 3)) ∧ (decode cX11_first 128 = .ok (.iload_n 3, 1)) ∧ (decode cX11_first 129 = .ok (.ifCond .eq 10, 3)) ∧ (decode cX11_first 132 = .ok (.aload_n 0, 1)) ∧ (decode cX11_first 133 = .ok (.getfield 95, 3)) ∧ (decode cX11_first 136 = .ok (.iload_n 1, 1)) ∧ (decode cX11_first 137 = .ok (.iload_n 3, 1)) ∧ (decode cX11_first 138 = .ok (.iastore, 1)) ∧ (decode cX11_first 139 = .ok (.iload_n 2, 1)) ∧ (decode cX11_first 140 = .ok (.bipush 17, 2)) ∧ (decode cX11_first 142 = .ok (.ishr, 1)) ∧ (decode cX11_first 143 = .ok (.ifCond .eq 159, 3)) := by decide +kernel
theorem dX11_first_119 : decode cX11_first 119 = .ok (.iaload, 1) := dq_X11_first_119.1
theorem dX11_first_120 : decode cX11_first 120 = .ok (.iload_n 3, 1) := dq_X11_first_119.2.1
theorem dX11_first_121 : decode cX11_first 121 = .ok (.invokestatic 292, 3) := dq_X11_first_119.2.2.1
theorem dX11_first_124 : decode cX11_first 124 = .ok (.iastore, 1) := dq_X11_first_119.2.2.2.1
theorem dX11_first_125 : decode cX11_first 125 = .ok (.goto 177, 3) := dq_X11_first_119.2.2.2.2.1
theorem dX11_first_128 : decode cX11_first 128 = .ok (.iload_n 3, 1) := dq_X11_first_119.2.2.2.2.2.1
theorem dX11_first_129 : decode cX11_first 129 = .ok (.ifCond .eq 10, 3) := dq_X11_first_119.2.2.2.2.2.2.1
theorem dX11_first_132 : decode cX11_first 132 = .ok (.aload_n 0, 1) := dq_X11_first_119.2.2.2.2.2.2.2.1
theorem dX11_first_133 : decode cX11_first 133 = .ok (.getfield 95, 3) := dq_X11_first_119.2.2.2.2.2.2.2.2.1
theorem dX11_first_136 : decode cX11_first 136 = .ok (.iload_n 1, 1) := dq_X11_first_119.2.2.2.2.2.2.2.2.2.1
theorem dX11_first_137 : decode cX11_first 137 = .ok (.iload_n 3, 1) := dq_X11_first_119.2.2.2.2.2.2.2.2.2.2.1
theorem dX11_first_138 : decode cX11_first 138 = .ok (.iastore, 1) := dq_X11_first_119.2.2.2.2.2.2.2.2.2.2.2.1
theorem dX11_first_139 : decode cX11_first 139 = .ok (.iload_n 2, 1) := dq_X11_first_119.2.2.2.2.2.2.2.2.2.2.2.2.1
theorem dX11_first_140 : decode cX11_first 140 = .ok (.bipush 17, 2) := dq_X11_first_119.2.2.2.2.2.2.2.2.2.2.2.2.2.1
theorem dX11_first_142 : decode cX11_first 142 = .ok (.ishr, 1) := dq_X11_first_119.2.2.2.2.2.2.2.2.2.2.2.2.2.2.1
theorem dX11_first_143 : decode cX11_first 143 = .ok (.ifCond .eq 159, 3) := dq_X11_first_119.2.2.2.2.2.2.2.2.2.2.2.2.2.2.2
theorem dq_X11_first_146 : (decode cX11_first 146 = .ok (.aload_n 0, 1)) ∧ (decode cX11_first 147 = .ok (.getfield 113, 3)) ∧ (decode cX11_first 150 = .ok (.iload_n 1, 1)) ∧ (decode cX11_first 151 = .ok (.ldc2_w 295, 3)) ∧ (decode cX11_first 154 = .ok (.aload_n 0, 1)) ∧ (decode cX11_first 155 = .ok (.getfield 95, 3)) ∧ (decode cX11_first 158 = .ok (.iload_n 1, 1)) ∧ (decode cX11_first 159 = .ok (.iaload, 1)) ∧ (decode cX11_first 160 = .ok (.i2l, 1)) ∧ (decode cX11_first 161 = .ok (.lmul, 1)) ∧ (decode cX11_first 162 = .ok (.lastore, 1)) ∧ (decode cX11_first 163 = .ok (.sipush 256, 3)) ∧ (decode cX11_first 166 = .ok (.aload_n 0, 1)) ∧ (decode cX11_first 167 = .ok (.getfield 95, 3)) ∧ (decode cX11_first 170 = .ok (.iload_n 1, 1)) ∧ (decode cX11_first 171 = .ok (.iaload, 1)) := by decide +kernel
theorem dX11_first_146 : decode cX11_first 146 = .ok (.aload_n 0, 1) := dq_X11_first_146.1
theorem dX11_first_147 : decode cX11_first 147 = .ok (.getfield 113, 3) := dq_X11_first_146.2.1
theorem dX11_first_150 : decode cX11_first 150 = .ok (.iload_n 1, 1) := dq_X11_first_146.2.2.1
theorem dX11_first_151 : decode cX11_first 151 = .ok (.ldc2_w 295, 3) := dq_X11_first_146.2.2.2.1
theorem dX11_first_154 : decode cX11_first 154 = .ok (.aload_n 0, 1) := dq_X11_first_146.2.2.2.2.1
theorem dX11_first_155 : decode cX11_first 155 = .ok (.getfield 95, 3) := dq_X11_first_146.2.2.2.2.2.1
theorem dX11_first_158 : decode cX11_first 158 = .ok (.iload_n 1, 1) := dq_X11_first_146.2.2.2.2.2.2.1
theorem dX11_first_159 : decode cX11_first 159 = .ok (.iaload, 1) := dq_X11_first_146.2.2.2.2.2.2.2.1
theorem dX11_first_160 : decode cX11_first 160 = .ok (.i2l, 1) := dq_X11_first_146.2.2.2.2.2.2.2.2.1
theorem dX11_first_161 : decode cX11_first 161 = .ok (.lmul, 1) := dq_X11_first_146.2.2.2.2.2.2.2.2.2.1
theorem dX11_first_162 : decode cX11_first 162 = .ok (.lastore, 1) := dq_X11_first_146.2.2.2.2.2.2.2.2.2.2.1
theorem dX11_first_163 : decode cX11_first 163 = .ok (.sipush 256, 3) := dq_X11_first_146.2.2.2.2.2.2.2.2.2.2.2.1
theorem dX11_first_166 : decode cX11_first 166 = .ok (.aload_n 0, 1) := dq_X11_first_146.2.2.2.2.2.2.2.2.2.2.2.2.1
theorem dX11_first_167 : decode cX11_first 167 = .ok (.getfield 95, 3) := dq_X11_first_146.2.2.2.2.2.2.2.2.2.2.2.2.2.1
theorem dX11_first_170 : decode cX11_first 170 = .ok (.iload_n 1, 1) := dq_X11_first_146.2.2.2.2.2.2.2.2.2.2.2.2.2.2.1
theorem dX11_first_171 : decode cX11_first 171 = .ok (.iaload, 1) := dq_X11_first_146.2.2.2.2.2.2.2.2.2.2.2.2.2.2.2
theorem dq_X11_first_172 : (decode cX11_first 172 = .ok (.imul, 1)) ∧ (decode cX11_first 173 = .ok (.aload_n 0, 1)) ∧ (decode cX11_first 174 = .ok (.getfield 17, 3)) ∧ (decode cX11_first 177 = .ok (.aload_n 0, 1)) ∧ (decode cX11_first 178 = .ok (.getfield 56, 3)) ∧ (decode cX11_first 181 = .ok (.iload_n 1, 1)) ∧ (decode cX11_first 182 = .ok (.iaload, 1)) ∧ (decode cX11_first 183 = .ok (.iaload, 1)) ∧ (decode cX11_first 184 = .ok (.if_icmp .lt 118, 3)) ∧ (decode cX11_first 187 = .ok (.aload_n 0, 1)) ∧ (decode cX11_first 188 = .ok (.getfield 117, 3)) ∧ (decode cX11_first 191 = .ok (.iload_n 1, 1)) ∧ (decode cX11_first 192 = .ok (.iconst 0, 1)) ∧ (decode cX11_first 193 = .ok (.bastore, 1)) ∧ (decode cX11_first 194 = .ok (.goto 108, 3)) ∧ (decode cX11_first 197 = .ok (.aload_n 0, 1)) := by decide +kernel
theorem dX11_first_172 : decode cX11_first 172 = .ok (.imul, 1) := dq_X11_first_172.1
theorem dX11_first_173 : decode cX11_first 173 = .ok (.aload_n 0, 1) := dq_X11_first_172.2.1
theorem dX11_first_174 : decode cX11_first 174 = .ok (.getfield 17, 3) := dq_X11_first_172.2.2.1
theorem dX11_first_177 : decode cX11_first 177 = .ok (.aload_n 0, 1) := dq_X11_first_172.2.2.2.1
theorem dX11_first_178 : decode cX11_first 178 = .ok (.getfield 56, 3) := dq_X11_first_172.2.2.2.2.1
theorem dX11_first_181 : decode cX11_first 181 = .ok (.iload_n 1, 1) := dq_X11_first_172.2.2.2.2.2.1
theorem dX11_first_182 : decode cX11_first 182 = .ok (.iaload, 1) := dq_X11_first_172.2.2.2.2.2.2.1
theorem dX11_first_183 : decode cX11_first 183 = .ok (.iaload, 1) := dq_X11_first_172.2.2.2.2.2.2.2.1
theorem dX11_first_184 : decode cX11_first 184 = .ok (.if_icmp .lt 118, 3) := dq_X11_first_172.2.2.2.2.2.2.2.2.1
theorem dX11_first_187 : decode cX11_first 187 = .ok (.aload_n 0, 1) := dq_X11_first_172.2.2.2.2.2.2.2.2.2.1
theorem dX11_first_188 : decode cX11_first 188 = .ok (.getfield 117, 3) := dq_X11_first_172.2.2.2.2.2.2.2.2.2.2.1
theorem dX11_first_191 : decode cX11_first 191 = .ok (.iload_n 1, 1) := dq_X11_first_172.2.2.2.2.2.2.2.2.2.2.2.1
theorem dX11_first_192 : decode cX11_first 192 = .ok (.iconst 0, 1) := dq_X11_first_172.2.2.2.2.2.2.2.2.2.2.2.2.1
theorem dX11_first_193 : decode cX11_first 193 = .ok (.bastore, 1) := dq_X11_first_172.2.2.2.2.2.2.2.2.2.2.2.2.2.1
theorem dX11_first_194 : decode cX11_first 194 = .ok (.goto 108, 3) := dq_X11_first_172.2.2.2.2.2.2.2.2.2.2.2.2.2.2.1
theorem dX11_first_197 : decode cX11_first 197 = .ok (.aload_n 0, 1) := dq_X11_first_172.2.2.2.2.2.2.2.2.2.2.2.2.2.2.2
theorem dq_X11_first_198 : (decode cX11_first 198 = .ok (.iload_n 3, 1)) ∧ (decode cX11_first 199 = .ok (.putfield 245, 3)) ∧ (decode cX11_first 202 = .ok (.goto 100, 3)) ∧ (decode cX11_first 205 = .ok (.aload_n 0, 1)) ∧ (decode cX11_first 206 = .ok (.getfield 59, 3)) ∧ (decode cX11_first 209 = .ok (.iload_n 1, 1)) ∧ (decode cX11_first 210 = .ok (.bipush 64, 2)) ∧ (decode cX11_first 212 = .ok (.iload_n 3, 1)) ∧ (decode cX11_first 213 = .ok (.invokestatic 123, 3)) ∧ (decode cX11_first 216 = .ok (.iastore, 1)) ∧ (decode cX11_first 217 = .ok (.goto 85, 3)) ∧ (decode cX11_first 220 = .ok (.aload_n 0, 1)) ∧ (decode cX11_first 221 = .ok (.bipush 10, 2)) ∧ (decode cX11_first 223 = .ok (.iload_n 3, 1)) ∧ (decode cX11_first 224 = .ok (.invokestatic 260, 3)) ∧ (decode cX11_first 227 = .ok (.imul, 1)) := by decide +kernel
theorem dX11_first_198 : decode cX11_first 198 = .ok (.iload_n 3, 1) := dq_X11_first_198.1
theorem dX11_first_199 : decode cX11_first 199 = .ok (.putfield 245, 3) := dq_X11_first_198.2.1
theorem dX11_first_202 : decode cX11_first 202 = .ok (.goto 100, 3) := dq_X11_first_198.2.2.1
theorem dX11_first_205 : decode cX11_first 205 = .ok (.aload_n 0, 1) := dq_X11_first_198.2.2.2.1
theorem dX11_first_206 : decode cX11_first 206 = .ok (.getfield 59, 3) := dq_X11_first_198.2.2.2.2.1
theorem dX11_first_209 : decode cX11_first 209 = .ok (.iload_n 1, 1) := dq_X11_first_198.2.2.2.2.2.1
theorem dX11_first_210 : decode cX11_first 210 = .ok (.bipush 64, 2) := dq_X11_first_198.2.2.2.2.2.2.1
theorem dX11_first_212 : decode cX11_first 212 = .ok (.iload_n 3, 1) := dq_X11_first_198.2.2.2.2.2.2.2.1
theorem dX11_first_213 : decode cX11_first 213 = .ok (.invokestatic 123, 3) := dq_X11_first_198.2.2.2.2.2.2.2.2.1
theorem dX11_first_216 : decode cX11_first 216 = .ok (.iastore, 1) := dq_X11_first_198.2.2.2.2.2.2.2.2.2.1
theorem dX11_first_217 : decode cX11_first 217 = .ok (.goto 85, 3) := dq_X11_first_198.2.2.2.2.2.2.2.2.2.2.1
theorem dX11_first_220 : decode cX11_first 220 = .ok (.aload_n 0, 1) := dq_X11_first_198.2.2.2.2.2.2.2.2.2.2.2.1
theorem dX11_first_221 : decode cX11_first 221 = .ok (.bipush 10, 2) := dq_X11_first_198.2.2.2.2.2.2.2.2.2.2.2.2.1
theorem dX11_first_223 : decode cX11_first 223 = .ok (.iload_n 3, 1) := dq_X11_first_198.2.2.2.2.2.2.2.2.2.2.2.2.2.1
theorem dX11_first_224 : decode cX11_first 224 = .ok (.invokestatic 260, 3) := dq_X11_first_198.2.2.2.2.2.2.2.2.2.2.2.2.2.2.1
theorem dX11_first_227 : decode cX11_first 227 = .ok (.imul, 1) := dq_X11_first_198.2.2.2.2.2.2.2.2.2.2.2.2.2.2.2
theorem dq_X11_first_228 : (decode cX11_first 228 = .ok (.iload_n 3, 1)) ∧ (decode cX11_first 229 = .ok (.invokestatic 272, 3)) ∧ (decode cX11_first 232 = .ok (.iadd, 1)) ∧ (decode cX11_first 233 = .ok (.bipush 63, 2)) ∧ (decode cX11_first 235 = .ok (.if_icmp .le 7, 3)) ∧ (decode cX11_first 238 = .ok (.iconst 0, 1)) ∧ (decode cX11_first 239 = .ok (.goto 15, 3)) ∧ (decode cX11_first 242 = .ok (.bipush 10, 2)) ∧ (decode cX11_first 244 = .ok (.iload_n 3, 1)) ∧ (decode cX11_first 245 = .ok (.invokestatic 260, 3)) ∧ (decode cX11_first 248 = .ok (.imul, 1)) ∧ (decode cX11_first 249 = .ok (.iload_n 3, 1)) ∧ (decode cX11_first 250 = .ok (.invokestatic 272, 3)) ∧ (decode cX11_first 253 = .ok (.iadd, 1)) ∧ (decode cX11_first 254 = .ok (.putfield 248, 3)) ∧ (decode cX11_first 257 = .ok (.goto 45, 3)) := by decide +kernel
theorem dX11_first_228 : decode cX11_first 228 = .ok (.iload_n 3, 1) := dq_X11_first_228.1
theorem dX11_first_229 : decode cX11_first 229 = .ok (.invokestatic 272, 3) := dq_X11_first_228.2.1
theorem dX11_first_232 : decode cX11_first 232 = .ok (.iadd, 1) := dq_X11_first_228.2.2.1
theorem dX11_first_233 : decode cX11_first 233 = .ok (.bipush 63, 2) := dq_X11_first_228.2.2.2.1
theorem dX11_first_235 : decode cX11_first 235 = .ok (.if_icmp .le 7, 3) := dq_X11_first_228.2.2.2.2.1
theorem dX11_first_238 : decode cX11_first 238 = .ok (.iconst 0, 1) := dq_X11_first_228.2.2.2.2.2.1
theorem dX11_first_239 : decode cX11_first 239 = .ok (.goto 15, 3) := dq_X11_first_228.2.2.2.2.2.2.1
theorem dX11_first_242 : decode cX11_first 242 = .ok (.bipush 10, 2) := dq_X11_first_228.2.2.2.2.2.2.2.1
theorem dX11_first_244 : decode cX11_first 244 = .ok (.iload_n 3, 1) := dq_X11_first_228.2.2.2.2.2.2.2.2.1
theorem dX11_first_245 : decode cX11_first 245 = .ok (.invokestatic 260, 3) := dq_X11_first_228.2.2.2.2.2.2.2.2.2.1
theorem dX11_first_248 : decode cX11_first 248 = .ok (.imul, 1) := dq_X11_first_228.2.2.2.2.2.2.2.2.2.2.1
theorem dX11_first_249 : decode cX11_first 249 = .ok (.iload_n 3, 1) := dq_X11_first_228.2.2.2.2.2.2.2.2.2.2.2.1
theorem dX11_first_250 : decode cX11_first 250 = .ok (.invokestatic 272, 3) := dq_X11_first_228.2.2.2.2.2.2.2.2.2.2.2.2.1
theorem dX11_first_253 : decode cX11_first 253 = .ok (.iadd, 1) := dq_X11_first_228.2.2.2.2.2.2.2.2.2.2.2.2.2.1
theorem dX11_first_254 : decode cX11_first 254 = .ok (.putfield 248, 3) := dq_X11_first_228.2.2.2.2.2.2.2.2.2.2.2.2.2.2.1
theorem dX11_first_257 : decode cX11_first 257 = .ok (.goto 45, 3) := dq_X11_first_228.2.2.2.2.2.2.2.2.2.2.2.2.2.2.2
theorem dq_X11_first_260 : (decode cX11_first 260 = .ok (.aload_n 0, 1)) ∧ (decode cX11_first 261 = .ok (.iload_n 1, 1)) ∧ (decode cX11_first 262 = .ok (.iload_n 3, 1)) ∧ (decode cX11_first 263 = .ok (.invokestatic 260, 3)) ∧ (decode cX11_first 266 = .ok (.iload_n 3, 1)) ∧ (decode cX11_first 267 = .ok (.invokestatic 272, 3)) ∧ (decode cX11_first 270 = .ok (.invokevirtual 297, 3)) ∧ (decode cX11_first 273 = .ok (.goto 29, 3)) ∧ (decode cX11_first 276 = .ok (.iload_n 3, 1)) ∧ (decode cX11_first 277 = .ok (.bipush 31, 2)) ∧ (decode cX11_first 279 = .ok (.if_icmp .le 11, 3)) ∧ (decode cX11_first 282 = .ok (.aload_n 0, 1)) ∧ (decode cX11_first 283 = .ok (.iload_n 3, 1)) ∧ (decode cX11_first 284 = .ok (.putfield 200, 3)) ∧ (decode cX11_first 287 = .ok (.goto 15, 3)) ∧ (decode cX11_first 290 = .ok (.iload_n 3, 1)) := by decide +kernel
theorem dX11_first_260 : decode cX11_first 260 = .ok (.aload_n 0, 1) := dq_X11_first_260.1
theorem dX11_first_261 : decode cX11_first 261 = .ok (.iload_n 1, 1) := dq_X11_first_260.2.1
theorem dX11_first_262 : decode cX11_first 262 = .ok (.iload_n 3, 1) := dq_X11_first_260.2.2.1
theorem dX11_first_263 : decode cX11_first 263 = .ok (.invokestatic 260, 3) := dq_X11_first_260.2.2.2.1
theorem dX11_first_266 : decode cX11_first 266 = .ok (.iload_n 3, 1) := dq_X11_first_260.2.2.2.2.1
theorem dX11_first_267 : decode cX11_first 267 = .ok (.invokestatic 272, 3) := dq_X11_first_260.2.2.2.2.2.1
theorem dX11_first_270 : decode cX11_first 270 = .ok (.invokevirtual 297, 3) := dq_X11_first_260.2.2.2.2.2.2.1
theorem dX11_first_273 : decode cX11_first 273 = .ok (.goto 29, 3) := dq_X11_first_260.2.2.2.2.2.2.2.1
theorem dX11_first_276 : decode cX11_first 276 = .ok (.iload_n 3, 1) := dq_X11_first_260.2.2.2.2.2.2.2.2.1
theorem dX11_first_277 : decode cX11_first 277 = .ok (.bipush 31, 2) := dq_X11_first_260.2.2.2.2.2.2.2.2.2.1
theorem dX11_first_279 : decode cX11_first 279 = .ok (.if_icmp .le 11, 3) := dq_X11_first_260.2.2.2.2.2.2.2.2.2.2.1
theorem dX11_first_282 : decode cX11_first 282 = .ok (.aload_n 0, 1) := dq_X11_first_260.2.2.2.2.2.2.2.2.2.2.2.1
theorem dX11_first_283 : decode cX11_first 283 = .ok (.iload_n 3, 1) := dq_X11_first_260.2.2.2.2.2.2.2.2.2.2.2.2.1
theorem dX11_first_284 : decode cX11_first 284 = .ok (.putfield 200, 3) := dq_X11_first_260.2.2.2.2.2.2.2.2.2.2.2.2.2.1
theorem dX11_first_287 : decode cX11_first 287 = .ok (.goto 15, 3) := dq_X11_first_260.2.2.2.2.2.2.2.2.2.2.2.2.2.2.1
theorem dX11_first_290 : decode cX11_first 290 = .ok (.iload_n 3, 1) := dq_X11_first_260.2.2.2.2.2.2.2.2.2.2.2.2.2.2.2
theorem dq_X11_first_291 : (decode cX11_first 291 = .ok (.ifCond .le 11, 3)) ∧ (decode cX11_first 294 = .ok (.aload_n 0, 1)) ∧ (decode cX11_first 295 = .ok (.iload_n 3, 1)) ∧ (decode cX11_first 296 = .ok (.putfield 197, 3)) ∧ (decode cX11_first 299 = .ok (.goto 3, 3)) ∧ (decode cX11_first 302 = .ok (.return_, 1)) := by decide +kernel
theorem dX11_first_291 : decode cX11_first 291 = .ok (.ifCond .le 11, 3) := dq_X11_first_291.1
theorem dX11_first_294 : decode cX11_first 294 = .ok (.aload_n 0, 1) := dq_X11_first_291.2.1
theorem dX11_first_295 : decode cX11_first 295 = .ok (.iload_n 3, 1) := dq_X11_first_291.2.2.1
theorem dX11_first_296 : decode cX11_first 296 = .ok (.putfield 197, 3) := dq_X11_first_291.2.2.2.1
theorem dX11_first_299 : decode cX11_first 299 = .ok (.goto 3, 3) := dq_X11_first_291.2.2.2.2.1
theorem dX11_first_302 : decode cX11_first 302 = .ok (.return_, 1) := dq_X11_first_291.2.2.2.2.2
theorem dq_X11_firstE_0 : (decode cX11_firstE 0 = .ok (.iload_n 2, 1)) ∧ (decode cX11_firstE 1 = .ok (.tableswitch 230 1 14 #[71, 81, 230, 90, 102, 125, 191, 230, 230, 203, 212, 230, 230, 222], 71)) ∧ (decode cX11_firstE 72 = .ok (.aload_n 0, 1)) ∧ (decode cX11_firstE 73 = .ok (.iload_n 1, 1)) ∧ (decode cX11_firstE 74 = .ok (.iload_n 3, 1)) ∧ (decode cX11_firstE 75 = .ok (.ineg, 1)) ∧ (decode cX11_firstE 76 = .ok (.invokevirtual 301, 3)) ∧ (decode cX11_firstE 79 = .ok (.goto 152, 3)) ∧ (decode cX11_firstE 82 = .ok (.aload_n 0, 1)) ∧ (decode cX11_firstE 83 = .ok (.iload_n 1, 1)) ∧ (decode cX11_firstE 84 = .ok (.iload_n 3, 1)) ∧ (decode cX11_firstE 85 = .ok (.invokevirtual 301, 3)) ∧ (decode cX11_firstE 88 = .ok (.goto 143, 3)) ∧ (decode cX11_firstE 91 = .ok (.aload_n 0, 1)) ∧ (decode cX11_firstE 92 = .ok (.getfield 83, 3)) ∧ (decode cX11_firstE 95 = .ok (.iload_n 1, 1)) := by decide +kernel
theorem dX11_firstE_0 : decode cX11_firstE 0 = .ok (.iload_n 2, 1) := dq_X11_firstE_0.1
theorem dX11_firstE_1 : decode cX11_firstE 1 = .ok (.tableswitch 230 1 14 #[71, 81, 230, 90, 102, 125, 191, 230, 230, 203, 212, 230, 230, 222], 71) := dq_X11_firstE_0.2.1
theorem dX11_firstE_72 : decode cX11_firstE 72 = .ok (.aload_n 0, 1) := dq_X11_firstE_0.2.2.1
theorem dX11_firstE_73 : decode cX11_firstE 73 = .ok (.iload_n 1, 1) := dq_X11_firstE_0.2.2.2.1
theorem dX11_firstE_74 : decode cX11_firstE 74 = .ok (.iload_n 3, 1) := dq_X11_firstE_0.2.2.2.2.1
theorem dX11_firstE_75 : decode cX11_firstE 75 = .ok (.ineg, 1) := dq_X11_firstE_0.2.2.2.2.2.1
theorem dX11_firstE_76 : decode cX11_firstE 76 = .ok (.invokevirtual 301, 3) := dq_X11_firstE_0.2.2.2.2.2.2.1
theorem dX11_firstE_79 : decode cX11_firstE 79 = .ok (.goto 152, 3) := dq_X11_firstE_0.2.2.2.2.2.2.2.1
theorem dX11_firstE_82 : decode cX11_firstE 82 = .ok (.aload_n 0, 1) := dq_X11_firstE_0.2.2.2.2.2.2.2.2.1
theorem dX11_firstE_83 : decode cX11_firstE 83 = .ok (.iload_n 1, 1) := dq_X11_firstE_0.2.2.2.2.2.2.2.2.2.1
theorem dX11_firstE_84 : decode cX11_firstE 84 = .ok (.iload_n 3, 1) := dq_X11_firstE_0.2.2.2.2.2.2.2.2.2.2.1
theorem dX11_firstE_85 : decode cX11_firstE 85 = .ok (.invokevirtual 301, 3) := dq_X11_firstE_0.2.2.2.2.2.2.2.2.2.2.2.1
theorem dX11_firstE_88 : decode cX11_firstE 88 = .ok (.goto 143, 3) := dq_X11_firstE_0.2.2.2.2.2.2.2.2.2.2.2.2.1
theorem dX11_firstE_91 : decode cX11_firstE 91 = .ok (.aload_n 0, 1) := dq_X11_firstE_0.2.2.2.2.2.2.2.2.2.2.2.2.2.1
theorem dX11_firstE_92 : decode cX11_firstE 92 = .ok (.getfield 83, 3) := dq_X11_firstE_0.2.2.2.2.2.2.2.2.2.2.2.2.2.2.1
theorem dX11_firstE_95 : decode cX11_firstE 95 = .ok (.iload_n 1, 1) := dq_X11_firstE_0.2.2.2.2.2.2.2.2.2.2.2.2.2.2.2
theorem dq_X11_firstE_96 : (decode cX11_firstE 96 = .ok (.iload_n 3, 1)) ∧ (decode cX11_firstE 97 = .ok (.iconst 4, 1)) ∧ (decode cX11_firstE 98 = .ok (.irem, 1)) ∧ (decode cX11_firstE 99 = .ok (.iastore, 1)) ∧ (decode cX11_firstE 100 = .ok (.goto 131, 3)) ∧ (decode cX11_firstE 103 = .ok (.aload_n 0, 1)) ∧ (decode cX11_firstE 104 = .ok (.getfield 62, 3)) ∧ (decode cX11_firstE 107 = .ok (.iload_n 1, 1)) ∧ (decode cX11_firstE 108 = .ok (.iload_n 3, 1)) ∧ (decode cX11_firstE 109 = .ok (.bipush 7, 2)) ∧ (decode cX11_firstE 111 = .ok (.if_icmp .le 10, 3)) ∧ (decode cX11_firstE 114 = .ok (.iload_n 3, 1)) ∧ (decode cX11_firstE 115 = .ok (.bipush 16, 2)) ∧ (decode cX11_firstE 117 = .ok (.isub, 1)) ∧ (decode cX11_firstE 118 = .ok (.goto 4, 3)) ∧ (decode cX11_firstE 121 = .ok (.iload_n 3, 1)) := by decide +kernel
theorem dX11_firstE_96 : decode cX11_firstE 96 = .ok (.iload_n 3, 1) := dq_X11_firstE_96.1
theorem dX11_firstE_97 : decode cX11_firstE 97 = .ok (.iconst 4, 1) := dq_X11_firstE_96.2.1
theorem dX11_firstE_98 : decode cX11_firstE 98 = .ok (.irem, 1) := dq_X11_firstE_96.2.2.1
theorem dX11_firstE_99 : decode cX11_firstE 99 = .ok (.iastore, 1) := dq_X11_firstE_96.2.2.2.1
theorem dX11_firstE_100 : decode cX11_firstE 100 = .ok (.goto 131, 3) := dq_X11_firstE_96.2.2.2.2.1
theorem dX11_firstE_103 : decode cX11_firstE 103 = .ok (.aload_n 0, 1) := dq_X11_firstE_96.2.2.2.2.2.1
theorem dX11_firstE_104 : decode cX11_firstE 104 = .ok (.getfield 62, 3) := dq_X11_firstE_96.2.2.2.2.2.2.1
theorem dX11_firstE_107 : decode cX11_firstE 107 = .ok (.iload_n 1, 1) := dq_X11_firstE_96.2.2.2.2.2.2.2.1
theorem dX11_firstE_108 : decode cX11_firstE 108 = .ok (.iload_n 3, 1) := dq_X11_firstE_96.2.2.2.2.2.2.2.2.1
theorem dX11_firstE_109 : decode cX11_firstE 109 = .ok (.bipush 7, 2) := dq_X11_firstE_96.2.2.2.2.2.2.2.2.2.1
theorem dX11_firstE_111 : decode cX11_firstE 111 = .ok (.if_icmp .le 10, 3) := dq_X11_firstE_96.2.2.2.2.2.2.2.2.2.2.1
theorem dX11_firstE_114 : decode cX11_firstE 114 = .ok (.iload_n 3, 1) := dq_X11_firstE_96.2.2.2.2.2.2.2.2.2.2.2.1
theorem dX11_firstE_115 : decode cX11_firstE 115 = .ok (.bipush 16, 2) := dq_X11_firstE_96.2.2.2.2.2.2.2.2.2.2.2.2.1
theorem dX11_firstE_117 : decode cX11_firstE 117 = .ok (.isub, 1) := dq_X11_firstE_96.2.2.2.2.2.2.2.2.2.2.2.2.2.1
theorem dX11_firstE_118 : decode cX11_firstE 118 = .ok (.goto 4, 3) := dq_X11_firstE_96.2.2.2.2.2.2.2.2.2.2.2.2.2.2.1
theorem dX11_firstE_121 : decode cX11_firstE 121 = .ok (.iload_n 3, 1) := dq_X11_firstE_96.2.2.2.2.2.2.2.2.2.2.2.2.2.2.2
theorem dq_X11_firstE_122 : (decode cX11_firstE 122 = .ok (.iastore, 1)) ∧ (decode cX11_firstE 123 = .ok (.goto 108, 3)) ∧ (decode cX11_firstE 126 = .ok (.iload_n 3, 1)) ∧ (decode cX11_firstE 127 = .ok (.ifCond .ne 16, 3)) ∧ (decode cX11_firstE 130 = .ok (.aload_n 0, 1)) ∧ (decode cX11_firstE 131 = .ok (.getfield 98, 3)) ∧ (decode cX11_firstE 134 = .ok (.iload_n 1, 1)) ∧ (decode cX11_firstE 135 = .ok (.aload_n 0, 1)) ∧ (decode cX11_firstE 136 = .ok (.getfield 206, 3)) ∧ (decode cX11_firstE 139 = .ok (.iastore, 1)) ∧ (decode cX11_firstE 140 = .ok (.goto 91, 3)) ∧ (decode cX11_firstE 143 = .ok (.aload_n 0, 1)) ∧ (decode cX11_firstE 144 = .ok (.getfield 101, 3)) ∧ (decode cX11_firstE 147 = .ok (.iload_n 1, 1)) ∧ (decode cX11_firstE 148 = .ok (.aload_n 0, 1)) ∧ (decode cX11_firstE 149 = .ok (.getfield 101, 3)) := by decide +kernel
theorem dX11_firstE_122 : decode cX11_firstE 122 = .ok (.iastore, 1) := dq_X11_firstE_122.1
theorem dX11_firstE_123 : decode cX11_firstE 123 = .ok (.goto 108, 3) := dq_X11_firstE_122.2.1
theorem dX11_firstE_126 : decode cX11_firstE 126 = .ok (.iload_n 3, 1) := dq_X11_firstE_122.2.2.1
theorem dX11_firstE_127 : decode cX11_firstE 127 = .ok (.ifCond .ne 16, 3) := dq_X11_firstE_122.2.2.2.1
theorem dX11_firstE_130 : decode cX11_firstE 130 = .ok (.aload_n 0, 1) := dq_X11_firstE_122.2.2.2.2.1
theorem dX11_firstE_131 : decode cX11_firstE 131 = .ok (.getfield 98, 3) := dq_X11_firstE_122.2.2.2.2.2.1
theorem dX11_firstE_134 : decode cX11_firstE 134 = .ok (.iload_n 1, 1) := dq_X11_firstE_122.2.2.2.2.2.2.1
theorem dX11_firstE_135 : decode cX11_firstE 135 = .ok (.aload_n 0, 1) := dq_X11_firstE_122.2.2.2.2.2.2.2.1
theorem dX11_firstE_136 : decode cX11_firstE 136 = .ok (.getfield 206, 3) := dq_X11_firstE_122.2.2.2.2.2.2.2.2.1
theorem dX11_firstE_139 : decode cX11_firstE 139 = .ok (.iastore, 1) := dq_X11_firstE_122.2.2.2.2.2.2.2.2.2.1
theorem dX11_firstE_140 : decode cX11_firstE 140 = .ok (.goto 91, 3) := dq_X11_firstE_122.2.2.2.2.2.2.2.2.2.2.1
theorem dX11_firstE_143 : decode cX11_firstE 143 = .ok (.aload_n 0, 1) := dq_X11_firstE_122.2.2.2.2.2.2.2.2.2.2.2.1
theorem dX11_firstE_144 : decode cX11_firstE 144 = .ok (.getfield 101, 3) := dq_X11_firstE_122.2.2.2.2.2.2.2.2.2.2.2.2.1
theorem dX11_firstE_147 : decode cX11_firstE 147 = .ok (.iload_n 1, 1) := dq_X11_firstE_122.2.2.2.2.2.2.2.2.2.2.2.2.2.1
theorem dX11_firstE_148 : decode cX11_firstE 148 = .ok (.aload_n 0, 1) := dq_X11_firstE_122.2.2.2.2.2.2.2.2.2.2.2.2.2.2.1
theorem dX11_firstE_149 : decode cX11_firstE 149 = .ok (.getfield 101, 3) := dq_X11_firstE_122.2.2.2.2.2.2.2.2.2.2.2.2.2.2.2
theorem dq_X11_firstE_152 : (decode cX11_firstE 152 = .ok (.iload_n 1, 1)) ∧ (decode cX11_firstE 153 = .ok (.iaload, 1)) ∧ (decode cX11_firstE 154 = .ok (.ifCond .ne 7, 3)) ∧ (decode cX11_firstE 157 = .ok (.iload_n 3, 1)) ∧ (decode cX11_firstE 158 = .ok (.goto 11, 3)) ∧ (decode cX11_firstE 161 = .ok (.aload_n 0, 1)) ∧ (decode cX11_firstE 162 = .ok (.getfield 101, 3)) ∧ (decode cX11_firstE 165 = .ok (.iload_n 1, 1)) ∧ (decode cX11_firstE 166 = .ok (.iaload, 1)) ∧ (decode cX11_firstE 167 = .ok (.iconst 1, 1)) ∧ (decode cX11_firstE 168 = .ok (.isub, 1)) ∧ (decode cX11_firstE 169 = .ok (.iastore, 1)) ∧ (decode cX11_firstE 170 = .ok (.aload_n 0, 1)) ∧ (decode cX11_firstE 171 = .ok (.getfield 101, 3)) ∧ (decode cX11_firstE 174 = .ok (.iload_n 1, 1)) ∧ (decode cX11_firstE 175 = .ok (.iaload, 1)) := by decide +kernel
theorem dX11_firstE_152 : decode cX11_firstE 152 = .ok (.iload_n 1, 1) := dq_X11_firstE_152.1
theorem dX11_firstE_153 : decode cX11_firstE 153 = .ok (.iaload, 1) := dq_X11_firstE_152.2.1
theorem dX11_firstE_154 : decode cX11_firstE 154 = .ok (.ifCond .ne 7, 3) := dq_X11_firstE_152.2.2.1
theorem dX11_firstE_157 : decode cX11_firstE 157 = .ok (.iload_n 3, 1) := dq_X11_firstE_152.2.2.2.1
theorem dX11_firstE_158 : decode cX11_firstE 158 = .ok (.goto 11, 3) := dq_X11_firstE_152.2.2.2.2.1
theorem dX11_firstE_161 : decode cX11_firstE 161 = .ok (.aload_n 0, 1) := dq_X11_firstE_152.2.2.2.2.2.1
theorem dX11_firstE_162 : decode cX11_firstE 162 = .ok (.getfield 101, 3) := dq_X11_firstE_152.2.2.2.2.2.2.1
theorem dX11_firstE_165 : decode cX11_firstE 165 = .ok (.iload_n 1, 1) := dq_X11_firstE_152.2.2.2.2.2.2.2.1
theorem dX11_firstE_166 : decode cX11_firstE 166 = .ok (.iaload, 1) := dq_X11_firstE_152.2.2.2.2.2.2.2.2.1
theorem dX11_firstE_167 : decode cX11_firstE 167 = .ok (.iconst 1, 1) := dq_X11_firstE_152.2.2.2.2.2.2.2.2.2.1
theorem dX11_firstE_168 : decode cX11_firstE 168 = .ok (.isub, 1) := dq_X11_firstE_152.2.2.2.2.2.2.2.2.2.2.1
theorem dX11_firstE_169 : decode cX11_firstE 169 = .ok (.iastore, 1) := dq_X11_firstE_152.2.2.2.2.2.2.2.2.2.2.2.1
theorem dX11_firstE_170 : decode cX11_firstE 170 = .ok (.aload_n 0, 1) := dq_X11_firstE_152.2.2.2.2.2.2.2.2.2.2.2.2.1
theorem dX11_firstE_171 : decode cX11_firstE 171 = .ok (.getfield 101, 3) := dq_X11_firstE_152.2.2.2.2.2.2.2.2.2.2.2.2.2.1
theorem dX11_firstE_174 : decode cX11_firstE 174 = .ok (.iload_n 1, 1) := dq_X11_firstE_152.2.2.2.2.2.2.2.2.2.2.2.2.2.2.1
theorem dX11_firstE_175 : decode cX11_firstE 175 = .ok (.iaload, 1) := dq_X11_firstE_152.2.2.2.2.2.2.2.2.2.2.2.2.2.2.2
theorem dq_X11_firstE_176 : (decode cX11_firstE 176 = .ok (.ifCond .eq 55, 3)) ∧ (decode cX11_firstE 179 = .ok (.aload_n 0, 1)) ∧ (decode cX11_firstE 180 = .ok (.aload_n 0, 1)) ∧ (decode cX11_firstE 181 = .ok (.getfield 98, 3)) ∧ (decode cX11_firstE 184 = .ok (.iload_n 1, 1)) ∧ (decode cX11_firstE 185 = .ok (.iaload, 1)) ∧ (decode cX11_firstE 186 = .ok (.putfield 242, 3)) ∧ (decode cX11_firstE 189 = .ok (.goto 42, 3)) ∧ (decode cX11_firstE 192 = .ok (.aload_n 0, 1)) ∧ (decode cX11_firstE 193 = .ok (.getfield 92, 3)) ∧ (decode cX11_firstE 196 = .ok (.iload_n 1, 1)) ∧ (decode cX11_firstE 197 = .ok (.iload_n 3, 1)) ∧ (decode cX11_firstE 198 = .ok (.iconst 4, 1)) ∧ (decode cX11_firstE 199 = .ok (.irem, 1)) ∧ (decode cX11_firstE 200 = .ok (.iastore, 1)) ∧ (decode cX11_firstE 201 = .ok (.goto 30, 3)) := by decide +kernel
theorem dX11_firstE_176 : decode cX11_firstE 176 = .ok (.ifCond .eq 55, 3) := dq_X11_firstE_176.1
theorem dX11_firstE_179 : decode cX11_firstE 179 = .ok (.aload_n 0, 1) := dq_X11_firstE_176.2.1
theorem dX11_firstE_180 : decode cX11_firstE 180 = .ok (.aload_n 0, 1) := dq_X11_firstE_176.2.2.1
theorem dX11_firstE_181 : decode cX11_firstE 181 = .ok (.getfield 98, 3) := dq_X11_firstE_176.2.2.2.1
theorem dX11_firstE_184 : decode cX11_firstE 184 = .ok (.iload_n 1, 1) := dq_X11_firstE_176.2.2.2.2.1
theorem dX11_firstE_185 : decode cX11_firstE 185 = .ok (.iaload, 1) := dq_X11_firstE_176.2.2.2.2.2.1
theorem dX11_firstE_186 : decode cX11_firstE 186 = .ok (.putfield 242, 3) := dq_X11_firstE_176.2.2.2.2.2.2.1
theorem dX11_firstE_189 : decode cX11_firstE 189 = .ok (.goto 42, 3) := dq_X11_firstE_176.2.2.2.2.2.2.2.1
theorem dX11_firstE_192 : decode cX11_firstE 192 = .ok (.aload_n 0, 1) := dq_X11_firstE_176.2.2.2.2.2.2.2.2.1
theorem dX11_firstE_193 : decode cX11_firstE 193 = .ok (.getfield 92, 3) := dq_X11_firstE_176.2.2.2.2.2.2.2.2.2.1
theorem dX11_firstE_196 : decode cX11_firstE 196 = .ok (.iload_n 1, 1) := dq_X11_firstE_176.2.2.2.2.2.2.2.2.2.2.1
theorem dX11_firstE_197 : decode cX11_firstE 197 = .ok (.iload_n 3, 1) := dq_X11_firstE_176.2.2.2.2.2.2.2.2.2.2.2.1
theorem dX11_firstE_198 : decode cX11_firstE 198 = .ok (.iconst 4, 1) := dq_X11_firstE_176.2.2.2.2.2.2.2.2.2.2.2.2.1
theorem dX11_firstE_199 : decode cX11_firstE 199 = .ok (.irem, 1) := dq_X11_firstE_176.2.2.2.2.2.2.2.2.2.2.2.2.2.1
theorem dX11_firstE_200 : decode cX11_firstE 200 = .ok (.iastore, 1) := dq_X11_firstE_176.2.2.2.2.2.2.2.2.2.2.2.2.2.2.1
theorem dX11_firstE_201 : decode cX11_firstE 201 = .ok (.goto 30, 3) := dq_X11_firstE_176.2.2.2.2.2.2.2.2.2.2.2.2.2.2.2
theorem dq_X11_firstE_204 : (decode cX11_firstE 204 = .ok (.aload_n 0, 1)) ∧ (decode cX11_firstE 205 = .ok (.iload_n 1, 1)) ∧ (decode cX11_firstE 206 = .ok (.iload_n 3, 1)) ∧ (decode cX11_firstE 207 = .ok (.invokevirtual 304, 3)) ∧ (decode cX11_firstE 210 = .ok (.goto 21, 3)) ∧ (decode cX11_firstE 213 = .ok (.aload_n 0, 1)) ∧ (decode cX11_firstE 214 = .ok (.iload_n 1, 1)) ∧ (decode cX11_firstE 215 = .ok (.iload_n 3, 1)) ∧ (decode cX11_firstE 216 = .ok (.ineg, 1)) ∧ (decode cX11_firstE 217 = .ok (.invokevirtual 304, 3)) ∧ (decode cX11_firstE 220 = .ok (.goto 11, 3)) ∧ (decode cX11_firstE 223 = .ok (.aload_n 0, 1)) ∧ (decode cX11_firstE 224 = .ok (.iload_n 3, 1)) ∧ (decode cX11_firstE 225 = .ok (.putfield 215, 3)) ∧ (decode cX11_firstE 228 = .ok (.goto 3, 3)) ∧ (decode cX11_firstE 231 = .ok (.return_, 1)) := by decide +kernel
theorem dX11_firstE_204 : decode cX11_firstE 204 = .ok (.aload_n 0, 1) := dq_X11_firstE_204.1
theorem dX11_firstE_205 : decode cX11_firstE 205 = .ok (.iload_n 1, 1) := dq_X11_firstE_204.2.1
theorem dX11_firstE_206 : decode cX11_firstE 206 = .ok (.iload_n 3, 1) := dq_X11_firstE_204.2.2.1
theorem dX11_firstE_207 : decode cX11_firstE 207 = .ok (.invokevirtual 304, 3) := dq_X11_firstE_204.2.2.2.1
theorem dX11_firstE_210 : decode cX11_firstE 210 = .ok (.goto 21, 3) := dq_X11_firstE_204.2.2.2.2.1
theorem dX11_firstE_213 : decode cX11_firstE 213 = .ok (.aload_n 0, 1) := dq_X11_firstE_204.2.2.2.2.2.1
theorem dX11_firstE_214 : decode cX11_firstE 214 = .ok (.iload_n 1, 1) := dq_X11_firstE_204.2.2.2.2.2.2.1
theorem dX11_firstE_215 : decode cX11_firstE 215 = .ok (.iload_n 3, 1) := dq_X11_firstE_204.2.2.2.2.2.2.2.1
theorem dX11_firstE_216 : decode cX11_firstE 216 = .ok (.ineg, 1) := dq_X11_firstE_204.2.2.2.2.2.2.2.2.1
theorem dX11_firstE_217 : decode cX11_firstE 217 = .ok (.invokevirtual 304, 3) := dq_X11_firstE_204.2.2.2.2.2.2.2.2.2.1
theorem dX11_firstE_220 : decode cX11_firstE 220 = .ok (.goto 11, 3) := dq_X11_firstE_204.2.2.2.2.2.2.2.2.2.2.1
theorem dX11_firstE_223 : decode cX11_firstE 223 = .ok (.aload_n 0, 1) := dq_X11_firstE_204.2.2.2.2.2.2.2.2.2.2.2.1
theorem dX11_firstE_224 : decode cX11_firstE 224 = .ok (.iload_n 3, 1) := dq_X11_firstE_204.2.2.2.2.2.2.2.2.2.2.2.2.1
theorem dX11_firstE_225 : decode cX11_firstE 225 = .ok (.putfield 215, 3) := dq_X11_firstE_204.2.2.2.2.2.2.2.2.2.2.2.2.2.1
theorem dX11_firstE_228 : decode cX11_firstE 228 = .ok (.goto 3, 3) := dq_X11_firstE_204.2.2.2.2.2.2.2.2.2.2.2.2.2.2.1
theorem dX11_firstE_231 : decode cX11_firstE 231 = .ok (.return_, 1) := dq_X11_firstE_204.2.2.2.2.2.2.2.2.2.2.2.2.2.2.2
theorem dq_X11_others_0 : (decode cX11_others 0 = .ok (.iload_n 2, 1)) ∧ (decode cX11_others 1 = .ok (.sipush 255, 3)) ∧ (decode cX11_others 4 = .ok (.iand, 1)) ∧ (decode cX11_others 5 = .ok (.istore_n 3, 1)) ∧ (decode cX11_others 6 = .ok (.iload_n 2, 1)) ∧ (decode cX11_others 7 = .ok (.invokestatic 257, 3)) ∧ (decode cX11_others 10 = .ok (.istore 4, 2)) ∧ (decode cX11_others 12 = .ok (.iload 4, 2)) ∧ (decode cX11_others 14 = .ok (.iconst 1, 1)) ∧ (decode cX11_others 15 = .ok (.if_icmp .ne 10, 3)) ∧ (decode cX11_others 18 = .ok (.aload_n 0, 1)) ∧ (decode cX11_others 19 = .ok (.iload_n 1, 1)) ∧ (decode cX11_others 20 = .ok (.iload_n 3, 1)) ∧ (decode cX11_others 21 = .ok (.ineg, 1)) ∧ (decode cX11_others 22 = .ok (.invokevirtual 301, 3)) ∧ (decode cX11_others 25 = .ok (.iload 4, 2)) := by decide +kernel
theorem dX11_others_0 : decode cX11_others 0 = .ok (.iload_n 2, 1) := dq_X11_others_0.1
theorem dX11_others_1 : decode cX11_others 1 = .ok (.sipush 255, 3) := dq_X11_others_0.2.1
theorem dX11_others_4 : decode cX11_others 4 = .ok (.iand, 1) := dq_X11_others_0.2.2.1
theorem dX11_others_5 : decode cX11_others 5 = .ok (.istore_n 3, 1) := dq_X11_others_0.2.2.2.1
theorem dX11_others_6 : decode cX11_others 6 = .ok (.iload_n 2, 1) := dq_X11_others_0.2.2.2.2.1
theorem dX11_others_7 : decode cX11_others 7 = .ok (.invokestatic 257, 3) := dq_X11_others_0.2.2.2.2.2.1
theorem dX11_others_10 : decode cX11_others 10 = .ok (.istore 4, 2) := dq_X11_others_0.2.2.2.2.2.2.1
theorem dX11_others_12 : decode cX11_others 12 = .ok (.iload 4, 2) := dq_X11_others_0.2.2.2.2.2.2.2.1
theorem dX11_others_14 : decode cX11_others 14 = .ok (.iconst 1, 1) := dq_X11_others_0.2.2.2.2.2.2.2.2.1
theorem dX11_others_15 : decode cX11_others 15 = .ok (.if_icmp .ne 10, 3) := dq_X11_others_0.2.2.2.2.2.2.2.2.2.1
theorem dX11_others_18 : decode cX11_others 18 = .ok (.aload_n 0, 1) := dq_X11_others_0.2.2.2.2.2.2.2.2.2.2.1
theorem dX11_others_19 : decode cX11_others 19 = .ok (.iload_n 1, 1) := dq_X11_others_0.2.2.2.2.2.2.2.2.2.2.2.1
theorem dX11_others_20 : decode cX11_others 20 = .ok (.iload_n 3, 1) := dq_X11_others_0.2.2.2.2.2.2.2.2.2.2.2.2.1
theorem dX11_others_21 : decode cX11_others 21 = .ok (.ineg, 1) := dq_X11_others_0.2.2.2.2.2.2.2.2.2.2.2.2.2.1
theorem dX11_others_22 : decode cX11_others 22 = .ok (.invokevirtual 301, 3) := dq_X11_others_0.2.2.2.2.2.2.2.2.2.2.2.2.2.2.1
theorem dX11_others_25 : decode cX11_others 25 = .ok (.iload 4, 2) := dq_X11_others_0.2.2.2.2.2.2.2.2.2.2.2.2.2.2.2
theorem dq_X11_others_27 : (decode cX11_others 27 = .ok (.iconst 2, 1)) ∧ (decode cX11_others 28 = .ok (.if_icmp .ne 9, 3)) ∧ (decode cX11_others 31 = .ok (.aload_n 0, 1)) ∧ (decode cX11_others 32 = .ok (.iload_n 1, 1)) ∧ (decode cX11_others 33 = .ok (.iload_n 3, 1)) ∧ (decode cX11_others 34 = .ok (.invokevirtual 301, 3)) ∧ (decode cX11_others 37 = .ok (.iload 4, 2)) ∧ (decode cX11_others 39 = .ok (.iconst 3, 1)) ∧ (decode cX11_others 40 = .ok (.if_icmp .eq 9, 3)) ∧ (decode cX11_others 43 = .ok (.iload 4, 2)) ∧ (decode cX11_others 45 = .ok (.iconst 5, 1)) ∧ (decode cX11_others 46 = .ok (.if_icmp .ne 95, 3)) ∧ (decode cX11_others 49 = .ok (.aload_n 0, 1)) ∧ (decode cX11_others 50 = .ok (.getfield 71, 3)) ∧ (decode cX11_others 53 = .ok (.iload_n 1, 1)) ∧ (decode cX11_others 54 = .ok (.iaload, 1)) := by decide +kernel
theorem dX11_others_27 : decode cX11_others 27 = .ok (.iconst 2, 1) := dq_X11_others_27.1
theorem dX11_others_28 : decode cX11_others 28 = .ok (.if_icmp .ne 9, 3) := dq_X11_others_27.2.1
theorem dX11_others_31 : decode cX11_others 31 = .ok (.aload_n 0, 1) := dq_X11_others_27.2.2.1
theorem dX11_others_32 : decode cX11_others 32 = .ok (.iload_n 1, 1) := dq_X11_others_27.2.2.2.1
theorem dX11_others_33 : decode cX11_others 33 = .ok (.iload_n 3, 1) := dq_X11_others_27.2.2.2.2.1
theorem dX11_others_34 : decode cX11_others 34 = .ok (.invokevirtual 301, 3) := dq_X11_others_27.2.2.2.2.2.1
theorem dX11_others_37 : decode cX11_others 37 = .ok (.iload 4, 2) := dq_X11_others_27.2.2.2.2.2.2.1
theorem dX11_others_39 : decode cX11_others 39 = .ok (.iconst 3, 1) := dq_X11_others_27.2.2.2.2.2.2.2.1
theorem dX11_others_40 : decode cX11_others 40 = .ok (.if_icmp .eq 9, 3) := dq_X11_others_27.2.2.2.2.2.2.2.2.1
theorem dX11_others_43 : decode cX11_others 43 = .ok (.iload 4, 2) := dq_X11_others_27.2.2.2.2.2.2.2.2.2.1
theorem dX11_others_45 : decode cX11_others 45 = .ok (.iconst 5, 1) := dq_X11_others_27.2.2.2.2.2.2.2.2.2.2.1
theorem dX11_others_46 : decode cX11_others 46 = .ok (.if_icmp .ne 95, 3) := dq_X11_others_27.2.2.2.2.2.2.2.2.2.2.2.1
theorem dX11_others_49 : decode cX11_others 49 = .ok (.aload_n 0, 1) := dq_X11_others_27.2.2.2.2.2.2.2.2.2.2.2.2.1
theorem dX11_others_50 : decode cX11_others 50 = .ok (.getfield 71, 3) := dq_X11_others_27.2.2.2.2.2.2.2.2.2.2.2.2.2.1
theorem dX11_others_53 : decode cX11_others 53 = .ok (.iload_n 1, 1) := dq_X11_others_27.2.2.2.2.2.2.2.2.2.2.2.2.2.2.1
theorem dX11_others_54 : decode cX11_others 54 = .ok (.iaload, 1) := dq_X11_others_27.2.2.2.2.2.2.2.2.2.2.2.2.2.2.2
theorem dq_X11_others_55 : (decode cX11_others 55 = .ok (.ifCond .eq 86, 3)) ∧ (decode cX11_others 58 = .ok (.aload_n 0, 1)) ∧ (decode cX11_others 59 = .ok (.getfield 65, 3)) ∧ (decode cX11_others 62 = .ok (.iload_n 1, 1)) ∧ (decode cX11_others 63 = .ok (.iaload, 1)) ∧ (decode cX11_others 64 = .ok (.ifCond .eq 77, 3)) ∧ (decode cX11_others 67 = .ok (.aload_n 0, 1)) ∧ (decode cX11_others 68 = .ok (.getfield 65, 3)) ∧ (decode cX11_others 71 = .ok (.iload_n 1, 1)) ∧ (decode cX11_others 72 = .ok (.iaload, 1)) ∧ (decode cX11_others 73 = .ok (.aload_n 0, 1)) ∧ (decode cX11_others 74 = .ok (.getfield 71, 3)) ∧ (decode cX11_others 77 = .ok (.iload_n 1, 1)) ∧ (decode cX11_others 78 = .ok (.iaload, 1)) ∧ (decode cX11_others 79 = .ok (.if_icmp .ge 34, 3)) ∧ (decode cX11_others 82 = .ok (.aload_n 0, 1)) := by decide +kernel
theorem dX11_others_55 : decode cX11_others 55 = .ok (.ifCond .eq 86, 3) := dq_X11_others_55.1
theorem dX11_others_58 : decode cX11_others 58 = .ok (.aload_n 0, 1) := dq_X11_others_55.2.1
theorem dX11_others_59 : decode cX11_others 59 = .ok (.getfield 65, 3) := dq_X11_others_55.2.2.1
theorem dX11_others_62 : decode cX11_others 62 = .ok (.iload_n 1, 1) := dq_X11_others_55.2.2.2.1
theorem dX11_others_63 : decode cX11_others 63 = .ok (.iaload, 1) := dq_X11_others_55.2.2.2.2.1
theorem dX11_others_64 : decode cX11_others 64 = .ok (.ifCond .eq 77, 3) := dq_X11_others_55.2.2.2.2.2.1
theorem dX11_others_67 : decode cX11_others 67 = .ok (.aload_n 0, 1) := dq_X11_others_55.2.2.2.2.2.2.1
theorem dX11_others_68 : decode cX11_others 68 = .ok (.getfield 65, 3) := dq_X11_others_55.2.2.2.2.2.2.2.1
theorem dX11_others_71 : decode cX11_others 71 = .ok (.iload_n 1, 1) := dq_X11_others_55.2.2.2.2.2.2.2.2.1
theorem dX11_others_72 : decode cX11_others 72 = .ok (.iaload, 1) := dq_X11_others_55.2.2.2.2.2.2.2.2.2.1
theorem dX11_others_73 : decode cX11_others 73 = .ok (.aload_n 0, 1) := dq_X11_others_55.2.2.2.2.2.2.2.2.2.2.1
theorem dX11_others_74 : decode cX11_others 74 = .ok (.getfield 71, 3) := dq_X11_others_55.2.2.2.2.2.2.2.2.2.2.2.1
theorem dX11_others_77 : decode cX11_others 77 = .ok (.iload_n 1, 1) := dq_X11_others_55.2.2.2.2.2.2.2.2.2.2.2.2.1
theorem dX11_others_78 : decode cX11_others 78 = .ok (.iaload, 1) := dq_X11_others_55.2.2.2.2.2.2.2.2.2.2.2.2.2.1
theorem dX11_others_79 : decode cX11_others 79 = .ok (.if_icmp .ge 34, 3) := dq_X11_others_55.2.2.2.2.2.2.2.2.2.2.2.2.2.2.1
theorem dX11_others_82 : decode cX11_others 82 = .ok (.aload_n 0, 1) := dq_X11_others_55.2.2.2.2.2.2.2.2.2.2.2.2.2.2.2
theorem dq_X11_others_83 : (decode cX11_others 83 = .ok (.getfield 65, 3)) ∧ (decode cX11_others 86 = .ok (.iload_n 1, 1)) ∧ (decode cX11_others 87 = .ok (.aload_n 0, 1)) ∧ (decode cX11_others 88 = .ok (.getfield 71, 3)) ∧ (decode cX11_others 91 = .ok (.iload_n 1, 1)) ∧ (decode cX11_others 92 = .ok (.iaload, 1)) ∧ (decode cX11_others 93 = .ok (.aload_n 0, 1)) ∧ (decode cX11_others 94 = .ok (.getfield 65, 3)) ∧ (decode cX11_others 97 = .ok (.iload_n 1, 1)) ∧ (decode cX11_others 98 = .ok (.iaload, 1)) ∧ (decode cX11_others 99 = .ok (.aload_n 0, 1)) ∧ (decode cX11_others 100 = .ok (.getfield 74, 3)) ∧ (decode cX11_others 103 = .ok (.iload_n 1, 1)) ∧ (decode cX11_others 104 = .ok (.iaload, 1)) ∧ (decode cX11_others 105 = .ok (.iadd, 1)) ∧ (decode cX11_others 106 = .ok (.invokestatic 123, 3)) := by decide +kernel
theorem dX11_others_83 : decode cX11_others 83 = .ok (.getfield 65, 3) := dq_X11_others_83.1
theorem dX11_others_86 : decode cX11_others 86 = .ok (.iload_n 1, 1) := dq_X11_others_83.2.1
theorem dX11_others_87 : decode cX11_others 87 = .ok (.aload_n 0, 1) := dq_X11_others_83.2.2.1
theorem dX11_others_88 : decode cX11_others 88 = .ok (.getfield 71, 3) := dq_X11_others_83.2.2.2.1
theorem dX11_others_91 : decode cX11_others 91 = .ok (.iload_n 1, 1) := dq_X11_others_83.2.2.2.2.1
theorem dX11_others_92 : decode cX11_others 92 = .ok (.iaload, 1) := dq_X11_others_83.2.2.2.2.2.1
theorem dX11_others_93 : decode cX11_others 93 = .ok (.aload_n 0, 1) := dq_X11_others_83.2.2.2.2.2.2.1
theorem dX11_others_94 : decode cX11_others 94 = .ok (.getfield 65, 3) := dq_X11_others_83.2.2.2.2.2.2.2.1
theorem dX11_others_97 : decode cX11_others 97 = .ok (.iload_n 1, 1) := dq_X11_others_83.2.2.2.2.2.2.2.2.1
theorem dX11_others_98 : decode cX11_others 98 = .ok (.iaload, 1) := dq_X11_others_83.2.2.2.2.2.2.2.2.2.1
theorem dX11_others_99 : decode cX11_others 99 = .ok (.aload_n 0, 1) := dq_X11_others_83.2.2.2.2.2.2.2.2.2.2.1
theorem dX11_others_100 : decode cX11_others 100 = .ok (.getfield 74, 3) := dq_X11_others_83.2.2.2.2.2.2.2.2.2.2.2.1
theorem dX11_others_103 : decode cX11_others 103 = .ok (.iload_n 1, 1) := dq_X11_others_83.2.2.2.2.2.2.2.2.2.2.2.2.1
theorem dX11_others_104 : decode cX11_others 104 = .ok (.iaload, 1) := dq_X11_others_83.2.2.2.2.2.2.2.2.2.2.2.2.2.1
theorem dX11_others_105 : decode cX11_others 105 = .ok (.iadd, 1) := dq_X11_others_83.2.2.2.2.2.2.2.2.2.2.2.2.2.2.1
theorem dX11_others_106 : decode cX11_others 106 = .ok (.invokestatic 123, 3) := dq_X11_others_83.2.2.2.2.2.2.2.2.2.2.2.2.2.2.2
theorem dq_X11_others_109 : (decode cX11_others 109 = .ok (.iastore, 1)) ∧ (decode cX11_others 110 = .ok (.goto 31, 3)) ∧ (decode cX11_others 113 = .ok (.aload_n 0, 1)) ∧ (decode cX11_others 114 = .ok (.getfield 65, 3)) ∧ (decode cX11_others 117 = .ok (.iload_n 1, 1)) ∧ (decode cX11_others 118 = .ok (.aload_n 0, 1)) ∧ (decode cX11_others 119 = .ok (.getfield 71, 3)) ∧ (decode cX11_others 122 = .ok (.iload_n 1, 1)) ∧ (decode cX11_others 123 = .ok (.iaload, 1)) ∧ (decode cX11_others 124 = .ok (.aload_n 0, 1)) ∧ (decode cX11_others 125 = .ok (.getfield 65, 3)) ∧ (decode cX11_others 128 = .ok (.iload_n 1, 1)) ∧ (decode cX11_others 129 = .ok (.iaload, 1)) ∧ (decode cX11_others 130 = .ok (.aload_n 0, 1)) ∧ (decode cX11_others 131 = .ok (.getfield 74, 3)) ∧ (decode cX11_others 134 = .ok (.iload_n 1, 1)) := by decide +kernel
theorem dX11_others_109 : decode cX11_others 109 = .ok (.iastore, 1) := dq_X11_others_109.1
theorem dX11_others_110 : decode cX11_others 110 = .ok (.goto 31, 3) := dq_X11_others_109.2.1
theorem dX11_others_113 : decode cX11_others 113 = .ok (.aload_n 0, 1) := dq_X11_others_109.2.2.1
theorem dX11_others_114 : decode cX11_others 114 = .ok (.getfield 65, 3) := dq_X11_others_109.2.2.2.1
theorem dX11_others_117 : decode cX11_others 117 = .ok (.iload_n 1, 1) := dq_X11_others_109.2.2.2.2.1
theorem dX11_others_118 : decode cX11_others 118 = .ok (.aload_n 0, 1) := dq_X11_others_109.2.2.2.2.2.1
theorem dX11_others_119 : decode cX11_others 119 = .ok (.getfield 71, 3) := dq_X11_others_109.2.2.2.2.2.2.1
theorem dX11_others_122 : decode cX11_others 122 = .ok (.iload_n 1, 1) := dq_X11_others_109.2.2.2.2.2.2.2.1
theorem dX11_others_123 : decode cX11_others 123 = .ok (.iaload, 1) := dq_X11_others_109.2.2.2.2.2.2.2.2.1
theorem dX11_others_124 : decode cX11_others 124 = .ok (.aload_n 0, 1) := dq_X11_others_109.2.2.2.2.2.2.2.2.2.1
theorem dX11_others_125 : decode cX11_others 125 = .ok (.getfield 65, 3) := dq_X11_others_109.2.2.2.2.2.2.2.2.2.2.1
theorem dX11_others_128 : decode cX11_others 128 = .ok (.iload_n 1, 1) := dq_X11_others_109.2.2.2.2.2.2.2.2.2.2.2.1
theorem dX11_others_129 : decode cX11_others 129 = .ok (.iaload, 1) := dq_X11_others_109.2.2.2.2.2.2.2.2.2.2.2.2.1
theorem dX11_others_130 : decode cX11_others 130 = .ok (.aload_n 0, 1) := dq_X11_others_109.2.2.2.2.2.2.2.2.2.2.2.2.2.1
theorem dX11_others_131 : decode cX11_others 131 = .ok (.getfield 74, 3) := dq_X11_others_109.2.2.2.2.2.2.2.2.2.2.2.2.2.2.1
theorem dX11_others_134 : decode cX11_others 134 = .ok (.iload_n 1, 1) := dq_X11_others_109.2.2.2.2.2.2.2.2.2.2.2.2.2.2.2
theorem dq_X11_others_135 : (decode cX11_others 135 = .ok (.iaload, 1)) ∧ (decode cX11_others 136 = .ok (.isub, 1)) ∧ (decode cX11_others 137 = .ok (.invokestatic 129, 3)) ∧ (decode cX11_others 140 = .ok (.iastore, 1)) ∧ (decode cX11_others 141 = .ok (.iload 4, 2)) ∧ (decode cX11_others 143 = .ok (.iconst 5, 1)) ∧ (decode cX11_others 144 = .ok (.if_icmp .eq 17, 3)) ∧ (decode cX11_others 147 = .ok (.iload 4, 2)) ∧ (decode cX11_others 149 = .ok (.bipush 6, 2)) ∧ (decode cX11_others 151 = .ok (.if_icmp .eq 10, 3)) ∧ (decode cX11_others 154 = .ok (.iload 4, 2)) ∧ (decode cX11_others 156 = .ok (.bipush 10, 2)) ∧ (decode cX11_others 158 = .ok (.if_icmp .ne 27, 3)) ∧ (decode cX11_others 161 = .ok (.aload_n 0, 1)) ∧ (decode cX11_others 162 = .ok (.iload_n 1, 1)) ∧ (decode cX11_others 163 = .ok (.iload_n 3, 1)) := by decide +kernel
theorem dX11_others_135 : decode cX11_others 135 = .ok (.iaload, 1) := dq_X11_others_135.1
theorem dX11_others_136 : decode cX11_others 136 = .ok (.isub, 1) := dq_X11_others_135.2.1
theorem dX11_others_137 : decode cX11_others 137 = .ok (.invokestatic 129, 3) := dq_X11_others_135.2.2.1
theorem dX11_others_140 : decode cX11_others 140 = .ok (.iastore, 1) := dq_X11_others_135.2.2.2.1
theorem dX11_others_141 : decode cX11_others 141 = .ok (.iload 4, 2) := dq_X11_others_135.2.2.2.2.1
theorem dX11_others_143 : decode cX11_others 143 = .ok (.iconst 5, 1) := dq_X11_others_135.2.2.2.2.2.1
theorem dX11_others_144 : decode cX11_others 144 = .ok (.if_icmp .eq 17, 3) := dq_X11_others_135.2.2.2.2.2.2.1
theorem dX11_others_147 : decode cX11_others 147 = .ok (.iload 4, 2) := dq_X11_others_135.2.2.2.2.2.2.2.1
theorem dX11_others_149 : decode cX11_others 149 = .ok (.bipush 6, 2) := dq_X11_others_135.2.2.2.2.2.2.2.2.1
theorem dX11_others_151 : decode cX11_others 151 = .ok (.if_icmp .eq 10, 3) := dq_X11_others_135.2.2.2.2.2.2.2.2.2.1
theorem dX11_others_154 : decode cX11_others 154 = .ok (.iload 4, 2) := dq_X11_others_135.2.2.2.2.2.2.2.2.2.2.1
theorem dX11_others_156 : decode cX11_others 156 = .ok (.bipush 10, 2) := dq_X11_others_135.2.2.2.2.2.2.2.2.2.2.2.1
theorem dX11_others_158 : decode cX11_others 158 = .ok (.if_icmp .ne 27, 3) := dq_X11_others_135.2.2.2.2.2.2.2.2.2.2.2.2.1
theorem dX11_others_161 : decode cX11_others 161 = .ok (.aload_n 0, 1) := dq_X11_others_135.2.2.2.2.2.2.2.2.2.2.2.2.2.1
theorem dX11_others_162 : decode cX11_others 162 = .ok (.iload_n 1, 1) := dq_X11_others_135.2.2.2.2.2.2.2.2.2.2.2.2.2.2.1
theorem dX11_others_163 : decode cX11_others 163 = .ok (.iload_n 3, 1) := dq_X11_others_135.2.2.2.2.2.2.2.2.2.2.2.2.2.2.2
theorem dq_X11_others_164 : (decode cX11_others 164 = .ok (.invokestatic 260, 3)) ∧ (decode cX11_others 167 = .ok (.ifCond .eq 10, 3)) ∧ (decode cX11_others 170 = .ok (.iload_n 3, 1)) ∧ (decode cX11_others 171 = .ok (.invokestatic 260, 3)) ∧ (decode cX11_others 174 = .ok (.goto 8, 3)) ∧ (decode cX11_others 177 = .ok (.iload_n 3, 1)) ∧ (decode cX11_others 178 = .ok (.invokestatic 272, 3)) ∧ (decode cX11_others 181 = .ok (.ineg, 1)) ∧ (decode cX11_others 182 = .ok (.invokevirtual 304, 3)) ∧ (decode cX11_others 185 = .ok (.return_, 1)) := by decide +kernel
theorem dX11_others_164 : decode cX11_others 164 = .ok (.invokestatic 260, 3) := dq_X11_others_164.1
theorem dX11_others_167 : decode cX11_others 167 = .ok (.ifCond .eq 10, 3) := dq_X11_others_164.2.1
theorem dX11_others_170 : decode cX11_others 170 = .ok (.iload_n 3, 1) := dq_X11_others_164.2.2.1
theorem dX11_others_171 : decode cX11_others 171 = .ok (.invokestatic 260, 3) := dq_X11_others_164.2.2.2.1
theorem dX11_others_174 : decode cX11_others 174 = .ok (.goto 8, 3) := dq_X11_others_164.2.2.2.2.1
theorem dX11_others_177 : decode cX11_others 177 = .ok (.iload_n 3, 1) := dq_X11_others_164.2.2.2.2.2.1
theorem dX11_others_178 : decode cX11_others 178 = .ok (.invokestatic 272, 3) := dq_X11_others_164.2.2.2.2.2.2.1
theorem dX11_others_181 : decode cX11_others 181 = .ok (.ineg, 1) := dq_X11_others_164.2.2.2.2.2.2.2.1
theorem dX11_others_182 : decode cX11_others 182 = .ok (.invokevirtual 304, 3) := dq_X11_others_164.2.2.2.2.2.2.2.2.1
theorem dX11_others_185 : decode cX11_others 185 = .ok (.return_, 1) := dq_X11_others_164.2.2.2.2.2.2.2.2.2
theorem dq_X11_wave__0 : (decode cX11_wave_ 0 = .ok (.iload_n 0, 1)) ∧ (decode cX11_wave_ 1 = .ok (.bipush 32, 2)) ∧ (decode cX11_wave_ 3 = .ok (.irem, 1)) ∧ (decode cX11_wave_ 4 = .ok (.istore_n 2, 1)) ∧ (decode cX11_wave_ 5 = .ok (.iload_n 1, 1)) ∧ (decode cX11_wave_ 6 = .ok (.iconst 1, 1)) ∧ (decode cX11_wave_ 7 = .ok (.if_icmp .ne 10, 3)) ∧ (decode cX11_wave_ 10 = .ok (.bipush 8, 2)) ∧ (decode cX11_wave_ 12 = .ok (.iload_n 2, 1)) ∧ (decode cX11_wave_ 13 = .ok (.imul, 1)) ∧ (decode cX11_wave_ 14 = .ok (.goto 28, 3)) ∧ (decode cX11_wave_ 17 = .ok (.iload_n 1, 1)) ∧ (decode cX11_wave_ 18 = .ok (.iconst 2, 1)) ∧ (decode cX11_wave_ 19 = .ok (.if_icmp .ne 9, 3)) ∧ (decode cX11_wave_ 22 = .ok (.sipush 255, 3)) ∧ (decode cX11_wave_ 25 = .ok (.goto 17, 3)) := by decide +kernel
theorem dX11_wave__0 : decode cX11_wave_ 0 = .ok (.iload_n 0, 1) := dq_X11_wave__0.1
theorem dX11_wave__1 : decode cX11_wave_ 1 = .ok (.bipush 32, 2) := dq_X11_wave__0.2.1
theorem dX11_wave__3 : decode cX11_wave_ 3 = .ok (.irem, 1) := dq_X11_wave__0.2.2.1
theorem dX11_wave__4 : decode cX11_wave_ 4 = .ok (.istore_n 2, 1) := dq_X11_wave__0.2.2.2.1
theorem dX11_wave__5 : decode cX11_wave_ 5 = .ok (.iload_n 1, 1) := dq_X11_wave__0.2.2.2.2.1
theorem dX11_wave__6 : decode cX11_wave_ 6 = .ok (.iconst 1, 1) := dq_X11_wave__0.2.2.2.2.2.1
theorem dX11_wave__7 : decode cX11_wave_ 7 = .ok (.if_icmp .ne 10, 3) := dq_X11_wave__0.2.2.2.2.2.2.1
theorem dX11_wave__10 : decode cX11_wave_ 10 = .ok (.bipush 8, 2) := dq_X11_wave__0.2.2.2.2.2.2.2.1
theorem dX11_wave__12 : decode cX11_wave_ 12 = .ok (.iload_n 2, 1) := dq_X11_wave__0.2.2.2.2.2.2.2.2.1
theorem dX11_wave__13 : decode cX11_wave_ 13 = .ok (.imul, 1) := dq_X11_wave__0.2.2.2.2.2.2.2.2.2.1
theorem dX11_wave__14 : decode cX11_wave_ 14 = .ok (.goto 28, 3) := dq_X11_wave__0.2.2.2.2.2.2.2.2.2.2.1
theorem dX11_wave__17 : decode cX11_wave_ 17 = .ok (.iload_n 1, 1) := dq_X11_wave__0.2.2.2.2.2.2.2.2.2.2.2.1
theorem dX11_wave__18 : decode cX11_wave_ 18 = .ok (.iconst 2, 1) := dq_X11_wave__0.2.2.2.2.2.2.2.2.2.2.2.2.1
theorem dX11_wave__19 : decode cX11_wave_ 19 = .ok (.if_icmp .ne 9, 3) := dq_X11_wave__0.2.2.2.2.2.2.2.2.2.2.2.2.2.1
theorem dX11_wave__22 : decode cX11_wave_ 22 = .ok (.sipush 255, 3) := dq_X11_wave__0.2.2.2.2.2.2.2.2.2.2.2.2.2.2.1
theorem dX11_wave__25 : decode cX11_wave_ 25 = .ok (.goto 17, 3) := dq_X11_wave__0.2.2.2.2.2.2.2.2.2.2.2.2.2.2.2
theorem dq_X11_wave__28 : (decode cX11_wave_ 28 = .ok (.sipush 255, 3)) ∧ (decode cX11_wave_ 31 = .ok (.iload_n 2, 1)) ∧ (decode cX11_wave_ 32 = .ok (.imul, 1)) ∧ (decode cX11_wave_ 33 = .ok (.bipush 32, 2)) ∧ (decode cX11_wave_ 35 = .ok (.iload_n 2, 1)) ∧ (decode cX11_wave_ 36 = .ok (.isub, 1)) ∧ (decode cX11_wave_ 37 = .ok (.imul, 1)) ∧ (decode cX11_wave_ 38 = .ok (.sipush 256, 3)) ∧ (decode cX11_wave_ 41 = .ok (.idiv, 1)) ∧ (decode cX11_wave_ 42 = .ok (.istore_n 3, 1)) ∧ (decode cX11_wave_ 43 = .ok (.iload_n 0, 1)) ∧ (decode cX11_wave_ 44 = .ok (.bipush 32, 2)) ∧ (decode cX11_wave_ 46 = .ok (.if_icmp .ge 7, 3)) ∧ (decode cX11_wave_ 49 = .ok (.iload_n 3, 1)) ∧ (decode cX11_wave_ 50 = .ok (.goto 5, 3)) ∧ (decode cX11_wave_ 53 = .ok (.iload_n 3, 1)) := by decide +kernel
theorem dX11_wave__28 : decode cX11_wave_ 28 = .ok (.sipush 255, 3) := dq_X11_wave__28.1
theorem dX11_wave__31 : decode cX11_wave_ 31 = .ok (.iload_n 2, 1) := dq_X11_wave__28.2.1
theorem dX11_wave__32 : decode cX11_wave_ 32 = .ok (.imul, 1) := dq_X11_wave__28.2.2.1
theorem dX11_wave__33 : decode cX11_wave_ 33 = .ok (.bipush 32, 2) := dq_X11_wave__28.2.2.2.1
theorem dX11_wave__35 : decode cX11_wave_ 35 = .ok (.iload_n 2, 1) := dq_X11_wave__28.2.2.2.2.1
theorem dX11_wave__36 : decode cX11_wave_ 36 = .ok (.isub, 1) := dq_X11_wave__28.2.2.2.2.2.1
theorem dX11_wave__37 : decode cX11_wave_ 37 = .ok (.imul, 1) := dq_X11_wave__28.2.2.2.2.2.2.1
theorem dX11_wave__38 : decode cX11_wave_ 38 = .ok (.sipush 256, 3) := dq_X11_wave__28.2.2.2.2.2.2.2.1
theorem dX11_wave__41 : decode cX11_wave_ 41 = .ok (.idiv, 1) := dq_X11_wave__28.2.2.2.2.2.2.2.2.1
theorem dX11_wave__42 : decode cX11_wave_ 42 = .ok (.istore_n 3, 1) := dq_X11_wave__28.2.2.2.2.2.2.2.2.2.1
theorem dX11_wave__43 : decode cX11_wave_ 43 = .ok (.iload_n 0, 1) := dq_X11_wave__28.2.2.2.2.2.2.2.2.2.2.1
theorem dX11_wave__44 : decode cX11_wave_ 44 = .ok (.bipush 32, 2) := dq_X11_wave__28.2.2.2.2.2.2.2.2.2.2.2.1
theorem dX11_wave__46 : decode cX11_wave_ 46 = .ok (.if_icmp .ge 7, 3) := dq_X11_wave__28.2.2.2.2.2.2.2.2.2.2.2.2.1
theorem dX11_wave__49 : decode cX11_wave_ 49 = .ok (.iload_n 3, 1) := dq_X11_wave__28.2.2.2.2.2.2.2.2.2.2.2.2.2.1
theorem dX11_wave__50 : decode cX11_wave_ 50 = .ok (.goto 5, 3) := dq_X11_wave__28.2.2.2.2.2.2.2.2.2.2.2.2.2.2.1
theorem dX11_wave__53 : decode cX11_wave_ 53 = .ok (.iload_n 3, 1) := dq_X11_wave__28.2.2.2.2.2.2.2.2.2.2.2.2.2.2.2
theorem dq_X11_wave__54 : (decode cX11_wave_ 54 = .ok (.ineg, 1)) ∧ (decode cX11_wave_ 55 = .ok (.ireturn, 1)) := by decide +kernel
theorem dX11_wave__54 : decode cX11_wave_ 54 = .ok (.ineg, 1) := dq_X11_wave__54.1
theorem dX11_wave__55 : decode cX11_wave_ 55 = .ok (.ireturn, 1) := dq_X11_wave__54.2
theorem dq_X11_reckons_0 : (decode cX11_reckons 0 = .ok (.aload_n 0, 1)) ∧ (decode cX11_reckons 1 = .ok (.getfield 107, 3)) ∧ (decode cX11_reckons 4 = .ok (.iload_n 1, 1)) ∧ (decode cX11_reckons 5 = .ok (.aload_n 0, 1)) ∧ (decode cX11_reckons 6 = .ok (.getfield 65, 3)) ∧ (decode cX11_reckons 9 = .ok (.iload_n 1, 1)) ∧ (decode cX11_reckons 10 = .ok (.iaload, 1)) ∧ (decode cX11_reckons 11 = .ok (.iastore, 1)) ∧ (decode cX11_reckons 12 = .ok (.aload_n 0, 1)) ∧ (decode cX11_reckons 13 = .ok (.getfield 110, 3)) ∧ (decode cX11_reckons 16 = .ok (.iload_n 1, 1)) ∧ (decode cX11_reckons 17 = .ok (.aload_n 0, 1)) ∧ (decode cX11_reckons 18 = .ok (.getfield 59, 3)) ∧ (decode cX11_reckons 21 = .ok (.iload_n 1, 1)) ∧ (decode cX11_reckons 22 = .ok (.iaload, 1)) ∧ (decode cX11_reckons 23 = .ok (.iastore, 1)) := by decide +kernel
theorem dX11_reckons_0 : decode cX11_reckons 0 = .ok (.aload_n 0, 1) := dq_X11_reckons_0.1
theorem dX11_reckons_1 : decode cX11_reckons 1 = .ok (.getfield 107, 3) := dq_X11_reckons_0.2.1
theorem dX11_reckons_4 : decode cX11_reckons 4 = .ok (.iload_n 1, 1) := dq_X11_reckons_0.2.2.1
theorem dX11_reckons_5 : decode cX11_reckons 5 = .ok (.aload_n 0, 1) := dq_X11_reckons_0.2.2.2.1
theorem dX11_reckons_6 : decode cX11_reckons 6 = .ok (.getfield 65, 3) := dq_X11_reckons_0.2.2.2.2.1
theorem dX11_reckons_9 : decode cX11_reckons 9 = .ok (.iload_n 1, 1) := dq_X11_reckons_0.2.2.2.2.2.1
theorem dX11_reckons_10 : decode cX11_reckons 10 = .ok (.iaload, 1) := dq_X11_reckons_0.2.2.2.2.2.2.1
theorem dX11_reckons_11 : decode cX11_reckons 11 = .ok (.iastore, 1) := dq_X11_reckons_0.2.2.2.2.2.2.2.1
theorem dX11_reckons_12 : decode cX11_reckons 12 = .ok (.aload_n 0, 1) := dq_X11_reckons_0.2.2.2.2.2.2.2.2.1
theorem dX11_reckons_13 : decode cX11_reckons 13 = .ok (.getfield 110, 3) := dq_X11_reckons_0.2.2.2.2.2.2.2.2.2.1
theorem dX11_reckons_16 : decode cX11_reckons 16 = .ok (.iload_n 1, 1) := dq_X11_reckons_0.2.2.2.2.2.2.2.2.2.2.1
theorem dX11_reckons_17 : decode cX11_reckons 17 = .ok (.aload_n 0, 1) := dq_X11_reckons_0.2.2.2.2.2.2.2.2.2.2.2.1
theorem dX11_reckons_18 : decode cX11_reckons 18 = .ok (.getfield 59, 3) := dq_X11_reckons_0.2.2.2.2.2.2.2.2.2.2.2.2.1
theorem dX11_reckons_21 : decode cX11_reckons 21 = .ok (.iload_n 1, 1) := dq_X11_reckons_0.2.2.2.2.2.2.2.2.2.2.2.2.2.1
theorem dX11_reckons_22 : decode cX11_reckons 22 = .ok (.iaload, 1) := dq_X11_reckons_0.2.2.2.2.2.2.2.2.2.2.2.2.2.2.1
theorem dX11_reckons_23 : decode cX11_reckons 23 = .ok (.iastore, 1) := dq_X11_reckons_0.2.2.2.2.2.2.2.2.2.2.2.2.2.2.2
theorem dq_X11_reckons_24 : (decode cX11_reckons 24 = .ok (.aload_n 0, 1)) ∧ (decode cX11_reckons 25 = .ok (.getfield 209, 3)) ∧ (decode cX11_reckons 28 = .ok (.ifCond .eq 12, 3)) ∧ (decode cX11_reckons 31 = .ok (.aload_n 0, 1)) ∧ (decode cX11_reckons 32 = .ok (.getfield 65, 3)) ∧ (decode cX11_reckons 35 = .ok (.iload_n 1, 1)) ∧ (decode cX11_reckons 36 = .ok (.iaload, 1)) ∧ (decode cX11_reckons 37 = .ok (.ifCond .ne 4, 3)) ∧ (decode cX11_reckons 40 = .ok (.return_, 1)) ∧ (decode cX11_reckons 41 = .ok (.iload_n 2, 1)) ∧ (decode cX11_reckons 42 = .ok (.invokestatic 257, 3)) ∧ (decode cX11_reckons 45 = .ok (.istore_n 3, 1)) ∧ (decode cX11_reckons 46 = .ok (.iload_n 3, 1)) ∧ (decode cX11_reckons 47 = .ok (.ifCond .ne 92, 3)) ∧ (decode cX11_reckons 50 = .ok (.iload_n 2, 1)) ∧ (decode cX11_reckons 51 = .ok (.sipush 255, 3)) := by decide +kernel
theorem dX11_reckons_24 : decode cX11_reckons 24 = .ok (.aload_n 0, 1) := dq_X11_reckons_24.1
theorem dX11_reckons_25 : decode cX11_reckons 25 = .ok (.getfield 209, 3) := dq_X11_reckons_24.2.1
theorem dX11_reckons_28 : decode cX11_reckons 28 = .ok (.ifCond .eq 12, 3) := dq_X11_reckons_24.2.2.1
theorem dX11_reckons_31 : decode cX11_reckons 31 = .ok (.aload_n 0, 1) := dq_X11_reckons_24.2.2.2.1
theorem dX11_reckons_32 : decode cX11_reckons 32 = .ok (.getfield 65, 3) := dq_X11_reckons_24.2.2.2.2.1
theorem dX11_reckons_35 : decode cX11_reckons 35 = .ok (.iload_n 1, 1) := dq_X11_reckons_24.2.2.2.2.2.1
theorem dX11_reckons_36 : decode cX11_reckons 36 = .ok (.iaload, 1) := dq_X11_reckons_24.2.2.2.2.2.2.1
theorem dX11_reckons_37 : decode cX11_reckons 37 = .ok (.ifCond .ne 4, 3) := dq_X11_reckons_24.2.2.2.2.2.2.2.1
theorem dX11_reckons_40 : decode cX11_reckons 40 = .ok (.return_, 1) := dq_X11_reckons_24.2.2.2.2.2.2.2.2.1
theorem dX11_reckons_41 : decode cX11_reckons 41 = .ok (.iload_n 2, 1) := dq_X11_reckons_24.2.2.2.2.2.2.2.2.2.1
theorem dX11_reckons_42 : decode cX11_reckons 42 = .ok (.invokestatic 257, 3) := dq_X11_reckons_24.2.2.2.2.2.2.2.2.2.2.1
theorem dX11_reckons_45 : decode cX11_reckons 45 = .ok (.istore_n 3, 1) := dq_X11_reckons_24.2.2.2.2.2.2.2.2.2.2.2.1
theorem dX11_reckons_46 : decode cX11_reckons 46 = .ok (.iload_n 3, 1) := dq_X11_reckons_24.2.2.2.2.2.2.2.2.2.2.2.2.1
theorem dX11_reckons_47 : decode cX11_reckons 47 = .ok (.ifCond .ne 92, 3) := dq_X11_reckons_24.2.2.2.2.2.2.2.2.2.2.2.2.2.1
theorem dX11_reckons_50 : decode cX11_reckons 50 = .ok (.iload_n 2, 1) := dq_X11_reckons_24.2.2.2.2.2.2.2.2.2.2.2.2.2.2.1
theorem dX11_reckons_51 : decode cX11_reckons 51 = .ok (.sipush 255, 3) := dq_X11_reckons_24.2.2.2.2.2.2.2.2.2.2.2.2.2.2.2
theorem dq_X11_reckons_54 : (decode cX11_reckons 54 = .ok (.iand, 1)) ∧ (decode cX11_reckons 55 = .ok (.ifCond .eq 84, 3)) ∧ (decode cX11_reckons 58 = .ok (.aload_n 0, 1)) ∧ (decode cX11_reckons 59 = .ok (.getfield 209, 3)) ∧ (decode cX11_reckons 62 = .ok (.iconst 3, 1)) ∧ (decode cX11_reckons 63 = .ok (.irem, 1)) ∧ (decode cX11_reckons 64 = .ok (.ifCond .eq 75, 3)) ∧ (decode cX11_reckons 67 = .ok (.aload_n 0, 1)) ∧ (decode cX11_reckons 68 = .ok (.getfield 68, 3)) ∧ (decode cX11_reckons 71 = .ok (.iload_n 1, 1)) ∧ (decode cX11_reckons 72 = .ok (.iaload, 1)) ∧ (decode cX11_reckons 73 = .ok (.istore 4, 2)) ∧ (decode cX11_reckons 75 = .ok (.aload_n 0, 1)) ∧ (decode cX11_reckons 76 = .ok (.getfield 209, 3)) ∧ (decode cX11_reckons 79 = .ok (.iconst 3, 1)) ∧ (decode cX11_reckons 80 = .ok (.irem, 1)) := by decide +kernel
theorem dX11_reckons_54 : decode cX11_reckons 54 = .ok (.iand, 1) := dq_X11_reckons_54.1
theorem dX11_reckons_55 : decode cX11_reckons 55 = .ok (.ifCond .eq 84, 3) := dq_X11_reckons_54.2.1
theorem dX11_reckons_58 : decode cX11_reckons 58 = .ok (.aload_n 0, 1) := dq_X11_reckons_54.2.2.1
theorem dX11_reckons_59 : decode cX11_reckons 59 = .ok (.getfield 209, 3) := dq_X11_reckons_54.2.2.2.1
theorem dX11_reckons_62 : decode cX11_reckons 62 = .ok (.iconst 3, 1) := dq_X11_reckons_54.2.2.2.2.1
theorem dX11_reckons_63 : decode cX11_reckons 63 = .ok (.irem, 1) := dq_X11_reckons_54.2.2.2.2.2.1
theorem dX11_reckons_64 : decode cX11_reckons 64 = .ok (.ifCond .eq 75, 3) := dq_X11_reckons_54.2.2.2.2.2.2.1
theorem dX11_reckons_67 : decode cX11_reckons 67 = .ok (.aload_n 0, 1) := dq_X11_reckons_54.2.2.2.2.2.2.2.1
theorem dX11_reckons_68 : decode cX11_reckons 68 = .ok (.getfield 68, 3) := dq_X11_reckons_54.2.2.2.2.2.2.2.2.1
theorem dX11_reckons_71 : decode cX11_reckons 71 = .ok (.iload_n 1, 1) := dq_X11_reckons_54.2.2.2.2.2.2.2.2.2.1
theorem dX11_reckons_72 : decode cX11_reckons 72 = .ok (.iaload, 1) := dq_X11_reckons_54.2.2.2.2.2.2.2.2.2.2.1
theorem dX11_reckons_73 : decode cX11_reckons 73 = .ok (.istore 4, 2) := dq_X11_reckons_54.2.2.2.2.2.2.2.2.2.2.2.1
theorem dX11_reckons_75 : decode cX11_reckons 75 = .ok (.aload_n 0, 1) := dq_X11_reckons_54.2.2.2.2.2.2.2.2.2.2.2.2.1
theorem dX11_reckons_76 : decode cX11_reckons 76 = .ok (.getfield 209, 3) := dq_X11_reckons_54.2.2.2.2.2.2.2.2.2.2.2.2.2.1
theorem dX11_reckons_79 : decode cX11_reckons 79 = .ok (.iconst 3, 1) := dq_X11_reckons_54.2.2.2.2.2.2.2.2.2.2.2.2.2.2.1
theorem dX11_reckons_80 : decode cX11_reckons 80 = .ok (.irem, 1) := dq_X11_reckons_54.2.2.2.2.2.2.2.2.2.2.2.2.2.2.2
theorem dq_X11_reckons_81 : (decode cX11_reckons 81 = .ok (.iconst 1, 1)) ∧ (decode cX11_reckons 82 = .ok (.if_icmp .ne 10, 3)) ∧ (decode cX11_reckons 85 = .ok (.iload_n 2, 1)) ∧ (decode cX11_reckons 86 = .ok (.invokestatic 260, 3)) ∧ (decode cX11_reckons 89 = .ok (.goto 7, 3)) ∧ (decode cX11_reckons 92 = .ok (.iload_n 2, 1)) ∧ (decode cX11_reckons 93 = .ok (.invokestatic 272, 3)) ∧ (decode cX11_reckons 96 = .ok (.istore 5, 2)) ∧ (decode cX11_reckons 98 = .ok (.iconst 0, 1)) ∧ (decode cX11_reckons 99 = .ok (.istore 6, 2)) ∧ (decode cX11_reckons 101 = .ok (.iload 6, 2)) ∧ (decode cX11_reckons 103 = .ok (.iload 5, 2)) ∧ (decode cX11_reckons 105 = .ok (.if_icmp .ge 21, 3)) ∧ (decode cX11_reckons 108 = .ok (.iload 4, 2)) ∧ (decode cX11_reckons 110 = .ok (.sipush 17843, 3)) ∧ (decode cX11_reckons 113 = .ok (.imul, 1)) := by decide +kernel
theorem dX11_reckons_81 : decode cX11_reckons 81 = .ok (.iconst 1, 1) := dq_X11_reckons_81.1
theorem dX11_reckons_82 : decode cX11_reckons 82 = .ok (.if_icmp .ne 10, 3) := dq_X11_reckons_81.2.1
theorem dX11_reckons_85 : decode cX11_reckons 85 = .ok (.iload_n 2, 1) := dq_X11_reckons_81.2.2.1
theorem dX11_reckons_86 : decode cX11_reckons 86 = .ok (.invokestatic 260, 3) := dq_X11_reckons_81.2.2.2.1
theorem dX11_reckons_89 : decode cX11_reckons 89 = .ok (.goto 7, 3) := dq_X11_reckons_81.2.2.2.2.1
theorem dX11_reckons_92 : decode cX11_reckons 92 = .ok (.iload_n 2, 1) := dq_X11_reckons_81.2.2.2.2.2.1
theorem dX11_reckons_93 : decode cX11_reckons 93 = .ok (.invokestatic 272, 3) := dq_X11_reckons_81.2.2.2.2.2.2.1
theorem dX11_reckons_96 : decode cX11_reckons 96 = .ok (.istore 5, 2) := dq_X11_reckons_81.2.2.2.2.2.2.2.1
theorem dX11_reckons_98 : decode cX11_reckons 98 = .ok (.iconst 0, 1) := dq_X11_reckons_81.2.2.2.2.2.2.2.2.1
theorem dX11_reckons_99 : decode cX11_reckons 99 = .ok (.istore 6, 2) := dq_X11_reckons_81.2.2.2.2.2.2.2.2.2.1
theorem dX11_reckons_101 : decode cX11_reckons 101 = .ok (.iload 6, 2) := dq_X11_reckons_81.2.2.2.2.2.2.2.2.2.2.1
theorem dX11_reckons_103 : decode cX11_reckons 103 = .ok (.iload 5, 2) := dq_X11_reckons_81.2.2.2.2.2.2.2.2.2.2.2.1
theorem dX11_reckons_105 : decode cX11_reckons 105 = .ok (.if_icmp .ge 21, 3) := dq_X11_reckons_81.2.2.2.2.2.2.2.2.2.2.2.2.1
theorem dX11_reckons_108 : decode cX11_reckons 108 = .ok (.iload 4, 2) := dq_X11_reckons_81.2.2.2.2.2.2.2.2.2.2.2.2.2.1
theorem dX11_reckons_110 : decode cX11_reckons 110 = .ok (.sipush 17843, 3) := dq_X11_reckons_81.2.2.2.2.2.2.2.2.2.2.2.2.2.2.1
theorem dX11_reckons_113 : decode cX11_reckons 113 = .ok (.imul, 1) := dq_X11_reckons_81.2.2.2.2.2.2.2.2.2.2.2.2.2.2.2
theorem dq_X11_reckons_114 : (decode cX11_reckons 114 = .ok (.sipush 18904, 3)) ∧ (decode cX11_reckons 117 = .ok (.idiv, 1)) ∧ (decode cX11_reckons 118 = .ok (.istore 4, 2)) ∧ (decode cX11_reckons 120 = .ok (.iinc 6 1, 3)) ∧ (decode cX11_reckons 123 = .ok (.goto (-22), 3)) ∧ (decode cX11_reckons 126 = .ok (.aload_n 0, 1)) ∧ (decode cX11_reckons 127 = .ok (.getfield 107, 3)) ∧ (decode cX11_reckons 130 = .ok (.iload_n 1, 1)) ∧ (decode cX11_reckons 131 = .ok (.bipush 54, 2)) ∧ (decode cX11_reckons 133 = .ok (.iload 4, 2)) ∧ (decode cX11_reckons 135 = .ok (.invokestatic 129, 3)) ∧ (decode cX11_reckons 138 = .ok (.iastore, 1)) ∧ (decode cX11_reckons 139 = .ok (.iload_n 3, 1)) ∧ (decode cX11_reckons 140 = .ok (.iconst 4, 1)) ∧ (decode cX11_reckons 141 = .ok (.if_icmp .eq 9, 3)) ∧ (decode cX11_reckons 144 = .ok (.iload_n 3, 1)) := by decide +kernel
theorem dX11_reckons_114 : decode cX11_reckons 114 = .ok (.sipush 18904, 3) := dq_X11_reckons_114.1
theorem dX11_reckons_117 : decode cX11_reckons 117 = .ok (.idiv, 1) := dq_X11_reckons_114.2.1
theorem dX11_reckons_118 : decode cX11_reckons 118 = .ok (.istore 4, 2) := dq_X11_reckons_114.2.2.1
theorem dX11_reckons_120 : decode cX11_reckons 120 = .ok (.iinc 6 1, 3) := dq_X11_reckons_114.2.2.2.1
