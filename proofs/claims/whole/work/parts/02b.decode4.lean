theorem dX10_make_64 : decode cX10_make 64 = .ok (.iload_n 2, 1) := by decide +kernel
theorem dX10_make_65 : decode cX10_make 65 = .ok (.iload_n 3, 1) := by decide +kernel
theorem dX10_make_66 : decode cX10_make 66 = .ok (.isub, 1) := by decide +kernel
theorem dX10_make_67 : decode cX10_make 67 = .ok (.ireturn, 1) := by decide +kernel
theorem dX10_make_68 : decode cX10_make 68 = .ok (.iload_n 2, 1) := by decide +kernel
theorem dX10_make_69 : decode cX10_make 69 = .ok (.iload_n 3, 1) := by decide +kernel
theorem dX10_make_70 : decode cX10_make 70 = .ok (.imul, 1) := by decide +kernel
theorem dX10_make_71 : decode cX10_make 71 = .ok (.ireturn, 1) := by decide +kernel
theorem dX10_make_72 : decode cX10_make 72 = .ok (.iload_n 2, 1) := by decide +kernel
theorem dX10_make_73 : decode cX10_make 73 = .ok (.iload_n 3, 1) := by decide +kernel
theorem dX10_make_74 : decode cX10_make 74 = .ok (.iand, 1) := by decide +kernel
theorem dX10_make_75 : decode cX10_make 75 = .ok (.ireturn, 1) := by decide +kernel
theorem dX10_make_76 : decode cX10_make 76 = .ok (.iload_n 2, 1) := by decide +kernel
theorem dX10_make_77 : decode cX10_make 77 = .ok (.iload_n 3, 1) := by decide +kernel
theorem dX10_make_78 : decode cX10_make 78 = .ok (.ior, 1) := by decide +kernel
theorem dX10_make_79 : decode cX10_make 79 = .ok (.ireturn, 1) := by decide +kernel
theorem dX10_make_80 : decode cX10_make 80 = .ok (.iload_n 2, 1) := by decide +kernel
theorem dX10_make_81 : decode cX10_make 81 = .ok (.iload_n 3, 1) := by decide +kernel
theorem dX10_make_82 : decode cX10_make 82 = .ok (.ixor, 1) := by decide +kernel
theorem dX10_make_83 : decode cX10_make 83 = .ok (.ireturn, 1) := by decide +kernel
theorem dX10_make_84 : decode cX10_make 84 = .ok (.iload_n 2, 1) := by decide +kernel
theorem dX10_make_85 : decode cX10_make 85 = .ok (.iload_n 3, 1) := by decide +kernel
theorem dX10_make_86 : decode cX10_make 86 = .ok (.bipush 31, 2) := by decide +kernel
theorem dX10_make_88 : decode cX10_make 88 = .ok (.iand, 1) := by decide +kernel
theorem dX10_make_89 : decode cX10_make 89 = .ok (.ishl, 1) := by decide +kernel
theorem dX10_make_90 : decode cX10_make 90 = .ok (.ireturn, 1) := by decide +kernel
theorem dX10_make_91 : decode cX10_make 91 = .ok (.iload_n 2, 1) := by decide +kernel
theorem dX10_make_92 : decode cX10_make 92 = .ok (.iload_n 3, 1) := by decide +kernel
theorem dX10_make_93 : decode cX10_make 93 = .ok (.bipush 31, 2) := by decide +kernel
theorem dX10_make_95 : decode cX10_make 95 = .ok (.iand, 1) := by decide +kernel
theorem dX10_make_96 : decode cX10_make 96 = .ok (.iushr, 1) := by decide +kernel
theorem dX10_make_97 : decode cX10_make 97 = .ok (.ireturn, 1) := by decide +kernel
theorem dX10_make_98 : decode cX10_make 98 = .ok (.iload_n 2, 1) := by decide +kernel
theorem dX10_make_99 : decode cX10_make 99 = .ok (.iload_n 3, 1) := by decide +kernel
theorem dX10_make_100 : decode cX10_make 100 = .ok (.if_icmp .ge 7, 3) := by decide +kernel
theorem dX10_make_103 : decode cX10_make 103 = .ok (.iconst 1, 1) := by decide +kernel
theorem dX10_make_104 : decode cX10_make 104 = .ok (.goto 4, 3) := by decide +kernel
theorem dX10_make_107 : decode cX10_make 107 = .ok (.iconst 0, 1) := by decide +kernel
theorem dX10_make_108 : decode cX10_make 108 = .ok (.ireturn, 1) := by decide +kernel
theorem dX10_make_109 : decode cX10_make 109 = .ok (.iload_n 2, 1) := by decide +kernel
theorem dX10_make_110 : decode cX10_make 110 = .ok (.iload_n 3, 1) := by decide +kernel
theorem dX10_make_111 : decode cX10_make 111 = .ok (.if_icmp .ne 7, 3) := by decide +kernel
theorem dX10_make_114 : decode cX10_make 114 = .ok (.iconst 1, 1) := by decide +kernel
theorem dX10_make_115 : decode cX10_make 115 = .ok (.goto 4, 3) := by decide +kernel
theorem dX10_make_118 : decode cX10_make 118 = .ok (.iconst 0, 1) := by decide +kernel
theorem dX10_make_119 : decode cX10_make 119 = .ok (.ireturn, 1) := by decide +kernel
theorem dX10_make_120 : decode cX10_make 120 = .ok (.iload_n 2, 1) := by decide +kernel
theorem dX10_make_121 : decode cX10_make 121 = .ok (.ifCond .ne 7, 3) := by decide +kernel
theorem dX10_make_124 : decode cX10_make 124 = .ok (.iconst 1, 1) := by decide +kernel
theorem dX10_make_125 : decode cX10_make 125 = .ok (.goto 4, 3) := by decide +kernel
theorem dX10_make_128 : decode cX10_make 128 = .ok (.iconst 0, 1) := by decide +kernel
theorem dX10_make_129 : decode cX10_make 129 = .ok (.ireturn, 1) := by decide +kernel
theorem dX10_make_130 : decode cX10_make 130 = .ok (.iload_n 3, 1) := by decide +kernel
theorem dX10_make_131 : decode cX10_make 131 = .ok (.ifCond .ne 11, 3) := by decide +kernel
theorem dX10_make_134 : decode cX10_make 134 = .ok (.aload_n 0, 1) := by decide +kernel
theorem dX10_make_135 : decode cX10_make 135 = .ok (.bipush (-5), 2) := by decide +kernel
theorem dX10_make_137 : decode cX10_make 137 = .ok (.putfield 146, 3) := by decide +kernel
theorem dX10_make_140 : decode cX10_make 140 = .ok (.iconst 0, 1) := by decide +kernel
theorem dX10_make_141 : decode cX10_make 141 = .ok (.ireturn, 1) := by decide +kernel
theorem dX10_make_142 : decode cX10_make 142 = .ok (.iload_n 1, 1) := by decide +kernel
theorem dX10_make_143 : decode cX10_make 143 = .ok (.bipush 33, 2) := by decide +kernel
theorem dX10_make_145 : decode cX10_make 145 = .ok (.if_icmp .ne 19, 3) := by decide +kernel
theorem dX10_make_148 : decode cX10_make 148 = .ok (.iload_n 3, 1) := by decide +kernel
theorem dX10_make_149 : decode cX10_make 149 = .ok (.iconst (-1), 1) := by decide +kernel
theorem dX10_make_150 : decode cX10_make 150 = .ok (.if_icmp .ne 8, 3) := by decide +kernel
theorem dX10_make_153 : decode cX10_make 153 = .ok (.iload_n 2, 1) := by decide +kernel
theorem dX10_make_154 : decode cX10_make 154 = .ok (.ineg, 1) := by decide +kernel
theorem dX10_make_155 : decode cX10_make 155 = .ok (.goto 21, 3) := by decide +kernel
theorem dX10_make_158 : decode cX10_make 158 = .ok (.iload_n 2, 1) := by decide +kernel
theorem dX10_make_159 : decode cX10_make 159 = .ok (.iload_n 3, 1) := by decide +kernel
theorem dX10_make_160 : decode cX10_make 160 = .ok (.idiv, 1) := by decide +kernel
theorem dX10_make_161 : decode cX10_make 161 = .ok (.goto 15, 3) := by decide +kernel
theorem dX10_make_164 : decode cX10_make 164 = .ok (.iload_n 3, 1) := by decide +kernel
theorem dX10_make_165 : decode cX10_make 165 = .ok (.iconst (-1), 1) := by decide +kernel
theorem dX10_make_166 : decode cX10_make 166 = .ok (.if_icmp .ne 7, 3) := by decide +kernel
theorem dX10_make_169 : decode cX10_make 169 = .ok (.iconst 0, 1) := by decide +kernel
theorem dX10_make_170 : decode cX10_make 170 = .ok (.goto 6, 3) := by decide +kernel
theorem dX10_make_173 : decode cX10_make 173 = .ok (.iload_n 2, 1) := by decide +kernel
theorem dX10_make_174 : decode cX10_make 174 = .ok (.iload_n 3, 1) := by decide +kernel
theorem dX10_make_175 : decode cX10_make 175 = .ok (.irem, 1) := by decide +kernel
theorem dX10_make_176 : decode cX10_make 176 = .ok (.ireturn, 1) := by decide +kernel
theorem dX10_tell_0 : decode cX10_tell 0 = .ok (.aload_n 0, 1) := by decide +kernel
theorem dX10_tell_1 : decode cX10_tell 1 = .ok (.getfield 149, 3) := by decide +kernel
theorem dX10_tell_4 : decode cX10_tell 4 = .ok (.sipush 300, 3) := by decide +kernel
theorem dX10_tell_7 : decode cX10_tell 7 = .ok (.if_icmp .ge 13, 3) := by decide +kernel
theorem dX10_tell_10 : decode cX10_tell 10 = .ok (.aload_n 0, 1) := by decide +kernel
theorem dX10_tell_11 : decode cX10_tell 11 = .ok (.getfield 39, 3) := by decide +kernel
theorem dX10_tell_14 : decode cX10_tell 14 = .ok (.aload_n 0, 1) := by decide +kernel
theorem dX10_tell_15 : decode cX10_tell 15 = .ok (.getfield 149, 3) := by decide +kernel
theorem dX10_tell_18 : decode cX10_tell 18 = .ok (.iload_n 1, 1) := by decide +kernel
theorem dX10_tell_19 : decode cX10_tell 19 = .ok (.iastore, 1) := by decide +kernel
theorem dX10_tell_20 : decode cX10_tell 20 = .ok (.aload_n 0, 1) := by decide +kernel
theorem dX10_tell_21 : decode cX10_tell 21 = .ok (.dup, 1) := by decide +kernel
theorem dX10_tell_22 : decode cX10_tell 22 = .ok (.getfield 149, 3) := by decide +kernel
theorem dX10_tell_25 : decode cX10_tell 25 = .ok (.iconst 1, 1) := by decide +kernel
theorem dX10_tell_26 : decode cX10_tell 26 = .ok (.iadd, 1) := by decide +kernel
theorem dX10_tell_27 : decode cX10_tell 27 = .ok (.putfield 149, 3) := by decide +kernel
theorem dX10_tell_30 : decode cX10_tell 30 = .ok (.return_, 1) := by decide +kernel
theorem dX10_see_0 : decode cX10_see 0 = .ok (.aload_n 0, 1) := by decide +kernel
theorem dX10_see_1 : decode cX10_see 1 = .ok (.getfield 152, 3) := by decide +kernel
theorem dX10_see_4 : decode cX10_see 4 = .ok (.sipush 5000, 3) := by decide +kernel
theorem dX10_see_7 : decode cX10_see 7 = .ok (.if_icmp .ge 13, 3) := by decide +kernel
theorem dX10_see_10 : decode cX10_see 10 = .ok (.aload_n 0, 1) := by decide +kernel
theorem dX10_see_11 : decode cX10_see 11 = .ok (.getfield 42, 3) := by decide +kernel
theorem dX10_see_14 : decode cX10_see 14 = .ok (.aload_n 0, 1) := by decide +kernel
theorem dX10_see_15 : decode cX10_see 15 = .ok (.getfield 152, 3) := by decide +kernel
theorem dX10_see_18 : decode cX10_see 18 = .ok (.iload_n 1, 1) := by decide +kernel
theorem dX10_see_19 : decode cX10_see 19 = .ok (.iastore, 1) := by decide +kernel
theorem dX10_see_20 : decode cX10_see 20 = .ok (.aload_n 0, 1) := by decide +kernel
theorem dX10_see_21 : decode cX10_see 21 = .ok (.dup, 1) := by decide +kernel
theorem dX10_see_22 : decode cX10_see 22 = .ok (.getfield 152, 3) := by decide +kernel
theorem dX10_see_25 : decode cX10_see 25 = .ok (.iconst 1, 1) := by decide +kernel
theorem dX10_see_26 : decode cX10_see 26 = .ok (.iadd, 1) := by decide +kernel
theorem dX10_see_27 : decode cX10_see 27 = .ok (.putfield 152, 3) := by decide +kernel
theorem dX10_see_30 : decode cX10_see 30 = .ok (.aload_n 0, 1) := by decide +kernel
theorem dX10_see_31 : decode cX10_see 31 = .ok (.ldc2_w 155, 3) := by decide +kernel
theorem dX10_see_34 : decode cX10_see 34 = .ok (.aload_n 0, 1) := by decide +kernel
theorem dX10_see_35 : decode cX10_see 35 = .ok (.getfield 157, 3) := by decide +kernel
theorem dX10_see_38 : decode cX10_see 38 = .ok (.lmul, 1) := by decide +kernel
theorem dX10_see_39 : decode cX10_see 39 = .ok (.iload_n 1, 1) := by decide +kernel
theorem dX10_see_40 : decode cX10_see 40 = .ok (.i2l, 1) := by decide +kernel
theorem dX10_see_41 : decode cX10_see 41 = .ok (.ladd, 1) := by decide +kernel
theorem dX10_see_42 : decode cX10_see 42 = .ok (.putfield 157, 3) := by decide +kernel
theorem dX10_see_45 : decode cX10_see 45 = .ok (.return_, 1) := by decide +kernel
theorem dX10_push_0 : decode cX10_push 0 = .ok (.aload_n 0, 1) := by decide +kernel
theorem dX10_push_1 : decode cX10_push 1 = .ok (.getfield 45, 3) := by decide +kernel
theorem dX10_push_4 : decode cX10_push 4 = .ok (.aload_n 0, 1) := by decide +kernel
theorem dX10_push_5 : decode cX10_push 5 = .ok (.getfield 161, 3) := by decide +kernel
theorem dX10_push_8 : decode cX10_push 8 = .ok (.iload_n 1, 1) := by decide +kernel
theorem dX10_push_9 : decode cX10_push 9 = .ok (.iastore, 1) := by decide +kernel
theorem dX10_push_10 : decode cX10_push 10 = .ok (.aload_n 0, 1) := by decide +kernel
theorem dX10_push_11 : decode cX10_push 11 = .ok (.dup, 1) := by decide +kernel
theorem dX10_push_12 : decode cX10_push 12 = .ok (.getfield 161, 3) := by decide +kernel
theorem dX10_push_15 : decode cX10_push 15 = .ok (.iconst 1, 1) := by decide +kernel
theorem dX10_push_16 : decode cX10_push 16 = .ok (.iadd, 1) := by decide +kernel
theorem dX10_push_17 : decode cX10_push 17 = .ok (.putfield 161, 3) := by decide +kernel
theorem dX10_push_20 : decode cX10_push 20 = .ok (.return_, 1) := by decide +kernel
theorem dX10_pop_0 : decode cX10_pop 0 = .ok (.aload_n 0, 1) := by decide +kernel
theorem dX10_pop_1 : decode cX10_pop 1 = .ok (.dup, 1) := by decide +kernel
theorem dX10_pop_2 : decode cX10_pop 2 = .ok (.getfield 161, 3) := by decide +kernel
theorem dX10_pop_5 : decode cX10_pop 5 = .ok (.iconst 1, 1) := by decide +kernel
theorem dX10_pop_6 : decode cX10_pop 6 = .ok (.isub, 1) := by decide +kernel
theorem dX10_pop_7 : decode cX10_pop 7 = .ok (.putfield 161, 3) := by decide +kernel
theorem dX10_pop_10 : decode cX10_pop 10 = .ok (.aload_n 0, 1) := by decide +kernel
theorem dX10_pop_11 : decode cX10_pop 11 = .ok (.getfield 45, 3) := by decide +kernel
theorem dX10_pop_14 : decode cX10_pop 14 = .ok (.aload_n 0, 1) := by decide +kernel
theorem dX10_pop_15 : decode cX10_pop 15 = .ok (.getfield 161, 3) := by decide +kernel
theorem dX10_pop_18 : decode cX10_pop 18 = .ok (.iaload, 1) := by decide +kernel
theorem dX10_pop_19 : decode cX10_pop 19 = .ok (.ireturn, 1) := by decide +kernel
theorem dX10_run_0 : decode cX10_run 0 = .ok (.aload_n 0, 1) := by decide +kernel
theorem dX10_run_1 : decode cX10_run 1 = .ok (.getfield 58, 3) := by decide +kernel
theorem dX10_run_4 : decode cX10_run 4 = .ok (.ifCond .ne 6, 3) := by decide +kernel
theorem dX10_run_7 : decode cX10_run 7 = .ok (.bipush (-2), 2) := by decide +kernel
theorem dX10_run_9 : decode cX10_run 9 = .ok (.ireturn, 1) := by decide +kernel
theorem dX10_run_10 : decode cX10_run 10 = .ok (.aload_n 0, 1) := by decide +kernel
theorem dX10_run_11 : decode cX10_run 11 = .ok (.iconst 0, 1) := by decide +kernel
theorem dX10_run_12 : decode cX10_run 12 = .ok (.putfield 149, 3) := by decide +kernel
theorem dX10_run_15 : decode cX10_run 15 = .ok (.aload_n 0, 1) := by decide +kernel
theorem dX10_run_16 : decode cX10_run 16 = .ok (.iconst 0, 1) := by decide +kernel
theorem dX10_run_17 : decode cX10_run 17 = .ok (.putfield 152, 3) := by decide +kernel
theorem dX10_run_20 : decode cX10_run 20 = .ok (.aload_n 0, 1) := by decide +kernel
theorem dX10_run_21 : decode cX10_run 21 = .ok (.lconst 0, 1) := by decide +kernel
theorem dX10_run_22 : decode cX10_run 22 = .ok (.putfield 157, 3) := by decide +kernel
theorem dX10_run_25 : decode cX10_run 25 = .ok (.aload_n 0, 1) := by decide +kernel
theorem dX10_run_26 : decode cX10_run 26 = .ok (.iconst 0, 1) := by decide +kernel
theorem dX10_run_27 : decode cX10_run 27 = .ok (.putfield 161, 3) := by decide +kernel
theorem dX10_run_30 : decode cX10_run 30 = .ok (.iconst 0, 1) := by decide +kernel
theorem dX10_run_31 : decode cX10_run 31 = .ok (.istore_n 1, 1) := by decide +kernel
theorem dX10_run_32 : decode cX10_run 32 = .ok (.iload_n 1, 1) := by decide +kernel
theorem dX10_run_33 : decode cX10_run 33 = .ok (.bipush 14, 2) := by decide +kernel
theorem dX10_run_35 : decode cX10_run 35 = .ok (.if_icmp .ge 31, 3) := by decide +kernel
theorem dX10_run_38 : decode cX10_run 38 = .ok (.aload_n 0, 1) := by decide +kernel
theorem dX10_run_39 : decode cX10_run 39 = .ok (.getfield 48, 3) := by decide +kernel
theorem dX10_run_42 : decode cX10_run 42 = .ok (.iload_n 1, 1) := by decide +kernel
theorem dX10_run_43 : decode cX10_run 43 = .ok (.iload_n 1, 1) := by decide +kernel
theorem dX10_run_44 : decode cX10_run 44 = .ok (.ifCond .ne 7, 3) := by decide +kernel
theorem dX10_run_47 : decode cX10_run 47 = .ok (.iconst (-1), 1) := by decide +kernel
theorem dX10_run_48 : decode cX10_run 48 = .ok (.goto 4, 3) := by decide +kernel
theorem dX10_run_51 : decode cX10_run 51 = .ok (.iconst 0, 1) := by decide +kernel
theorem dX10_run_52 : decode cX10_run 52 = .ok (.iastore, 1) := by decide +kernel
theorem dX10_run_53 : decode cX10_run 53 = .ok (.aload_n 0, 1) := by decide +kernel
theorem dX10_run_54 : decode cX10_run 54 = .ok (.getfield 51, 3) := by decide +kernel
theorem dX10_run_57 : decode cX10_run 57 = .ok (.iload_n 1, 1) := by decide +kernel
theorem dX10_run_58 : decode cX10_run 58 = .ok (.iconst 0, 1) := by decide +kernel
theorem dX10_run_59 : decode cX10_run 59 = .ok (.iastore, 1) := by decide +kernel
theorem dX10_run_60 : decode cX10_run 60 = .ok (.iinc 1 1, 3) := by decide +kernel
theorem dX10_run_63 : decode cX10_run 63 = .ok (.goto (-31), 3) := by decide +kernel
theorem dX10_run_66 : decode cX10_run 66 = .ok (.aload_n 0, 1) := by decide +kernel
theorem dX10_run_67 : decode cX10_run 67 = .ok (.iconst 0, 1) := by decide +kernel
theorem dX10_run_68 : decode cX10_run 68 = .ok (.putfield 146, 3) := by decide +kernel
theorem dX10_run_71 : decode cX10_run 71 = .ok (.iconst 0, 1) := by decide +kernel
theorem dX10_run_72 : decode cX10_run 72 = .ok (.istore_n 1, 1) := by decide +kernel
theorem dX10_run_73 : decode cX10_run 73 = .ok (.iconst 0, 1) := by decide +kernel
theorem dX10_run_74 : decode cX10_run 74 = .ok (.istore_n 2, 1) := by decide +kernel
theorem dX10_run_75 : decode cX10_run 75 = .ok (.iload_n 1, 1) := by decide +kernel
theorem dX10_run_76 : decode cX10_run 76 = .ok (.sipush 20000, 3) := by decide +kernel
theorem dX10_run_79 : decode cX10_run 79 = .ok (.if_icmp .ne 6, 3) := by decide +kernel
theorem dX10_run_82 : decode cX10_run 82 = .ok (.bipush (-4), 2) := by decide +kernel
theorem dX10_run_84 : decode cX10_run 84 = .ok (.ireturn, 1) := by decide +kernel
theorem dX10_run_85 : decode cX10_run 85 = .ok (.iinc 1 1, 3) := by decide +kernel
theorem dX10_run_88 : decode cX10_run 88 = .ok (.aload_n 0, 1) := by decide +kernel
theorem dX10_run_89 : decode cX10_run 89 = .ok (.iload_n 2, 1) := by decide +kernel
theorem dX10_run_90 : decode cX10_run 90 = .ok (.invokevirtual 164, 3) := by decide +kernel
theorem dX10_run_93 : decode cX10_run 93 = .ok (.aload_n 0, 1) := by decide +kernel
theorem dX10_run_94 : decode cX10_run 94 = .ok (.getfield 32, 3) := by decide +kernel
theorem dX10_run_97 : decode cX10_run 97 = .ok (.iload_n 2, 1) := by decide +kernel
theorem dX10_run_98 : decode cX10_run 98 = .ok (.iaload, 1) := by decide +kernel
theorem dX10_run_99 : decode cX10_run 99 = .ok (.istore_n 3, 1) := by decide +kernel
theorem dX10_run_100 : decode cX10_run 100 = .ok (.iload_n 3, 1) := by decide +kernel
theorem dX10_run_101 : decode cX10_run 101 = .ok (.ifCond .ne 5, 3) := by decide +kernel
theorem dX10_run_104 : decode cX10_run 104 = .ok (.iload_n 1, 1) := by decide +kernel
theorem dX10_run_105 : decode cX10_run 105 = .ok (.ireturn, 1) := by decide +kernel
theorem dX10_run_106 : decode cX10_run 106 = .ok (.aload_n 0, 1) := by decide +kernel
theorem dX10_run_107 : decode cX10_run 107 = .ok (.iload_n 3, 1) := by decide +kernel
theorem dX10_run_108 : decode cX10_run 108 = .ok (.iload_n 2, 1) := by decide +kernel
theorem dX10_run_109 : decode cX10_run 109 = .ok (.invokevirtual 167, 3) := by decide +kernel
theorem dX10_run_112 : decode cX10_run 112 = .ok (.istore_n 2, 1) := by decide +kernel
theorem dX10_run_113 : decode cX10_run 113 = .ok (.aload_n 0, 1) := by decide +kernel
theorem dX10_run_114 : decode cX10_run 114 = .ok (.getfield 146, 3) := by decide +kernel
theorem dX10_run_117 : decode cX10_run 117 = .ok (.ifCond .eq 8, 3) := by decide +kernel
theorem dX10_run_120 : decode cX10_run 120 = .ok (.aload_n 0, 1) := by decide +kernel
theorem dX10_run_121 : decode cX10_run 121 = .ok (.getfield 146, 3) := by decide +kernel
theorem dX10_run_124 : decode cX10_run 124 = .ok (.ireturn, 1) := by decide +kernel
theorem dX10_run_125 : decode cX10_run 125 = .ok (.goto (-50), 3) := by decide +kernel
theorem dX10_step_0 : decode cX10_step 0 = .ok (.aload_n 0, 1) := by decide +kernel
theorem dX10_step_1 : decode cX10_step 1 = .ok (.getfield 32, 3) := by decide +kernel
theorem dX10_step_4 : decode cX10_step 4 = .ok (.iload_n 2, 1) := by decide +kernel
theorem dX10_step_5 : decode cX10_step 5 = .ok (.iconst 1, 1) := by decide +kernel
theorem dX10_step_6 : decode cX10_step 6 = .ok (.iadd, 1) := by decide +kernel
theorem dX10_step_7 : decode cX10_step 7 = .ok (.iaload, 1) := by decide +kernel
theorem dX10_step_8 : decode cX10_step 8 = .ok (.istore_n 3, 1) := by decide +kernel
theorem dX10_step_9 : decode cX10_step 9 = .ok (.iload_n 1, 1) := by decide +kernel
theorem dX10_step_10 : decode cX10_step 10 = .ok (.iconst 1, 1) := by decide +kernel
theorem dX10_step_11 : decode cX10_step 11 = .ok (.if_icmp .eq 14, 3) := by decide +kernel
theorem dX10_step_14 : decode cX10_step 14 = .ok (.iload_n 1, 1) := by decide +kernel
theorem dX10_step_15 : decode cX10_step 15 = .ok (.iconst 2, 1) := by decide +kernel
theorem dX10_step_16 : decode cX10_step 16 = .ok (.if_icmp .eq 9, 3) := by decide +kernel
theorem dX10_step_19 : decode cX10_step 19 = .ok (.iload_n 1, 1) := by decide +kernel
theorem dX10_step_20 : decode cX10_step 20 = .ok (.bipush 30, 2) := by decide +kernel
theorem dX10_step_22 : decode cX10_step 22 = .ok (.if_icmp .ne 40, 3) := by decide +kernel
theorem dX10_step_25 : decode cX10_step 25 = .ok (.aload_n 0, 1) := by decide +kernel
theorem dX10_step_26 : decode cX10_step 26 = .ok (.iload_n 1, 1) := by decide +kernel
theorem dX10_step_27 : decode cX10_step 27 = .ok (.iconst 1, 1) := by decide +kernel
theorem dX10_step_28 : decode cX10_step 28 = .ok (.if_icmp .ne 7, 3) := by decide +kernel
theorem dX10_step_31 : decode cX10_step 31 = .ok (.iload_n 3, 1) := by decide +kernel
theorem dX10_step_32 : decode cX10_step 32 = .ok (.goto 23, 3) := by decide +kernel
theorem dX10_step_35 : decode cX10_step 35 = .ok (.iload_n 1, 1) := by decide +kernel
theorem dX10_step_36 : decode cX10_step 36 = .ok (.iconst 2, 1) := by decide +kernel
theorem dX10_step_37 : decode cX10_step 37 = .ok (.if_icmp .ne 12, 3) := by decide +kernel
theorem dX10_step_40 : decode cX10_step 40 = .ok (.aload_n 0, 1) := by decide +kernel
theorem dX10_step_41 : decode cX10_step 41 = .ok (.getfield 20, 3) := by decide +kernel
theorem dX10_step_44 : decode cX10_step 44 = .ok (.iload_n 3, 1) := by decide +kernel
theorem dX10_step_45 : decode cX10_step 45 = .ok (.iaload, 1) := by decide +kernel
theorem dX10_step_46 : decode cX10_step 46 = .ok (.goto 9, 3) := by decide +kernel
theorem dX10_step_49 : decode cX10_step 49 = .ok (.aload_n 0, 1) := by decide +kernel
theorem dX10_step_50 : decode cX10_step 50 = .ok (.getfield 51, 3) := by decide +kernel
theorem dX10_step_53 : decode cX10_step 53 = .ok (.iload_n 3, 1) := by decide +kernel
theorem dX10_step_54 : decode cX10_step 54 = .ok (.iaload, 1) := by decide +kernel
theorem dX10_step_55 : decode cX10_step 55 = .ok (.invokevirtual 171, 3) := by decide +kernel
theorem dX10_step_58 : decode cX10_step 58 = .ok (.iload_n 2, 1) := by decide +kernel
theorem dX10_step_59 : decode cX10_step 59 = .ok (.iconst 2, 1) := by decide +kernel
theorem dX10_step_60 : decode cX10_step 60 = .ok (.iadd, 1) := by decide +kernel
theorem dX10_step_61 : decode cX10_step 61 = .ok (.ireturn, 1) := by decide +kernel
theorem dX10_step_62 : decode cX10_step 62 = .ok (.iload_n 1, 1) := by decide +kernel
theorem dX10_step_63 : decode cX10_step 63 = .ok (.iconst 3, 1) := by decide +kernel
theorem dX10_step_64 : decode cX10_step 64 = .ok (.if_icmp .ne 17, 3) := by decide +kernel
theorem dX10_step_67 : decode cX10_step 67 = .ok (.aload_n 0, 1) := by decide +kernel
theorem dX10_step_68 : decode cX10_step 68 = .ok (.getfield 20, 3) := by decide +kernel
theorem dX10_step_71 : decode cX10_step 71 = .ok (.iload_n 3, 1) := by decide +kernel
theorem dX10_step_72 : decode cX10_step 72 = .ok (.aload_n 0, 1) := by decide +kernel
theorem dX10_step_73 : decode cX10_step 73 = .ok (.invokevirtual 174, 3) := by decide +kernel
theorem dX10_step_76 : decode cX10_step 76 = .ok (.iastore, 1) := by decide +kernel
theorem dX10_step_77 : decode cX10_step 77 = .ok (.iload_n 2, 1) := by decide +kernel
theorem dX10_step_78 : decode cX10_step 78 = .ok (.iconst 2, 1) := by decide +kernel
theorem dX10_step_79 : decode cX10_step 79 = .ok (.iadd, 1) := by decide +kernel
theorem dX10_step_80 : decode cX10_step 80 = .ok (.ireturn, 1) := by decide +kernel
theorem dX10_step_81 : decode cX10_step 81 = .ok (.iload_n 1, 1) := by decide +kernel
theorem dX10_step_82 : decode cX10_step 82 = .ok (.bipush 17, 2) := by decide +kernel
theorem dX10_step_84 : decode cX10_step 84 = .ok (.if_icmp .ge 45, 3) := by decide +kernel
theorem dX10_step_87 : decode cX10_step 87 = .ok (.iload_n 1, 1) := by decide +kernel
theorem dX10_step_88 : decode cX10_step 88 = .ok (.bipush 14, 2) := by decide +kernel
theorem dX10_step_90 : decode cX10_step 90 = .ok (.if_icmp .ne 7, 3) := by decide +kernel
theorem dX10_step_93 : decode cX10_step 93 = .ok (.iconst 0, 1) := by decide +kernel
theorem dX10_step_94 : decode cX10_step 94 = .ok (.goto 7, 3) := by decide +kernel
theorem dX10_step_97 : decode cX10_step 97 = .ok (.aload_n 0, 1) := by decide +kernel
theorem dX10_step_98 : decode cX10_step 98 = .ok (.invokevirtual 174, 3) := by decide +kernel
theorem dX10_step_101 : decode cX10_step 101 = .ok (.istore 4, 2) := by decide +kernel
theorem dX10_step_103 : decode cX10_step 103 = .ok (.aload_n 0, 1) := by decide +kernel
theorem dX10_step_104 : decode cX10_step 104 = .ok (.invokevirtual 174, 3) := by decide +kernel
theorem dX10_step_107 : decode cX10_step 107 = .ok (.istore 5, 2) := by decide +kernel
theorem dX10_step_109 : decode cX10_step 109 = .ok (.aload_n 0, 1) := by decide +kernel
theorem dX10_step_110 : decode cX10_step 110 = .ok (.aload_n 0, 1) := by decide +kernel
theorem dX10_step_111 : decode cX10_step 111 = .ok (.iload_n 1, 1) := by decide +kernel
theorem dX10_step_112 : decode cX10_step 112 = .ok (.bipush 18, 2) := by decide +kernel
theorem dX10_step_114 : decode cX10_step 114 = .ok (.iadd, 1) := by decide +kernel
theorem dX10_step_115 : decode cX10_step 115 = .ok (.iload 5, 2) := by decide +kernel
theorem dX10_step_117 : decode cX10_step 117 = .ok (.iload 4, 2) := by decide +kernel
theorem dX10_step_119 : decode cX10_step 119 = .ok (.invokevirtual 177, 3) := by decide +kernel
theorem dX10_step_122 : decode cX10_step 122 = .ok (.invokevirtual 171, 3) := by decide +kernel
theorem dX10_step_125 : decode cX10_step 125 = .ok (.iload_n 2, 1) := by decide +kernel
theorem dX10_step_126 : decode cX10_step 126 = .ok (.iconst 1, 1) := by decide +kernel
theorem dX10_step_127 : decode cX10_step 127 = .ok (.iadd, 1) := by decide +kernel
theorem dX10_step_128 : decode cX10_step 128 = .ok (.ireturn, 1) := by decide +kernel
theorem dX10_step_129 : decode cX10_step 129 = .ok (.iload_n 1, 1) := by decide +kernel
theorem dX10_step_130 : decode cX10_step 130 = .ok (.tableswitch 388 17 29 #[66, 104, 106, 121, 133, 215, 272, 301, 328, 226, 179, 249, 377], 66) := by decide +kernel
theorem dX10_step_196 : decode cX10_step 196 = .ok (.aload_n 0, 1) := by decide +kernel
theorem dX10_step_197 : decode cX10_step 197 = .ok (.invokevirtual 174, 3) := by decide +kernel
theorem dX10_step_200 : decode cX10_step 200 = .ok (.istore 4, 2) := by decide +kernel
theorem dX10_step_202 : decode cX10_step 202 = .ok (.aload_n 0, 1) := by decide +kernel
theorem dX10_step_203 : decode cX10_step 203 = .ok (.invokevirtual 174, 3) := by decide +kernel
theorem dX10_step_206 : decode cX10_step 206 = .ok (.istore 5, 2) := by decide +kernel
theorem dX10_step_208 : decode cX10_step 208 = .ok (.aload_n 0, 1) := by decide +kernel
theorem dX10_step_209 : decode cX10_step 209 = .ok (.invokevirtual 174, 3) := by decide +kernel
theorem dX10_step_212 : decode cX10_step 212 = .ok (.istore 6, 2) := by decide +kernel
theorem dX10_step_214 : decode cX10_step 214 = .ok (.aload_n 0, 1) := by decide +kernel
theorem dX10_step_215 : decode cX10_step 215 = .ok (.iload 6, 2) := by decide +kernel
theorem dX10_step_217 : decode cX10_step 217 = .ok (.ifCond .eq 8, 3) := by decide +kernel
theorem dX10_step_220 : decode cX10_step 220 = .ok (.iload 5, 2) := by decide +kernel
theorem dX10_step_222 : decode cX10_step 222 = .ok (.goto 5, 3) := by decide +kernel
theorem dX10_step_225 : decode cX10_step 225 = .ok (.iload 4, 2) := by decide +kernel
theorem dX10_step_227 : decode cX10_step 227 = .ok (.invokevirtual 171, 3) := by decide +kernel
theorem dX10_step_230 : decode cX10_step 230 = .ok (.iload_n 2, 1) := by decide +kernel
theorem dX10_step_231 : decode cX10_step 231 = .ok (.iconst 1, 1) := by decide +kernel
theorem dX10_step_232 : decode cX10_step 232 = .ok (.iadd, 1) := by decide +kernel
theorem dX10_step_233 : decode cX10_step 233 = .ok (.ireturn, 1) := by decide +kernel
theorem dX10_step_234 : decode cX10_step 234 = .ok (.iload_n 3, 1) := by decide +kernel
theorem dX10_step_235 : decode cX10_step 235 = .ok (.ireturn, 1) := by decide +kernel
theorem dX10_step_236 : decode cX10_step 236 = .ok (.aload_n 0, 1) := by decide +kernel
theorem dX10_step_237 : decode cX10_step 237 = .ok (.invokevirtual 174, 3) := by decide +kernel
theorem dX10_step_240 : decode cX10_step 240 = .ok (.ifCond .ne 7, 3) := by decide +kernel
theorem dX10_step_243 : decode cX10_step 243 = .ok (.iload_n 3, 1) := by decide +kernel
theorem dX10_step_244 : decode cX10_step 244 = .ok (.goto 6, 3) := by decide +kernel
theorem dX10_step_247 : decode cX10_step 247 = .ok (.iload_n 2, 1) := by decide +kernel
theorem dX10_step_248 : decode cX10_step 248 = .ok (.iconst 2, 1) := by decide +kernel
theorem dX10_step_249 : decode cX10_step 249 = .ok (.iadd, 1) := by decide +kernel
theorem dX10_step_250 : decode cX10_step 250 = .ok (.ireturn, 1) := by decide +kernel
theorem dX10_step_251 : decode cX10_step 251 = .ok (.aload_n 0, 1) := by decide +kernel
theorem dX10_step_252 : decode cX10_step 252 = .ok (.aload_n 0, 1) := by decide +kernel
theorem dX10_step_253 : decode cX10_step 253 = .ok (.invokevirtual 174, 3) := by decide +kernel
theorem dX10_step_256 : decode cX10_step 256 = .ok (.invokevirtual 180, 3) := by decide +kernel
theorem dX10_step_259 : decode cX10_step 259 = .ok (.iload_n 2, 1) := by decide +kernel
theorem dX10_step_260 : decode cX10_step 260 = .ok (.iconst 1, 1) := by decide +kernel
theorem dX10_step_261 : decode cX10_step 261 = .ok (.iadd, 1) := by decide +kernel
theorem dX10_step_262 : decode cX10_step 262 = .ok (.ireturn, 1) := by decide +kernel
theorem dX10_step_263 : decode cX10_step 263 = .ok (.aload_n 0, 1) := by decide +kernel
theorem dX10_step_264 : decode cX10_step 264 = .ok (.iload_n 3, 1) := by decide +kernel
theorem dX10_step_265 : decode cX10_step 265 = .ok (.aload_n 0, 1) := by decide +kernel
theorem dX10_step_266 : decode cX10_step 266 = .ok (.invokevirtual 174, 3) := by decide +kernel
theorem dX10_step_269 : decode cX10_step 269 = .ok (.invokevirtual 183, 3) := by decide +kernel
theorem dX10_step_272 : decode cX10_step 272 = .ok (.istore 4, 2) := by decide +kernel
theorem dX10_step_274 : decode cX10_step 274 = .ok (.aload_n 0, 1) := by decide +kernel
theorem dX10_step_275 : decode cX10_step 275 = .ok (.sipush 4096, 3) := by decide +kernel
theorem dX10_step_278 : decode cX10_step 278 = .ok (.bipush 16, 2) := by decide +kernel
theorem dX10_step_280 : decode cX10_step 280 = .ok (.iload_n 3, 1) := by decide +kernel
theorem dX10_step_281 : decode cX10_step 281 = .ok (.imul, 1) := by decide +kernel
theorem dX10_step_282 : decode cX10_step 282 = .ok (.iadd, 1) := by decide +kernel
theorem dX10_step_283 : decode cX10_step 283 = .ok (.iload 4, 2) := by decide +kernel
theorem dX10_step_285 : decode cX10_step 285 = .ok (.iadd, 1) := by decide +kernel
theorem dX10_step_286 : decode cX10_step 286 = .ok (.invokevirtual 164, 3) := by decide +kernel
theorem dX10_step_289 : decode cX10_step 289 = .ok (.aload_n 0, 1) := by decide +kernel
theorem dX10_step_290 : decode cX10_step 290 = .ok (.aload_n 0, 1) := by decide +kernel
theorem dX10_step_291 : decode cX10_step 291 = .ok (.getfield 23, 3) := by decide +kernel
theorem dX10_step_294 : decode cX10_step 294 = .ok (.bipush 16, 2) := by decide +kernel
theorem dX10_step_296 : decode cX10_step 296 = .ok (.iload_n 3, 1) := by decide +kernel
theorem dX10_step_297 : decode cX10_step 297 = .ok (.imul, 1) := by decide +kernel
theorem dX10_step_298 : decode cX10_step 298 = .ok (.iload 4, 2) := by decide +kernel
theorem dX10_step_300 : decode cX10_step 300 = .ok (.iadd, 1) := by decide +kernel
theorem dX10_step_301 : decode cX10_step 301 = .ok (.iaload, 1) := by decide +kernel
theorem dX10_step_302 : decode cX10_step 302 = .ok (.invokevirtual 171, 3) := by decide +kernel
theorem dX10_step_305 : decode cX10_step 305 = .ok (.iload_n 2, 1) := by decide +kernel
theorem dX10_step_306 : decode cX10_step 306 = .ok (.iconst 2, 1) := by decide +kernel
theorem dX10_step_307 : decode cX10_step 307 = .ok (.iadd, 1) := by decide +kernel
theorem dX10_step_308 : decode cX10_step 308 = .ok (.ireturn, 1) := by decide +kernel
theorem dX10_step_309 : decode cX10_step 309 = .ok (.aload_n 0, 1) := by decide +kernel
theorem dX10_step_310 : decode cX10_step 310 = .ok (.iload_n 3, 1) := by decide +kernel
theorem dX10_step_311 : decode cX10_step 311 = .ok (.aload_n 0, 1) := by decide +kernel
theorem dX10_step_312 : decode cX10_step 312 = .ok (.invokevirtual 174, 3) := by decide +kernel
theorem dX10_step_315 : decode cX10_step 315 = .ok (.invokevirtual 183, 3) := by decide +kernel
theorem dX10_step_318 : decode cX10_step 318 = .ok (.istore 4, 2) := by decide +kernel
theorem dX10_step_320 : decode cX10_step 320 = .ok (.aload_n 0, 1) := by decide +kernel
theorem dX10_step_321 : decode cX10_step 321 = .ok (.iload_n 3, 1) := by decide +kernel
theorem dX10_step_322 : decode cX10_step 322 = .ok (.invokevirtual 186, 3) := by decide +kernel
theorem dX10_step_325 : decode cX10_step 325 = .ok (.aload_n 0, 1) := by decide +kernel
theorem dX10_step_326 : decode cX10_step 326 = .ok (.aload_n 0, 1) := by decide +kernel
theorem dX10_step_327 : decode cX10_step 327 = .ok (.getfield 23, 3) := by decide +kernel
theorem dX10_step_330 : decode cX10_step 330 = .ok (.bipush 16, 2) := by decide +kernel
theorem dX10_step_332 : decode cX10_step 332 = .ok (.iload_n 3, 1) := by decide +kernel
theorem dX10_step_333 : decode cX10_step 333 = .ok (.imul, 1) := by decide +kernel
theorem dX10_step_334 : decode cX10_step 334 = .ok (.iload 4, 2) := by decide +kernel
theorem dX10_step_336 : decode cX10_step 336 = .ok (.iadd, 1) := by decide +kernel
theorem dX10_step_337 : decode cX10_step 337 = .ok (.iaload, 1) := by decide +kernel
theorem dX10_step_338 : decode cX10_step 338 = .ok (.invokevirtual 171, 3) := by decide +kernel
theorem dX10_step_341 : decode cX10_step 341 = .ok (.iload_n 2, 1) := by decide +kernel
theorem dX10_step_342 : decode cX10_step 342 = .ok (.iconst 2, 1) := by decide +kernel
theorem dX10_step_343 : decode cX10_step 343 = .ok (.iadd, 1) := by decide +kernel
theorem dX10_step_344 : decode cX10_step 344 = .ok (.ireturn, 1) := by decide +kernel
theorem dX10_step_345 : decode cX10_step 345 = .ok (.aload_n 0, 1) := by decide +kernel
theorem dX10_step_346 : decode cX10_step 346 = .ok (.iconst (-1), 1) := by decide +kernel
theorem dX10_step_347 : decode cX10_step 347 = .ok (.iload_n 3, 1) := by decide +kernel
theorem dX10_step_348 : decode cX10_step 348 = .ok (.iconst 0, 1) := by decide +kernel
theorem dX10_step_349 : decode cX10_step 349 = .ok (.invokevirtual 189, 3) := by decide +kernel
theorem dX10_step_352 : decode cX10_step 352 = .ok (.iload_n 2, 1) := by decide +kernel
theorem dX10_step_353 : decode cX10_step 353 = .ok (.iconst 2, 1) := by decide +kernel
theorem dX10_step_354 : decode cX10_step 354 = .ok (.iadd, 1) := by decide +kernel
theorem dX10_step_355 : decode cX10_step 355 = .ok (.ireturn, 1) := by decide +kernel
theorem dX10_step_356 : decode cX10_step 356 = .ok (.aload_n 0, 1) := by decide +kernel
theorem dX10_step_357 : decode cX10_step 357 = .ok (.aload_n 0, 1) := by decide +kernel
theorem dX10_step_358 : decode cX10_step 358 = .ok (.getfield 48, 3) := by decide +kernel
theorem dX10_step_361 : decode cX10_step 361 = .ok (.iload_n 3, 1) := by decide +kernel
theorem dX10_step_362 : decode cX10_step 362 = .ok (.iaload, 1) := by decide +kernel
theorem dX10_step_363 : decode cX10_step 363 = .ok (.aload_n 0, 1) := by decide +kernel
theorem dX10_step_364 : decode cX10_step 364 = .ok (.getfield 32, 3) := by decide +kernel
theorem dX10_step_367 : decode cX10_step 367 = .ok (.iload_n 2, 1) := by decide +kernel
theorem dX10_step_368 : decode cX10_step 368 = .ok (.iconst 2, 1) := by decide +kernel
theorem dX10_step_369 : decode cX10_step 369 = .ok (.iadd, 1) := by decide +kernel
theorem dX10_step_370 : decode cX10_step 370 = .ok (.iaload, 1) := by decide +kernel
theorem dX10_step_371 : decode cX10_step 371 = .ok (.iconst 0, 1) := by decide +kernel
theorem dX10_step_372 : decode cX10_step 372 = .ok (.invokevirtual 189, 3) := by decide +kernel
theorem dX10_step_375 : decode cX10_step 375 = .ok (.iload_n 2, 1) := by decide +kernel
theorem dX10_step_376 : decode cX10_step 376 = .ok (.iconst 3, 1) := by decide +kernel
theorem dX10_step_377 : decode cX10_step 377 = .ok (.iadd, 1) := by decide +kernel
theorem dX10_step_378 : decode cX10_step 378 = .ok (.ireturn, 1) := by decide +kernel
theorem dX10_step_379 : decode cX10_step 379 = .ok (.aload_n 0, 1) := by decide +kernel
theorem dX10_step_380 : decode cX10_step 380 = .ok (.aload_n 0, 1) := by decide +kernel
theorem dX10_step_381 : decode cX10_step 381 = .ok (.getfield 48, 3) := by decide +kernel
theorem dX10_step_384 : decode cX10_step 384 = .ok (.iload_n 3, 1) := by decide +kernel
theorem dX10_step_385 : decode cX10_step 385 = .ok (.iaload, 1) := by decide +kernel
theorem dX10_step_386 : decode cX10_step 386 = .ok (.aload_n 0, 1) := by decide +kernel
theorem dX10_step_387 : decode cX10_step 387 = .ok (.getfield 32, 3) := by decide +kernel
theorem dX10_step_390 : decode cX10_step 390 = .ok (.iload_n 2, 1) := by decide +kernel
theorem dX10_step_391 : decode cX10_step 391 = .ok (.iconst 2, 1) := by decide +kernel
theorem dX10_step_392 : decode cX10_step 392 = .ok (.iadd, 1) := by decide +kernel
theorem dX10_step_393 : decode cX10_step 393 = .ok (.iaload, 1) := by decide +kernel
theorem dX10_step_394 : decode cX10_step 394 = .ok (.iconst 1, 1) := by decide +kernel
theorem dX10_step_395 : decode cX10_step 395 = .ok (.invokevirtual 189, 3) := by decide +kernel
theorem dX10_step_398 : decode cX10_step 398 = .ok (.iload_n 2, 1) := by decide +kernel
theorem dX10_step_399 : decode cX10_step 399 = .ok (.iconst 3, 1) := by decide +kernel
theorem dX10_step_400 : decode cX10_step 400 = .ok (.iadd, 1) := by decide +kernel
theorem dX10_step_401 : decode cX10_step 401 = .ok (.ireturn, 1) := by decide +kernel
theorem dX10_step_402 : decode cX10_step 402 = .ok (.aload_n 0, 1) := by decide +kernel
theorem dX10_step_403 : decode cX10_step 403 = .ok (.getfield 48, 3) := by decide +kernel
theorem dX10_step_406 : decode cX10_step 406 = .ok (.iload_n 3, 1) := by decide +kernel
theorem dX10_step_407 : decode cX10_step 407 = .ok (.aload_n 0, 1) := by decide +kernel
theorem dX10_step_408 : decode cX10_step 408 = .ok (.invokevirtual 174, 3) := by decide +kernel
theorem dX10_step_411 : decode cX10_step 411 = .ok (.ifCond .eq 14, 3) := by decide +kernel
theorem dX10_step_414 : decode cX10_step 414 = .ok (.aload_n 0, 1) := by decide +kernel
theorem dX10_step_415 : decode cX10_step 415 = .ok (.getfield 48, 3) := by decide +kernel
theorem dX10_step_418 : decode cX10_step 418 = .ok (.iload_n 3, 1) := by decide +kernel
theorem dX10_step_419 : decode cX10_step 419 = .ok (.iconst 1, 1) := by decide +kernel
theorem dX10_step_420 : decode cX10_step 420 = .ok (.isub, 1) := by decide +kernel
theorem dX10_step_421 : decode cX10_step 421 = .ok (.iaload, 1) := by decide +kernel
theorem dX10_step_422 : decode cX10_step 422 = .ok (.goto 4, 3) := by decide +kernel
theorem dX10_step_425 : decode cX10_step 425 = .ok (.iconst 0, 1) := by decide +kernel
theorem dX10_step_426 : decode cX10_step 426 = .ok (.iastore, 1) := by decide +kernel
theorem dX10_step_427 : decode cX10_step 427 = .ok (.iload_n 2, 1) := by decide +kernel
theorem dX10_step_428 : decode cX10_step 428 = .ok (.iconst 2, 1) := by decide +kernel
theorem dX10_step_429 : decode cX10_step 429 = .ok (.iadd, 1) := by decide +kernel
theorem dX10_step_430 : decode cX10_step 430 = .ok (.ireturn, 1) := by decide +kernel
theorem dX10_step_431 : decode cX10_step 431 = .ok (.aload_n 0, 1) := by decide +kernel
theorem dX10_step_432 : decode cX10_step 432 = .ok (.getfield 48, 3) := by decide +kernel
theorem dX10_step_435 : decode cX10_step 435 = .ok (.iload_n 3, 1) := by decide +kernel
theorem dX10_step_436 : decode cX10_step 436 = .ok (.aload_n 0, 1) := by decide +kernel
theorem dX10_step_437 : decode cX10_step 437 = .ok (.getfield 48, 3) := by decide +kernel
theorem dX10_step_440 : decode cX10_step 440 = .ok (.iload_n 3, 1) := by decide +kernel
theorem dX10_step_441 : decode cX10_step 441 = .ok (.iconst 1, 1) := by decide +kernel
theorem dX10_step_442 : decode cX10_step 442 = .ok (.isub, 1) := by decide +kernel
theorem dX10_step_443 : decode cX10_step 443 = .ok (.iaload, 1) := by decide +kernel
theorem dX10_step_444 : decode cX10_step 444 = .ok (.aload_n 0, 1) := by decide +kernel
theorem dX10_step_445 : decode cX10_step 445 = .ok (.getfield 48, 3) := by decide +kernel
theorem dX10_step_448 : decode cX10_step 448 = .ok (.iload_n 3, 1) := by decide +kernel
theorem dX10_step_449 : decode cX10_step 449 = .ok (.iaload, 1) := by decide +kernel
theorem dX10_step_450 : decode cX10_step 450 = .ok (.iconst (-1), 1) := by decide +kernel
theorem dX10_step_451 : decode cX10_step 451 = .ok (.ixor, 1) := by decide +kernel
theorem dX10_step_452 : decode cX10_step 452 = .ok (.iand, 1) := by decide +kernel
theorem dX10_step_453 : decode cX10_step 453 = .ok (.iastore, 1) := by decide +kernel
theorem dX10_step_454 : decode cX10_step 454 = .ok (.iload_n 2, 1) := by decide +kernel
theorem dX10_step_455 : decode cX10_step 455 = .ok (.iconst 2, 1) := by decide +kernel
theorem dX10_step_456 : decode cX10_step 456 = .ok (.iadd, 1) := by decide +kernel
theorem dX10_step_457 : decode cX10_step 457 = .ok (.ireturn, 1) := by decide +kernel
theorem dX10_step_458 : decode cX10_step 458 = .ok (.aload_n 0, 1) := by decide +kernel
theorem dX10_step_459 : decode cX10_step 459 = .ok (.getfield 32, 3) := by decide +kernel
theorem dX10_step_462 : decode cX10_step 462 = .ok (.iload_n 2, 1) := by decide +kernel
theorem dX10_step_463 : decode cX10_step 463 = .ok (.iconst 2, 1) := by decide +kernel
theorem dX10_step_464 : decode cX10_step 464 = .ok (.iadd, 1) := by decide +kernel
theorem dX10_step_465 : decode cX10_step 465 = .ok (.iaload, 1) := by decide +kernel
theorem dX10_step_466 : decode cX10_step 466 = .ok (.istore 4, 2) := by decide +kernel
theorem dX10_step_468 : decode cX10_step 468 = .ok (.aload_n 0, 1) := by decide +kernel
theorem dX10_step_469 : decode cX10_step 469 = .ok (.getfield 20, 3) := by decide +kernel
theorem dX10_step_472 : decode cX10_step 472 = .ok (.iload 4, 2) := by decide +kernel
theorem dX10_step_474 : decode cX10_step 474 = .ok (.aload_n 0, 1) := by decide +kernel
theorem dX10_step_475 : decode cX10_step 475 = .ok (.getfield 20, 3) := by decide +kernel
theorem dX10_step_478 : decode cX10_step 478 = .ok (.iload 4, 2) := by decide +kernel
theorem dX10_step_480 : decode cX10_step 480 = .ok (.iaload, 1) := by decide +kernel
theorem dX10_step_481 : decode cX10_step 481 = .ok (.aload_n 0, 1) := by decide +kernel
theorem dX10_step_482 : decode cX10_step 482 = .ok (.getfield 48, 3) := by decide +kernel
theorem dX10_step_485 : decode cX10_step 485 = .ok (.iload_n 3, 1) := by decide +kernel
theorem dX10_step_486 : decode cX10_step 486 = .ok (.iaload, 1) := by decide +kernel
theorem dX10_step_487 : decode cX10_step 487 = .ok (.iconst (-1), 1) := by decide +kernel
theorem dX10_step_488 : decode cX10_step 488 = .ok (.ixor, 1) := by decide +kernel
theorem dX10_step_489 : decode cX10_step 489 = .ok (.iand, 1) := by decide +kernel
theorem dX10_step_490 : decode cX10_step 490 = .ok (.aload_n 0, 1) := by decide +kernel
theorem dX10_step_491 : decode cX10_step 491 = .ok (.invokevirtual 174, 3) := by decide +kernel
theorem dX10_step_494 : decode cX10_step 494 = .ok (.aload_n 0, 1) := by decide +kernel
theorem dX10_step_495 : decode cX10_step 495 = .ok (.getfield 48, 3) := by decide +kernel
theorem dX10_step_498 : decode cX10_step 498 = .ok (.iload_n 3, 1) := by decide +kernel
theorem dX10_step_499 : decode cX10_step 499 = .ok (.iaload, 1) := by decide +kernel
theorem dX10_step_500 : decode cX10_step 500 = .ok (.iand, 1) := by decide +kernel
theorem dX10_step_501 : decode cX10_step 501 = .ok (.ior, 1) := by decide +kernel
theorem dX10_step_502 : decode cX10_step 502 = .ok (.iastore, 1) := by decide +kernel
theorem dX10_step_503 : decode cX10_step 503 = .ok (.iload_n 2, 1) := by decide +kernel
theorem dX10_step_504 : decode cX10_step 504 = .ok (.iconst 3, 1) := by decide +kernel
theorem dX10_step_505 : decode cX10_step 505 = .ok (.iadd, 1) := by decide +kernel
theorem dX10_step_506 : decode cX10_step 506 = .ok (.ireturn, 1) := by decide +kernel
theorem dX10_step_507 : decode cX10_step 507 = .ok (.aload_n 0, 1) := by decide +kernel
theorem dX10_step_508 : decode cX10_step 508 = .ok (.getfield 51, 3) := by decide +kernel
theorem dX10_step_511 : decode cX10_step 511 = .ok (.iload_n 3, 1) := by decide +kernel
theorem dX10_step_512 : decode cX10_step 512 = .ok (.iconst 0, 1) := by decide +kernel
theorem dX10_step_513 : decode cX10_step 513 = .ok (.iastore, 1) := by decide +kernel
theorem dX10_step_514 : decode cX10_step 514 = .ok (.iload_n 2, 1) := by decide +kernel
theorem dX10_step_515 : decode cX10_step 515 = .ok (.iconst 2, 1) := by decide +kernel
theorem dX10_step_516 : decode cX10_step 516 = .ok (.iadd, 1) := by decide +kernel
theorem dX10_step_517 : decode cX10_step 517 = .ok (.ireturn, 1) := by decide +kernel
theorem dX10_step_518 : decode cX10_step 518 = .ok (.aload_n 0, 1) := by decide +kernel
theorem dX10_step_519 : decode cX10_step 519 = .ok (.getfield 51, 3) := by decide +kernel
theorem dX10_step_522 : decode cX10_step 522 = .ok (.iload_n 3, 1) := by decide +kernel
theorem dX10_step_523 : decode cX10_step 523 = .ok (.dup2, 1) := by decide +kernel
theorem dX10_step_524 : decode cX10_step 524 = .ok (.iaload, 1) := by decide +kernel
theorem dX10_step_525 : decode cX10_step 525 = .ok (.iconst 1, 1) := by decide +kernel
theorem dX10_step_526 : decode cX10_step 526 = .ok (.iadd, 1) := by decide +kernel
theorem dX10_step_527 : decode cX10_step 527 = .ok (.iastore, 1) := by decide +kernel
theorem dX10_step_528 : decode cX10_step 528 = .ok (.iload_n 2, 1) := by decide +kernel
theorem dX10_step_529 : decode cX10_step 529 = .ok (.iconst 2, 1) := by decide +kernel
theorem dX10_step_530 : decode cX10_step 530 = .ok (.iadd, 1) := by decide +kernel
theorem dX10_step_531 : decode cX10_step 531 = .ok (.ireturn, 1) := by decide +kernel
theorem dX10_seeAll_0 : decode cX10_seeAll 0 = .ok (.iconst 0, 1) := by decide +kernel
theorem dX10_seeAll_1 : decode cX10_seeAll 1 = .ok (.istore_n 2, 1) := by decide +kernel
theorem dX10_seeAll_2 : decode cX10_seeAll 2 = .ok (.iload_n 2, 1) := by decide +kernel
theorem dX10_seeAll_3 : decode cX10_seeAll 3 = .ok (.aload_n 0, 1) := by decide +kernel
theorem dX10_seeAll_4 : decode cX10_seeAll 4 = .ok (.getfield 26, 3) := by decide +kernel
theorem dX10_seeAll_7 : decode cX10_seeAll 7 = .ok (.iload_n 1, 1) := by decide +kernel
theorem dX10_seeAll_8 : decode cX10_seeAll 8 = .ok (.iaload, 1) := by decide +kernel
theorem dX10_seeAll_9 : decode cX10_seeAll 9 = .ok (.if_icmp .ge 23, 3) := by decide +kernel
theorem dX10_seeAll_12 : decode cX10_seeAll 12 = .ok (.aload_n 0, 1) := by decide +kernel
theorem dX10_seeAll_13 : decode cX10_seeAll 13 = .ok (.sipush 4096, 3) := by decide +kernel
theorem dX10_seeAll_16 : decode cX10_seeAll 16 = .ok (.bipush 16, 2) := by decide +kernel
theorem dX10_seeAll_18 : decode cX10_seeAll 18 = .ok (.iload_n 1, 1) := by decide +kernel
theorem dX10_seeAll_19 : decode cX10_seeAll 19 = .ok (.imul, 1) := by decide +kernel
theorem dX10_seeAll_20 : decode cX10_seeAll 20 = .ok (.iadd, 1) := by decide +kernel
theorem dX10_seeAll_21 : decode cX10_seeAll 21 = .ok (.iload_n 2, 1) := by decide +kernel
theorem dX10_seeAll_22 : decode cX10_seeAll 22 = .ok (.iadd, 1) := by decide +kernel
theorem dX10_seeAll_23 : decode cX10_seeAll 23 = .ok (.invokevirtual 164, 3) := by decide +kernel
theorem dX10_seeAll_26 : decode cX10_seeAll 26 = .ok (.iinc 2 1, 3) := by decide +kernel
theorem dX10_seeAll_29 : decode cX10_seeAll 29 = .ok (.goto (-27), 3) := by decide +kernel
theorem dX10_seeAll_32 : decode cX10_seeAll 32 = .ok (.return_, 1) := by decide +kernel
theorem dX10_store_0 : decode cX10_store 0 = .ok (.aload_n 0, 1) := by decide +kernel
theorem dX10_store_1 : decode cX10_store 1 = .ok (.invokevirtual 174, 3) := by decide +kernel
theorem dX10_store_4 : decode cX10_store 4 = .ok (.istore 4, 2) := by decide +kernel
theorem dX10_store_6 : decode cX10_store 6 = .ok (.aload_n 0, 1) := by decide +kernel
theorem dX10_store_7 : decode cX10_store 7 = .ok (.iload_n 2, 1) := by decide +kernel
theorem dX10_store_8 : decode cX10_store 8 = .ok (.aload_n 0, 1) := by decide +kernel
theorem dX10_store_9 : decode cX10_store 9 = .ok (.invokevirtual 174, 3) := by decide +kernel
theorem dX10_store_12 : decode cX10_store 12 = .ok (.invokevirtual 183, 3) := by decide +kernel
theorem dX10_store_15 : decode cX10_store 15 = .ok (.istore 5, 2) := by decide +kernel
theorem dX10_store_17 : decode cX10_store 17 = .ok (.iload_n 3, 1) := by decide +kernel
theorem dX10_store_18 : decode cX10_store 18 = .ok (.ifCond .eq 11, 3) := by decide +kernel
theorem dX10_store_21 : decode cX10_store 21 = .ok (.aload_n 0, 1) := by decide +kernel
theorem dX10_store_22 : decode cX10_store 22 = .ok (.iload_n 2, 1) := by decide +kernel
theorem dX10_store_23 : decode cX10_store 23 = .ok (.invokevirtual 186, 3) := by decide +kernel
theorem dX10_store_26 : decode cX10_store 26 = .ok (.goto 18, 3) := by decide +kernel
theorem dX10_store_29 : decode cX10_store 29 = .ok (.aload_n 0, 1) := by decide +kernel
theorem dX10_store_30 : decode cX10_store 30 = .ok (.sipush 4096, 3) := by decide +kernel
theorem dX10_store_33 : decode cX10_store 33 = .ok (.bipush 16, 2) := by decide +kernel
theorem dX10_store_35 : decode cX10_store 35 = .ok (.iload_n 2, 1) := by decide +kernel
theorem dX10_store_36 : decode cX10_store 36 = .ok (.imul, 1) := by decide +kernel
theorem dX10_store_37 : decode cX10_store 37 = .ok (.iadd, 1) := by decide +kernel
theorem dX10_store_38 : decode cX10_store 38 = .ok (.iload 5, 2) := by decide +kernel
theorem dX10_store_40 : decode cX10_store 40 = .ok (.iadd, 1) := by decide +kernel
theorem dX10_store_41 : decode cX10_store 41 = .ok (.invokevirtual 164, 3) := by decide +kernel
theorem dX10_store_44 : decode cX10_store 44 = .ok (.bipush 16, 2) := by decide +kernel
theorem dX10_store_46 : decode cX10_store 46 = .ok (.iload_n 2, 1) := by decide +kernel
theorem dX10_store_47 : decode cX10_store 47 = .ok (.imul, 1) := by decide +kernel
theorem dX10_store_48 : decode cX10_store 48 = .ok (.iload 5, 2) := by decide +kernel
theorem dX10_store_50 : decode cX10_store 50 = .ok (.iadd, 1) := by decide +kernel
theorem dX10_store_51 : decode cX10_store 51 = .ok (.istore 6, 2) := by decide +kernel
theorem dX10_store_53 : decode cX10_store 53 = .ok (.aload_n 0, 1) := by decide +kernel
theorem dX10_store_54 : decode cX10_store 54 = .ok (.getfield 23, 3) := by decide +kernel
theorem dX10_store_57 : decode cX10_store 57 = .ok (.iload 6, 2) := by decide +kernel
theorem dX10_store_59 : decode cX10_store 59 = .ok (.aload_n 0, 1) := by decide +kernel
theorem dX10_store_60 : decode cX10_store 60 = .ok (.getfield 23, 3) := by decide +kernel
theorem dX10_store_63 : decode cX10_store 63 = .ok (.iload 6, 2) := by decide +kernel
theorem dX10_store_65 : decode cX10_store 65 = .ok (.iaload, 1) := by decide +kernel
theorem dX10_store_66 : decode cX10_store 66 = .ok (.iload_n 1, 1) := by decide +kernel
theorem dX10_store_67 : decode cX10_store 67 = .ok (.iconst (-1), 1) := by decide +kernel
theorem dX10_store_68 : decode cX10_store 68 = .ok (.ixor, 1) := by decide +kernel
theorem dX10_store_69 : decode cX10_store 69 = .ok (.iand, 1) := by decide +kernel
theorem dX10_store_70 : decode cX10_store 70 = .ok (.iload 4, 2) := by decide +kernel
theorem dX10_store_72 : decode cX10_store 72 = .ok (.iload_n 1, 1) := by decide +kernel
theorem dX10_store_73 : decode cX10_store 73 = .ok (.iand, 1) := by decide +kernel
theorem dX10_store_74 : decode cX10_store 74 = .ok (.ior, 1) := by decide +kernel
theorem dX10_store_75 : decode cX10_store 75 = .ok (.iastore, 1) := by decide +kernel
theorem dX10_store_76 : decode cX10_store 76 = .ok (.return_, 1) := by decide +kernel
theorem dX10_valueOf_0 : decode cX10_valueOf 0 = .ok (.aload_n 0, 1) := by decide +kernel
theorem dX10_valueOf_1 : decode cX10_valueOf 1 = .ok (.getfield 29, 3) := by decide +kernel
theorem dX10_valueOf_4 : decode cX10_valueOf 4 = .ok (.iload_n 1, 1) := by decide +kernel
theorem dX10_valueOf_5 : decode cX10_valueOf 5 = .ok (.iaload, 1) := by decide +kernel
theorem dX10_valueOf_6 : decode cX10_valueOf 6 = .ok (.istore_n 2, 1) := by decide +kernel
theorem dX10_valueOf_7 : decode cX10_valueOf 7 = .ok (.iload_n 2, 1) := by decide +kernel
theorem dX10_valueOf_8 : decode cX10_valueOf 8 = .ok (.bipush 20, 2) := by decide +kernel
theorem dX10_valueOf_10 : decode cX10_valueOf 10 = .ok (.if_icmp .ne 12, 3) := by decide +kernel
theorem dX10_valueOf_13 : decode cX10_valueOf 13 = .ok (.aload_n 0, 1) := by decide +kernel
theorem dX10_valueOf_14 : decode cX10_valueOf 14 = .ok (.getfield 29, 3) := by decide +kernel
theorem dX10_valueOf_17 : decode cX10_valueOf 17 = .ok (.iload_n 1, 1) := by decide +kernel
theorem dX10_valueOf_18 : decode cX10_valueOf 18 = .ok (.iconst 1, 1) := by decide +kernel
theorem dX10_valueOf_19 : decode cX10_valueOf 19 = .ok (.iadd, 1) := by decide +kernel
theorem dX10_valueOf_20 : decode cX10_valueOf 20 = .ok (.iaload, 1) := by decide +kernel
theorem dX10_valueOf_21 : decode cX10_valueOf 21 = .ok (.ireturn, 1) := by decide +kernel
theorem dX10_valueOf_22 : decode cX10_valueOf 22 = .ok (.iload_n 2, 1) := by decide +kernel
theorem dX10_valueOf_23 : decode cX10_valueOf 23 = .ok (.bipush 21, 2) := by decide +kernel
theorem dX10_valueOf_25 : decode cX10_valueOf 25 = .ok (.if_icmp .ne 17, 3) := by decide +kernel
theorem dX10_valueOf_28 : decode cX10_valueOf 28 = .ok (.aload_n 0, 1) := by decide +kernel
theorem dX10_valueOf_29 : decode cX10_valueOf 29 = .ok (.getfield 20, 3) := by decide +kernel
theorem dX10_valueOf_32 : decode cX10_valueOf 32 = .ok (.aload_n 0, 1) := by decide +kernel
theorem dX10_valueOf_33 : decode cX10_valueOf 33 = .ok (.getfield 29, 3) := by decide +kernel
theorem dX10_valueOf_36 : decode cX10_valueOf 36 = .ok (.iload_n 1, 1) := by decide +kernel
theorem dX10_valueOf_37 : decode cX10_valueOf 37 = .ok (.iconst 1, 1) := by decide +kernel
theorem dX10_valueOf_38 : decode cX10_valueOf 38 = .ok (.iadd, 1) := by decide +kernel
theorem dX10_valueOf_39 : decode cX10_valueOf 39 = .ok (.iaload, 1) := by decide +kernel
theorem dX10_valueOf_40 : decode cX10_valueOf 40 = .ok (.iaload, 1) := by decide +kernel
theorem dX10_valueOf_41 : decode cX10_valueOf 41 = .ok (.ireturn, 1) := by decide +kernel
theorem dX10_valueOf_42 : decode cX10_valueOf 42 = .ok (.iload_n 2, 1) := by decide +kernel
theorem dX10_valueOf_43 : decode cX10_valueOf 43 = .ok (.bipush 35, 2) := by decide +kernel
theorem dX10_valueOf_45 : decode cX10_valueOf 45 = .ok (.if_icmp .ne 39, 3) := by decide +kernel
theorem dX10_valueOf_48 : decode cX10_valueOf 48 = .ok (.aload_n 0, 1) := by decide +kernel
theorem dX10_valueOf_49 : decode cX10_valueOf 49 = .ok (.getfield 29, 3) := by decide +kernel
theorem dX10_valueOf_52 : decode cX10_valueOf 52 = .ok (.iload_n 1, 1) := by decide +kernel
theorem dX10_valueOf_53 : decode cX10_valueOf 53 = .ok (.iconst 1, 1) := by decide +kernel
theorem dX10_valueOf_54 : decode cX10_valueOf 54 = .ok (.iadd, 1) := by decide +kernel
theorem dX10_valueOf_55 : decode cX10_valueOf 55 = .ok (.iaload, 1) := by decide +kernel
theorem dX10_valueOf_56 : decode cX10_valueOf 56 = .ok (.istore_n 3, 1) := by decide +kernel
theorem dX10_valueOf_57 : decode cX10_valueOf 57 = .ok (.aload_n 0, 1) := by decide +kernel
theorem dX10_valueOf_58 : decode cX10_valueOf 58 = .ok (.iload_n 1, 1) := by decide +kernel
theorem dX10_valueOf_59 : decode cX10_valueOf 59 = .ok (.iconst 2, 1) := by decide +kernel
theorem dX10_valueOf_60 : decode cX10_valueOf 60 = .ok (.iadd, 1) := by decide +kernel
theorem dX10_valueOf_61 : decode cX10_valueOf 61 = .ok (.invokevirtual 193, 3) := by decide +kernel
theorem dX10_valueOf_64 : decode cX10_valueOf 64 = .ok (.istore 4, 2) := by decide +kernel
theorem dX10_valueOf_66 : decode cX10_valueOf 66 = .ok (.aload_n 0, 1) := by decide +kernel
theorem dX10_valueOf_67 : decode cX10_valueOf 67 = .ok (.getfield 23, 3) := by decide +kernel
theorem dX10_valueOf_70 : decode cX10_valueOf 70 = .ok (.bipush 16, 2) := by decide +kernel
theorem dX10_valueOf_72 : decode cX10_valueOf 72 = .ok (.iload_n 3, 1) := by decide +kernel
theorem dX10_valueOf_73 : decode cX10_valueOf 73 = .ok (.imul, 1) := by decide +kernel
theorem dX10_valueOf_74 : decode cX10_valueOf 74 = .ok (.aload_n 0, 1) := by decide +kernel
theorem dX10_valueOf_75 : decode cX10_valueOf 75 = .ok (.iload_n 3, 1) := by decide +kernel
theorem dX10_valueOf_76 : decode cX10_valueOf 76 = .ok (.iload 4, 2) := by decide +kernel
theorem dX10_valueOf_78 : decode cX10_valueOf 78 = .ok (.invokevirtual 183, 3) := by decide +kernel
theorem dX10_valueOf_81 : decode cX10_valueOf 81 = .ok (.iadd, 1) := by decide +kernel
theorem dX10_valueOf_82 : decode cX10_valueOf 82 = .ok (.iaload, 1) := by decide +kernel
theorem dX10_valueOf_83 : decode cX10_valueOf 83 = .ok (.ireturn, 1) := by decide +kernel
theorem dX10_valueOf_84 : decode cX10_valueOf 84 = .ok (.aload_n 0, 1) := by decide +kernel
theorem dX10_valueOf_85 : decode cX10_valueOf 85 = .ok (.iload_n 1, 1) := by decide +kernel
theorem dX10_valueOf_86 : decode cX10_valueOf 86 = .ok (.iconst 1, 1) := by decide +kernel
theorem dX10_valueOf_87 : decode cX10_valueOf 87 = .ok (.iadd, 1) := by decide +kernel
theorem dX10_valueOf_88 : decode cX10_valueOf 88 = .ok (.invokevirtual 193, 3) := by decide +kernel
theorem dX10_valueOf_91 : decode cX10_valueOf 91 = .ok (.istore_n 3, 1) := by decide +kernel
theorem dX10_valueOf_92 : decode cX10_valueOf 92 = .ok (.aload_n 0, 1) := by decide +kernel
theorem dX10_valueOf_93 : decode cX10_valueOf 93 = .ok (.getfield 146, 3) := by decide +kernel
theorem dX10_valueOf_96 : decode cX10_valueOf 96 = .ok (.ifCond .ne 9, 3) := by decide +kernel
theorem dX10_valueOf_99 : decode cX10_valueOf 99 = .ok (.iload_n 2, 1) := by decide +kernel
theorem dX10_valueOf_100 : decode cX10_valueOf 100 = .ok (.bipush 32, 2) := by decide +kernel
theorem dX10_valueOf_102 : decode cX10_valueOf 102 = .ok (.if_icmp .ne 12, 3) := by decide +kernel
theorem dX10_valueOf_105 : decode cX10_valueOf 105 = .ok (.aload_n 0, 1) := by decide +kernel
theorem dX10_valueOf_106 : decode cX10_valueOf 106 = .ok (.bipush 32, 2) := by decide +kernel
theorem dX10_valueOf_108 : decode cX10_valueOf 108 = .ok (.iload_n 3, 1) := by decide +kernel
theorem dX10_valueOf_109 : decode cX10_valueOf 109 = .ok (.iconst 0, 1) := by decide +kernel
theorem dX10_valueOf_110 : decode cX10_valueOf 110 = .ok (.invokevirtual 177, 3) := by decide +kernel
theorem dX10_valueOf_113 : decode cX10_valueOf 113 = .ok (.ireturn, 1) := by decide +kernel
theorem dX10_valueOf_114 : decode cX10_valueOf 114 = .ok (.aload_n 0, 1) := by decide +kernel
theorem dX10_valueOf_115 : decode cX10_valueOf 115 = .ok (.aload_n 0, 1) := by decide +kernel
theorem dX10_valueOf_116 : decode cX10_valueOf 116 = .ok (.getfield 29, 3) := by decide +kernel
theorem dX10_valueOf_119 : decode cX10_valueOf 119 = .ok (.iload_n 1, 1) := by decide +kernel
theorem dX10_valueOf_120 : decode cX10_valueOf 120 = .ok (.iconst 1, 1) := by decide +kernel
theorem dX10_valueOf_121 : decode cX10_valueOf 121 = .ok (.iadd, 1) := by decide +kernel
theorem dX10_valueOf_122 : decode cX10_valueOf 122 = .ok (.invokevirtual 107, 3) := by decide +kernel
theorem dX10_valueOf_125 : decode cX10_valueOf 125 = .ok (.istore 4, 2) := by decide +kernel
theorem dX10_valueOf_127 : decode cX10_valueOf 127 = .ok (.aload_n 0, 1) := by decide +kernel
theorem dX10_valueOf_128 : decode cX10_valueOf 128 = .ok (.iload 4, 2) := by decide +kernel
theorem dX10_valueOf_130 : decode cX10_valueOf 130 = .ok (.invokevirtual 193, 3) := by decide +kernel
theorem dX10_valueOf_133 : decode cX10_valueOf 133 = .ok (.istore 5, 2) := by decide +kernel
theorem dX10_valueOf_135 : decode cX10_valueOf 135 = .ok (.aload_n 0, 1) := by decide +kernel
theorem dX10_valueOf_136 : decode cX10_valueOf 136 = .ok (.getfield 146, 3) := by decide +kernel
theorem dX10_valueOf_139 : decode cX10_valueOf 139 = .ok (.ifCond .eq 5, 3) := by decide +kernel
theorem dX10_valueOf_142 : decode cX10_valueOf 142 = .ok (.iconst 0, 1) := by decide +kernel
theorem dX10_valueOf_143 : decode cX10_valueOf 143 = .ok (.ireturn, 1) := by decide +kernel
theorem dX10_valueOf_144 : decode cX10_valueOf 144 = .ok (.iload_n 2, 1) := by decide +kernel
theorem dX10_valueOf_145 : decode cX10_valueOf 145 = .ok (.bipush 36, 2) := by decide +kernel
theorem dX10_valueOf_147 : decode cX10_valueOf 147 = .ok (.if_icmp .ne 31, 3) := by decide +kernel
theorem dX10_valueOf_150 : decode cX10_valueOf 150 = .ok (.aload_n 0, 1) := by decide +kernel
theorem dX10_valueOf_151 : decode cX10_valueOf 151 = .ok (.aload_n 0, 1) := by decide +kernel
theorem dX10_valueOf_152 : decode cX10_valueOf 152 = .ok (.aload_n 0, 1) := by decide +kernel
theorem dX10_valueOf_153 : decode cX10_valueOf 153 = .ok (.getfield 29, 3) := by decide +kernel
theorem dX10_valueOf_156 : decode cX10_valueOf 156 = .ok (.iload 4, 2) := by decide +kernel
theorem dX10_valueOf_158 : decode cX10_valueOf 158 = .ok (.invokevirtual 107, 3) := by decide +kernel
theorem dX10_valueOf_161 : decode cX10_valueOf 161 = .ok (.invokevirtual 193, 3) := by decide +kernel
theorem dX10_valueOf_164 : decode cX10_valueOf 164 = .ok (.istore 6, 2) := by decide +kernel
theorem dX10_valueOf_166 : decode cX10_valueOf 166 = .ok (.iload_n 3, 1) := by decide +kernel
theorem dX10_valueOf_167 : decode cX10_valueOf 167 = .ok (.ifCond .eq 8, 3) := by decide +kernel
theorem dX10_valueOf_170 : decode cX10_valueOf 170 = .ok (.iload 5, 2) := by decide +kernel
theorem dX10_valueOf_172 : decode cX10_valueOf 172 = .ok (.goto 5, 3) := by decide +kernel
theorem dX10_valueOf_175 : decode cX10_valueOf 175 = .ok (.iload 6, 2) := by decide +kernel
theorem dX10_valueOf_177 : decode cX10_valueOf 177 = .ok (.ireturn, 1) := by decide +kernel
theorem dX10_valueOf_178 : decode cX10_valueOf 178 = .ok (.aload_n 0, 1) := by decide +kernel
theorem dX10_valueOf_179 : decode cX10_valueOf 179 = .ok (.iload_n 2, 1) := by decide +kernel
theorem dX10_valueOf_180 : decode cX10_valueOf 180 = .ok (.iload_n 3, 1) := by decide +kernel
theorem dX10_valueOf_181 : decode cX10_valueOf 181 = .ok (.iload 5, 2) := by decide +kernel
theorem dX10_valueOf_183 : decode cX10_valueOf 183 = .ok (.invokevirtual 177, 3) := by decide +kernel
theorem dX10_valueOf_186 : decode cX10_valueOf 186 = .ok (.ireturn, 1) := by decide +kernel
theorem dX10_turn_0 : decode cX10_turn 0 = .ok (.aload_n 0, 1) := by decide +kernel
theorem dX10_turn_1 : decode cX10_turn 1 = .ok (.getfield 196, 3) := by decide +kernel
theorem dX10_turn_4 : decode cX10_turn 4 = .ok (.sipush 5000, 3) := by decide +kernel
theorem dX10_turn_7 : decode cX10_turn 7 = .ok (.if_icmp .ne 11, 3) := by decide +kernel
theorem dX10_turn_10 : decode cX10_turn 10 = .ok (.aload_n 0, 1) := by decide +kernel
theorem dX10_turn_11 : decode cX10_turn 11 = .ok (.bipush (-4), 2) := by decide +kernel
theorem dX10_turn_13 : decode cX10_turn 13 = .ok (.putfield 146, 3) := by decide +kernel
theorem dX10_turn_16 : decode cX10_turn 16 = .ok (.iconst 0, 1) := by decide +kernel
theorem dX10_turn_17 : decode cX10_turn 17 = .ok (.ireturn, 1) := by decide +kernel
theorem dX10_turn_18 : decode cX10_turn 18 = .ok (.aload_n 0, 1) := by decide +kernel
theorem dX10_turn_19 : decode cX10_turn 19 = .ok (.dup, 1) := by decide +kernel
theorem dX10_turn_20 : decode cX10_turn 20 = .ok (.getfield 196, 3) := by decide +kernel
theorem dX10_turn_23 : decode cX10_turn 23 = .ok (.iconst 1, 1) := by decide +kernel
theorem dX10_turn_24 : decode cX10_turn 24 = .ok (.iadd, 1) := by decide +kernel
theorem dX10_turn_25 : decode cX10_turn 25 = .ok (.putfield 196, 3) := by decide +kernel
theorem dX10_turn_28 : decode cX10_turn 28 = .ok (.iconst 1, 1) := by decide +kernel
theorem dX10_turn_29 : decode cX10_turn 29 = .ok (.ireturn, 1) := by decide +kernel
theorem dX10_skipAll_0 : decode cX10_skipAll 0 = .ok (.iload_n 1, 1) := by decide +kernel
theorem dX10_skipAll_1 : decode cX10_skipAll 1 = .ok (.istore_n 2, 1) := by decide +kernel
theorem dX10_skipAll_2 : decode cX10_skipAll 2 = .ok (.aload_n 0, 1) := by decide +kernel
theorem dX10_skipAll_3 : decode cX10_skipAll 3 = .ok (.getfield 29, 3) := by decide +kernel
theorem dX10_skipAll_6 : decode cX10_skipAll 6 = .ok (.iload_n 2, 1) := by decide +kernel
theorem dX10_skipAll_7 : decode cX10_skipAll 7 = .ok (.iaload, 1) := by decide +kernel
theorem dX10_skipAll_8 : decode cX10_skipAll 8 = .ok (.ifCond .eq 22, 3) := by decide +kernel
theorem dX10_skipAll_11 : decode cX10_skipAll 11 = .ok (.aload_n 0, 1) := by decide +kernel
theorem dX10_skipAll_12 : decode cX10_skipAll 12 = .ok (.getfield 29, 3) := by decide +kernel
theorem dX10_skipAll_15 : decode cX10_skipAll 15 = .ok (.iload_n 2, 1) := by decide +kernel
theorem dX10_skipAll_16 : decode cX10_skipAll 16 = .ok (.iaload, 1) := by decide +kernel
theorem dX10_skipAll_17 : decode cX10_skipAll 17 = .ok (.iconst 4, 1) := by decide +kernel
theorem dX10_skipAll_18 : decode cX10_skipAll 18 = .ok (.if_icmp .eq 12, 3) := by decide +kernel
theorem dX10_skipAll_21 : decode cX10_skipAll 21 = .ok (.aload_n 0, 1) := by decide +kernel
theorem dX10_skipAll_22 : decode cX10_skipAll 22 = .ok (.iload_n 2, 1) := by decide +kernel
theorem dX10_skipAll_23 : decode cX10_skipAll 23 = .ok (.invokevirtual 199, 3) := by decide +kernel
theorem dX10_skipAll_26 : decode cX10_skipAll 26 = .ok (.istore_n 2, 1) := by decide +kernel
theorem dX10_skipAll_27 : decode cX10_skipAll 27 = .ok (.goto (-25), 3) := by decide +kernel
theorem dX10_skipAll_30 : decode cX10_skipAll 30 = .ok (.iload_n 2, 1) := by decide +kernel
theorem dX10_skipAll_31 : decode cX10_skipAll 31 = .ok (.ireturn, 1) := by decide +kernel
theorem dX10_skipS_0 : decode cX10_skipS 0 = .ok (.aload_n 0, 1) := by decide +kernel
theorem dX10_skipS_1 : decode cX10_skipS 1 = .ok (.getfield 29, 3) := by decide +kernel
theorem dX10_skipS_4 : decode cX10_skipS 4 = .ok (.iload_n 1, 1) := by decide +kernel
theorem dX10_skipS_5 : decode cX10_skipS 5 = .ok (.iaload, 1) := by decide +kernel
theorem dX10_skipS_6 : decode cX10_skipS 6 = .ok (.istore_n 2, 1) := by decide +kernel
theorem dX10_skipS_7 : decode cX10_skipS 7 = .ok (.iload_n 2, 1) := by decide +kernel
theorem dX10_skipS_8 : decode cX10_skipS 8 = .ok (.bipush 6, 2) := by decide +kernel
theorem dX10_skipS_10 : decode cX10_skipS 10 = .ok (.if_icmp .ne 13, 3) := by decide +kernel
theorem dX10_skipS_13 : decode cX10_skipS 13 = .ok (.aload_n 0, 1) := by decide +kernel
theorem dX10_skipS_14 : decode cX10_skipS 14 = .ok (.iload_n 1, 1) := by decide +kernel
theorem dX10_skipS_15 : decode cX10_skipS 15 = .ok (.iconst 2, 1) := by decide +kernel
theorem dX10_skipS_16 : decode cX10_skipS 16 = .ok (.iadd, 1) := by decide +kernel
theorem dX10_skipS_17 : decode cX10_skipS 17 = .ok (.invokevirtual 202, 3) := by decide +kernel
theorem dX10_skipS_20 : decode cX10_skipS 20 = .ok (.iconst 1, 1) := by decide +kernel
theorem dX10_skipS_21 : decode cX10_skipS 21 = .ok (.iadd, 1) := by decide +kernel
theorem dX10_skipS_22 : decode cX10_skipS 22 = .ok (.ireturn, 1) := by decide +kernel
theorem dX10_skipS_23 : decode cX10_skipS 23 = .ok (.aload_n 0, 1) := by decide +kernel
theorem dX10_skipS_24 : decode cX10_skipS 24 = .ok (.aload_n 0, 1) := by decide +kernel
theorem dX10_skipS_25 : decode cX10_skipS 25 = .ok (.getfield 29, 3) := by decide +kernel
theorem dX10_skipS_28 : decode cX10_skipS 28 = .ok (.iload_n 2, 1) := by decide +kernel
theorem dX10_skipS_29 : decode cX10_skipS 29 = .ok (.iconst 3, 1) := by decide +kernel
theorem dX10_skipS_30 : decode cX10_skipS 30 = .ok (.if_icmp .ge 9, 3) := by decide +kernel
theorem dX10_skipS_33 : decode cX10_skipS 33 = .ok (.iload_n 1, 1) := by decide +kernel
theorem dX10_skipS_34 : decode cX10_skipS 34 = .ok (.iconst 2, 1) := by decide +kernel
theorem dX10_skipS_35 : decode cX10_skipS 35 = .ok (.iadd, 1) := by decide +kernel
theorem dX10_skipS_36 : decode cX10_skipS 36 = .ok (.goto 6, 3) := by decide +kernel
theorem dX10_skipS_39 : decode cX10_skipS 39 = .ok (.iload_n 1, 1) := by decide +kernel
theorem dX10_skipS_40 : decode cX10_skipS 40 = .ok (.iconst 1, 1) := by decide +kernel
theorem dX10_skipS_41 : decode cX10_skipS 41 = .ok (.iadd, 1) := by decide +kernel
theorem dX10_skipS_42 : decode cX10_skipS 42 = .ok (.invokevirtual 107, 3) := by decide +kernel
theorem dX10_skipS_45 : decode cX10_skipS 45 = .ok (.istore_n 3, 1) := by decide +kernel
theorem dX10_skipS_46 : decode cX10_skipS 46 = .ok (.iload_n 2, 1) := by decide +kernel
theorem dX10_skipS_47 : decode cX10_skipS 47 = .ok (.iconst 2, 1) := by decide +kernel
theorem dX10_skipS_48 : decode cX10_skipS 48 = .ok (.if_icmp .ne 13, 3) := by decide +kernel
theorem dX10_skipS_51 : decode cX10_skipS 51 = .ok (.aload_n 0, 1) := by decide +kernel
theorem dX10_skipS_52 : decode cX10_skipS 52 = .ok (.aload_n 0, 1) := by decide +kernel
theorem dX10_skipS_53 : decode cX10_skipS 53 = .ok (.getfield 29, 3) := by decide +kernel
theorem dX10_skipS_56 : decode cX10_skipS 56 = .ok (.iload_n 3, 1) := by decide +kernel
theorem dX10_skipS_57 : decode cX10_skipS 57 = .ok (.invokevirtual 107, 3) := by decide +kernel
theorem dX10_skipS_60 : decode cX10_skipS 60 = .ok (.ireturn, 1) := by decide +kernel
theorem dX10_skipS_61 : decode cX10_skipS 61 = .ok (.iload_n 2, 1) := by decide +kernel
theorem dX10_skipS_62 : decode cX10_skipS 62 = .ok (.iconst 3, 1) := by decide +kernel
theorem dX10_skipS_63 : decode cX10_skipS 63 = .ok (.if_icmp .ne 39, 3) := by decide +kernel
theorem dX10_skipS_66 : decode cX10_skipS 66 = .ok (.aload_n 0, 1) := by decide +kernel
theorem dX10_skipS_67 : decode cX10_skipS 67 = .ok (.iload_n 3, 1) := by decide +kernel
theorem dX10_skipS_68 : decode cX10_skipS 68 = .ok (.invokevirtual 202, 3) := by decide +kernel
theorem dX10_skipS_71 : decode cX10_skipS 71 = .ok (.istore 4, 2) := by decide +kernel
theorem dX10_skipS_73 : decode cX10_skipS 73 = .ok (.aload_n 0, 1) := by decide +kernel
theorem dX10_skipS_74 : decode cX10_skipS 74 = .ok (.getfield 29, 3) := by decide +kernel
theorem dX10_skipS_77 : decode cX10_skipS 77 = .ok (.iload 4, 2) := by decide +kernel
theorem dX10_skipS_79 : decode cX10_skipS 79 = .ok (.iaload, 1) := by decide +kernel
theorem dX10_skipS_80 : decode cX10_skipS 80 = .ok (.iconst 4, 1) := by decide +kernel
theorem dX10_skipS_81 : decode cX10_skipS 81 = .ok (.if_icmp .ne 16, 3) := by decide +kernel
theorem dX10_skipS_84 : decode cX10_skipS 84 = .ok (.aload_n 0, 1) := by decide +kernel
theorem dX10_skipS_85 : decode cX10_skipS 85 = .ok (.iload 4, 2) := by decide +kernel
theorem dX10_skipS_87 : decode cX10_skipS 87 = .ok (.iconst 1, 1) := by decide +kernel
theorem dX10_skipS_88 : decode cX10_skipS 88 = .ok (.iadd, 1) := by decide +kernel
theorem dX10_skipS_89 : decode cX10_skipS 89 = .ok (.invokevirtual 202, 3) := by decide +kernel
theorem dX10_skipS_92 : decode cX10_skipS 92 = .ok (.iconst 1, 1) := by decide +kernel
theorem dX10_skipS_93 : decode cX10_skipS 93 = .ok (.iadd, 1) := by decide +kernel
theorem dX10_skipS_94 : decode cX10_skipS 94 = .ok (.goto 7, 3) := by decide +kernel
theorem dX10_skipS_97 : decode cX10_skipS 97 = .ok (.iload 4, 2) := by decide +kernel
theorem dX10_skipS_99 : decode cX10_skipS 99 = .ok (.iconst 1, 1) := by decide +kernel
theorem dX10_skipS_100 : decode cX10_skipS 100 = .ok (.iadd, 1) := by decide +kernel
theorem dX10_skipS_101 : decode cX10_skipS 101 = .ok (.ireturn, 1) := by decide +kernel
theorem dX10_skipS_102 : decode cX10_skipS 102 = .ok (.iload_n 2, 1) := by decide +kernel
theorem dX10_skipS_103 : decode cX10_skipS 103 = .ok (.iconst 5, 1) := by decide +kernel
theorem dX10_skipS_104 : decode cX10_skipS 104 = .ok (.if_icmp .ne 13, 3) := by decide +kernel
theorem dX10_skipS_107 : decode cX10_skipS 107 = .ok (.aload_n 0, 1) := by decide +kernel
theorem dX10_skipS_108 : decode cX10_skipS 108 = .ok (.iload_n 3, 1) := by decide +kernel
theorem dX10_skipS_109 : decode cX10_skipS 109 = .ok (.invokevirtual 202, 3) := by decide +kernel
theorem dX10_skipS_112 : decode cX10_skipS 112 = .ok (.iconst 1, 1) := by decide +kernel
theorem dX10_skipS_113 : decode cX10_skipS 113 = .ok (.iadd, 1) := by decide +kernel
theorem dX10_skipS_114 : decode cX10_skipS 114 = .ok (.goto 4, 3) := by decide +kernel
theorem dX10_skipS_117 : decode cX10_skipS 117 = .ok (.iload_n 3, 1) := by decide +kernel
theorem dX10_skipS_118 : decode cX10_skipS 118 = .ok (.ireturn, 1) := by decide +kernel
theorem dX10_doAll_0 : decode cX10_doAll 0 = .ok (.iload_n 1, 1) := by decide +kernel
theorem dX10_doAll_1 : decode cX10_doAll 1 = .ok (.istore_n 2, 1) := by decide +kernel
theorem dX10_doAll_2 : decode cX10_doAll 2 = .ok (.aload_n 0, 1) := by decide +kernel
theorem dX10_doAll_3 : decode cX10_doAll 3 = .ok (.getfield 146, 3) := by decide +kernel
theorem dX10_doAll_6 : decode cX10_doAll 6 = .ok (.ifCond .ne 36, 3) := by decide +kernel
theorem dX10_doAll_9 : decode cX10_doAll 9 = .ok (.aload_n 0, 1) := by decide +kernel
theorem dX10_doAll_10 : decode cX10_doAll 10 = .ok (.getfield 29, 3) := by decide +kernel
theorem dX10_doAll_13 : decode cX10_doAll 13 = .ok (.iload_n 2, 1) := by decide +kernel
theorem dX10_doAll_14 : decode cX10_doAll 14 = .ok (.iaload, 1) := by decide +kernel
theorem dX10_doAll_15 : decode cX10_doAll 15 = .ok (.ifCond .eq 27, 3) := by decide +kernel
theorem dX10_doAll_18 : decode cX10_doAll 18 = .ok (.aload_n 0, 1) := by decide +kernel
theorem dX10_doAll_19 : decode cX10_doAll 19 = .ok (.getfield 29, 3) := by decide +kernel
theorem dX10_doAll_22 : decode cX10_doAll 22 = .ok (.iload_n 2, 1) := by decide +kernel
theorem dX10_doAll_23 : decode cX10_doAll 23 = .ok (.iaload, 1) := by decide +kernel
theorem dX10_doAll_24 : decode cX10_doAll 24 = .ok (.iconst 4, 1) := by decide +kernel
theorem dX10_doAll_25 : decode cX10_doAll 25 = .ok (.if_icmp .eq 17, 3) := by decide +kernel
theorem dX10_doAll_28 : decode cX10_doAll 28 = .ok (.aload_n 0, 1) := by decide +kernel
theorem dX10_doAll_29 : decode cX10_doAll 29 = .ok (.iload_n 2, 1) := by decide +kernel
theorem dX10_doAll_30 : decode cX10_doAll 30 = .ok (.invokevirtual 205, 3) := by decide +kernel
theorem dX10_doAll_33 : decode cX10_doAll 33 = .ok (.aload_n 0, 1) := by decide +kernel
theorem dX10_doAll_34 : decode cX10_doAll 34 = .ok (.iload_n 2, 1) := by decide +kernel
theorem dX10_doAll_35 : decode cX10_doAll 35 = .ok (.invokevirtual 199, 3) := by decide +kernel
theorem dX10_doAll_38 : decode cX10_doAll 38 = .ok (.istore_n 2, 1) := by decide +kernel
theorem dX10_doAll_39 : decode cX10_doAll 39 = .ok (.goto (-37), 3) := by decide +kernel
theorem dX10_doAll_42 : decode cX10_doAll 42 = .ok (.return_, 1) := by decide +kernel
theorem dX10_doS_0 : decode cX10_doS 0 = .ok (.aload_n 0, 1) := by decide +kernel
theorem dX10_doS_1 : decode cX10_doS 1 = .ok (.invokevirtual 208, 3) := by decide +kernel
theorem dX10_doS_4 : decode cX10_doS 4 = .ok (.ifCond .ne 4, 3) := by decide +kernel
theorem dX10_doS_7 : decode cX10_doS 7 = .ok (.return_, 1) := by decide +kernel
theorem dX10_doS_8 : decode cX10_doS 8 = .ok (.aload_n 0, 1) := by decide +kernel
theorem dX10_doS_9 : decode cX10_doS 9 = .ok (.getfield 29, 3) := by decide +kernel
theorem dX10_doS_12 : decode cX10_doS 12 = .ok (.iload_n 1, 1) := by decide +kernel
theorem dX10_doS_13 : decode cX10_doS 13 = .ok (.iaload, 1) := by decide +kernel
theorem dX10_doS_14 : decode cX10_doS 14 = .ok (.istore_n 2, 1) := by decide +kernel
theorem dX10_doS_15 : decode cX10_doS 15 = .ok (.iload_n 2, 1) := by decide +kernel
theorem dX10_doS_16 : decode cX10_doS 16 = .ok (.bipush 6, 2) := by decide +kernel
theorem dX10_doS_18 : decode cX10_doS 18 = .ok (.if_icmp .ne 66, 3) := by decide +kernel
theorem dX10_doS_21 : decode cX10_doS 21 = .ok (.iconst 0, 1) := by decide +kernel
theorem dX10_doS_22 : decode cX10_doS 22 = .ok (.istore_n 3, 1) := by decide +kernel
theorem dX10_doS_23 : decode cX10_doS 23 = .ok (.iload_n 3, 1) := by decide +kernel
theorem dX10_doS_24 : decode cX10_doS 24 = .ok (.aload_n 0, 1) := by decide +kernel
theorem dX10_doS_25 : decode cX10_doS 25 = .ok (.getfield 29, 3) := by decide +kernel
theorem dX10_doS_28 : decode cX10_doS 28 = .ok (.iload_n 1, 1) := by decide +kernel
theorem dX10_doS_29 : decode cX10_doS 29 = .ok (.iconst 1, 1) := by decide +kernel
theorem dX10_doS_30 : decode cX10_doS 30 = .ok (.iadd, 1) := by decide +kernel
theorem dX10_doS_31 : decode cX10_doS 31 = .ok (.iaload, 1) := by decide +kernel
theorem dX10_doS_32 : decode cX10_doS 32 = .ok (.if_icmp .ge 51, 3) := by decide +kernel
theorem dX10_doS_35 : decode cX10_doS 35 = .ok (.aload_n 0, 1) := by decide +kernel
theorem dX10_doS_36 : decode cX10_doS 36 = .ok (.getfield 146, 3) := by decide +kernel
theorem dX10_doS_39 : decode cX10_doS 39 = .ok (.ifCond .ne 44, 3) := by decide +kernel
theorem dX10_doS_42 : decode cX10_doS 42 = .ok (.aload_n 0, 1) := by decide +kernel
theorem dX10_doS_43 : decode cX10_doS 43 = .ok (.iload_n 1, 1) := by decide +kernel
theorem dX10_doS_44 : decode cX10_doS 44 = .ok (.iconst 2, 1) := by decide +kernel
theorem dX10_doS_45 : decode cX10_doS 45 = .ok (.iadd, 1) := by decide +kernel
theorem dX10_doS_46 : decode cX10_doS 46 = .ok (.invokevirtual 212, 3) := by decide +kernel
theorem dX10_doS_49 : decode cX10_doS 49 = .ok (.aload_n 0, 1) := by decide +kernel
theorem dX10_doS_50 : decode cX10_doS 50 = .ok (.getfield 146, 3) := by decide +kernel
theorem dX10_doS_53 : decode cX10_doS 53 = .ok (.ifCond .ne 24, 3) := by decide +kernel
theorem dX10_doS_56 : decode cX10_doS 56 = .ok (.aload_n 0, 1) := by decide +kernel
theorem dX10_doS_57 : decode cX10_doS 57 = .ok (.invokevirtual 208, 3) := by decide +kernel
theorem dX10_doS_60 : decode cX10_doS 60 = .ok (.istore 4, 2) := by decide +kernel
theorem dX10_doS_62 : decode cX10_doS 62 = .ok (.aload_n 0, 1) := by decide +kernel
theorem dX10_doS_63 : decode cX10_doS 63 = .ok (.iload 4, 2) := by decide +kernel
theorem dX10_doS_65 : decode cX10_doS 65 = .ok (.ifCond .eq 7, 3) := by decide +kernel
theorem dX10_doS_68 : decode cX10_doS 68 = .ok (.iconst 0, 1) := by decide +kernel
theorem dX10_doS_69 : decode cX10_doS 69 = .ok (.goto 5, 3) := by decide +kernel
theorem dX10_doS_72 : decode cX10_doS 72 = .ok (.bipush (-4), 2) := by decide +kernel
theorem dX10_doS_74 : decode cX10_doS 74 = .ok (.putfield 146, 3) := by decide +kernel
theorem dX10_doS_77 : decode cX10_doS 77 = .ok (.iinc 3 1, 3) := by decide +kernel
theorem dX10_doS_80 : decode cX10_doS 80 = .ok (.goto (-57), 3) := by decide +kernel
theorem dX10_doS_83 : decode cX10_doS 83 = .ok (.return_, 1) := by decide +kernel
theorem dX10_doS_84 : decode cX10_doS 84 = .ok (.iload_n 2, 1) := by decide +kernel
theorem dX10_doS_85 : decode cX10_doS 85 = .ok (.iconst 3, 1) := by decide +kernel
theorem dX10_doS_86 : decode cX10_doS 86 = .ok (.if_icmp .ge 9, 3) := by decide +kernel
theorem dX10_doS_89 : decode cX10_doS 89 = .ok (.iload_n 1, 1) := by decide +kernel
theorem dX10_doS_90 : decode cX10_doS 90 = .ok (.iconst 2, 1) := by decide +kernel
theorem dX10_doS_91 : decode cX10_doS 91 = .ok (.iadd, 1) := by decide +kernel
theorem dX10_doS_92 : decode cX10_doS 92 = .ok (.goto 6, 3) := by decide +kernel
theorem dX10_doS_95 : decode cX10_doS 95 = .ok (.iload_n 1, 1) := by decide +kernel
theorem dX10_doS_96 : decode cX10_doS 96 = .ok (.iconst 1, 1) := by decide +kernel
theorem dX10_doS_97 : decode cX10_doS 97 = .ok (.iadd, 1) := by decide +kernel
theorem dX10_doS_98 : decode cX10_doS 98 = .ok (.istore_n 3, 1) := by decide +kernel
theorem dX10_doS_99 : decode cX10_doS 99 = .ok (.aload_n 0, 1) := by decide +kernel
theorem dX10_doS_100 : decode cX10_doS 100 = .ok (.iload_n 3, 1) := by decide +kernel
theorem dX10_doS_101 : decode cX10_doS 101 = .ok (.invokevirtual 193, 3) := by decide +kernel
theorem dX10_doS_104 : decode cX10_doS 104 = .ok (.istore 4, 2) := by decide +kernel
theorem dX10_doS_106 : decode cX10_doS 106 = .ok (.aload_n 0, 1) := by decide +kernel
theorem dX10_doS_107 : decode cX10_doS 107 = .ok (.aload_n 0, 1) := by decide +kernel
theorem dX10_doS_108 : decode cX10_doS 108 = .ok (.getfield 29, 3) := by decide +kernel
theorem dX10_doS_111 : decode cX10_doS 111 = .ok (.iload_n 3, 1) := by decide +kernel
theorem dX10_doS_112 : decode cX10_doS 112 = .ok (.invokevirtual 107, 3) := by decide +kernel
theorem dX10_doS_115 : decode cX10_doS 115 = .ok (.istore 5, 2) := by decide +kernel
theorem dX10_doS_117 : decode cX10_doS 117 = .ok (.aload_n 0, 1) := by decide +kernel
theorem dX10_doS_118 : decode cX10_doS 118 = .ok (.getfield 146, 3) := by decide +kernel
theorem dX10_doS_121 : decode cX10_doS 121 = .ok (.ifCond .eq 4, 3) := by decide +kernel
theorem dX10_doS_124 : decode cX10_doS 124 = .ok (.return_, 1) := by decide +kernel
theorem dX10_doS_125 : decode cX10_doS 125 = .ok (.iload_n 2, 1) := by decide +kernel
theorem dX10_doS_126 : decode cX10_doS 126 = .ok (.iconst 1, 1) := by decide +kernel
theorem dX10_doS_127 : decode cX10_doS 127 = .ok (.if_icmp .ne 21, 3) := by decide +kernel
theorem dX10_doS_130 : decode cX10_doS 130 = .ok (.aload_n 0, 1) := by decide +kernel
theorem dX10_doS_131 : decode cX10_doS 131 = .ok (.getfield 20, 3) := by decide +kernel
theorem dX10_doS_134 : decode cX10_doS 134 = .ok (.aload_n 0, 1) := by decide +kernel
theorem dX10_doS_135 : decode cX10_doS 135 = .ok (.getfield 29, 3) := by decide +kernel
theorem dX10_doS_138 : decode cX10_doS 138 = .ok (.iload_n 1, 1) := by decide +kernel
theorem dX10_doS_139 : decode cX10_doS 139 = .ok (.iconst 1, 1) := by decide +kernel
theorem dX10_doS_140 : decode cX10_doS 140 = .ok (.iadd, 1) := by decide +kernel
theorem dX10_doS_141 : decode cX10_doS 141 = .ok (.iaload, 1) := by decide +kernel
theorem dX10_doS_142 : decode cX10_doS 142 = .ok (.iload 4, 2) := by decide +kernel
theorem dX10_doS_144 : decode cX10_doS 144 = .ok (.iastore, 1) := by decide +kernel
theorem dX10_doS_145 : decode cX10_doS 145 = .ok (.goto 163, 3) := by decide +kernel
theorem dX10_doS_148 : decode cX10_doS 148 = .ok (.iload_n 2, 1) := by decide +kernel
theorem dX10_doS_149 : decode cX10_doS 149 = .ok (.iconst 2, 1) := by decide +kernel
theorem dX10_doS_150 : decode cX10_doS 150 = .ok (.if_icmp .ne 52, 3) := by decide +kernel
theorem dX10_doS_153 : decode cX10_doS 153 = .ok (.aload_n 0, 1) := by decide +kernel
theorem dX10_doS_154 : decode cX10_doS 154 = .ok (.getfield 29, 3) := by decide +kernel
theorem dX10_doS_157 : decode cX10_doS 157 = .ok (.iload_n 1, 1) := by decide +kernel
theorem dX10_doS_158 : decode cX10_doS 158 = .ok (.iconst 1, 1) := by decide +kernel
theorem dX10_doS_159 : decode cX10_doS 159 = .ok (.iadd, 1) := by decide +kernel
theorem dX10_doS_160 : decode cX10_doS 160 = .ok (.iaload, 1) := by decide +kernel
theorem dX10_doS_161 : decode cX10_doS 161 = .ok (.istore 6, 2) := by decide +kernel
theorem dX10_doS_163 : decode cX10_doS 163 = .ok (.aload_n 0, 1) := by decide +kernel
theorem dX10_doS_164 : decode cX10_doS 164 = .ok (.iload 5, 2) := by decide +kernel
theorem dX10_doS_166 : decode cX10_doS 166 = .ok (.invokevirtual 193, 3) := by decide +kernel
theorem dX10_doS_169 : decode cX10_doS 169 = .ok (.istore 7, 2) := by decide +kernel
theorem dX10_doS_171 : decode cX10_doS 171 = .ok (.aload_n 0, 1) := by decide +kernel
theorem dX10_doS_172 : decode cX10_doS 172 = .ok (.getfield 146, 3) := by decide +kernel
theorem dX10_doS_175 : decode cX10_doS 175 = .ok (.ifCond .ne 24, 3) := by decide +kernel
theorem dX10_doS_178 : decode cX10_doS 178 = .ok (.aload_n 0, 1) := by decide +kernel
theorem dX10_doS_179 : decode cX10_doS 179 = .ok (.getfield 23, 3) := by decide +kernel
theorem dX10_doS_182 : decode cX10_doS 182 = .ok (.bipush 16, 2) := by decide +kernel
theorem dX10_doS_184 : decode cX10_doS 184 = .ok (.iload 6, 2) := by decide +kernel
theorem dX10_doS_186 : decode cX10_doS 186 = .ok (.imul, 1) := by decide +kernel
theorem dX10_doS_187 : decode cX10_doS 187 = .ok (.aload_n 0, 1) := by decide +kernel
theorem dX10_doS_188 : decode cX10_doS 188 = .ok (.iload 6, 2) := by decide +kernel
theorem dX10_doS_190 : decode cX10_doS 190 = .ok (.iload 4, 2) := by decide +kernel
theorem dX10_doS_192 : decode cX10_doS 192 = .ok (.invokevirtual 183, 3) := by decide +kernel
theorem dX10_doS_195 : decode cX10_doS 195 = .ok (.iadd, 1) := by decide +kernel
theorem dX10_doS_196 : decode cX10_doS 196 = .ok (.iload 7, 2) := by decide +kernel
theorem dX10_doS_198 : decode cX10_doS 198 = .ok (.iastore, 1) := by decide +kernel
theorem dX10_doS_199 : decode cX10_doS 199 = .ok (.goto 109, 3) := by decide +kernel
theorem dX10_doS_202 : decode cX10_doS 202 = .ok (.iload_n 2, 1) := by decide +kernel
theorem dX10_doS_203 : decode cX10_doS 203 = .ok (.bipush 7, 2) := by decide +kernel
theorem dX10_doS_205 : decode cX10_doS 205 = .ok (.if_icmp .ne 12, 3) := by decide +kernel
theorem dX10_doS_208 : decode cX10_doS 208 = .ok (.aload_n 0, 1) := by decide +kernel
theorem dX10_doS_209 : decode cX10_doS 209 = .ok (.iload 4, 2) := by decide +kernel
theorem dX10_doS_211 : decode cX10_doS 211 = .ok (.invokevirtual 180, 3) := by decide +kernel
theorem dX10_doS_214 : decode cX10_doS 214 = .ok (.goto 94, 3) := by decide +kernel
theorem dX10_doS_217 : decode cX10_doS 217 = .ok (.iload_n 2, 1) := by decide +kernel
theorem dX10_doS_218 : decode cX10_doS 218 = .ok (.iconst 3, 1) := by decide +kernel
theorem dX10_doS_219 : decode cX10_doS 219 = .ok (.if_icmp .ne 47, 3) := by decide +kernel
theorem dX10_doS_222 : decode cX10_doS 222 = .ok (.iload 4, 2) := by decide +kernel
theorem dX10_doS_224 : decode cX10_doS 224 = .ok (.ifCond .eq 12, 3) := by decide +kernel
theorem dX10_doS_227 : decode cX10_doS 227 = .ok (.aload_n 0, 1) := by decide +kernel
theorem dX10_doS_228 : decode cX10_doS 228 = .ok (.iload 5, 2) := by decide +kernel
theorem dX10_doS_230 : decode cX10_doS 230 = .ok (.invokevirtual 212, 3) := by decide +kernel
theorem dX10_doS_233 : decode cX10_doS 233 = .ok (.goto 75, 3) := by decide +kernel
theorem dX10_doS_236 : decode cX10_doS 236 = .ok (.aload_n 0, 1) := by decide +kernel
theorem dX10_doS_237 : decode cX10_doS 237 = .ok (.iload 5, 2) := by decide +kernel
theorem dX10_doS_239 : decode cX10_doS 239 = .ok (.invokevirtual 202, 3) := by decide +kernel
theorem dX10_doS_242 : decode cX10_doS 242 = .ok (.istore 6, 2) := by decide +kernel
theorem dX10_doS_244 : decode cX10_doS 244 = .ok (.aload_n 0, 1) := by decide +kernel
theorem dX10_doS_245 : decode cX10_doS 245 = .ok (.getfield 29, 3) := by decide +kernel
theorem dX10_doS_248 : decode cX10_doS 248 = .ok (.iload 6, 2) := by decide +kernel
theorem dX10_doS_250 : decode cX10_doS 250 = .ok (.iaload, 1) := by decide +kernel
theorem dX10_doS_251 : decode cX10_doS 251 = .ok (.iconst 4, 1) := by decide +kernel
theorem dX10_doS_252 : decode cX10_doS 252 = .ok (.if_icmp .ne 11, 3) := by decide +kernel
theorem dX10_doS_255 : decode cX10_doS 255 = .ok (.aload_n 0, 1) := by decide +kernel
theorem dX10_doS_256 : decode cX10_doS 256 = .ok (.iload 6, 2) := by decide +kernel
theorem dX10_doS_258 : decode cX10_doS 258 = .ok (.iconst 1, 1) := by decide +kernel
theorem dX10_doS_259 : decode cX10_doS 259 = .ok (.iadd, 1) := by decide +kernel
theorem dX10_doS_260 : decode cX10_doS 260 = .ok (.invokevirtual 212, 3) := by decide +kernel
theorem dX10_doS_263 : decode cX10_doS 263 = .ok (.goto 45, 3) := by decide +kernel
theorem dX10_doS_266 : decode cX10_doS 266 = .ok (.iload 4, 2) := by decide +kernel
theorem dX10_doS_268 : decode cX10_doS 268 = .ok (.ifCond .eq 40, 3) := by decide +kernel
theorem dX10_doS_271 : decode cX10_doS 271 = .ok (.aload_n 0, 1) := by decide +kernel
theorem dX10_doS_272 : decode cX10_doS 272 = .ok (.getfield 146, 3) := by decide +kernel
theorem dX10_doS_275 : decode cX10_doS 275 = .ok (.ifCond .ne 33, 3) := by decide +kernel
theorem dX10_doS_278 : decode cX10_doS 278 = .ok (.aload_n 0, 1) := by decide +kernel
theorem dX10_doS_279 : decode cX10_doS 279 = .ok (.iload 5, 2) := by decide +kernel
theorem dX10_doS_281 : decode cX10_doS 281 = .ok (.invokevirtual 212, 3) := by decide +kernel
theorem dX10_doS_284 : decode cX10_doS 284 = .ok (.aload_n 0, 1) := by decide +kernel
theorem dX10_doS_285 : decode cX10_doS 285 = .ok (.getfield 146, 3) := by decide +kernel
theorem dX10_doS_288 : decode cX10_doS 288 = .ok (.ifCond .ne (-22), 3) := by decide +kernel
theorem dX10_doS_291 : decode cX10_doS 291 = .ok (.aload_n 0, 1) := by decide +kernel
theorem dX10_doS_292 : decode cX10_doS 292 = .ok (.invokevirtual 208, 3) := by decide +kernel
theorem dX10_doS_295 : decode cX10_doS 295 = .ok (.ifCond .eq (-29), 3) := by decide +kernel
theorem dX10_doS_298 : decode cX10_doS 298 = .ok (.aload_n 0, 1) := by decide +kernel
theorem dX10_doS_299 : decode cX10_doS 299 = .ok (.iload_n 3, 1) := by decide +kernel
theorem dX10_doS_300 : decode cX10_doS 300 = .ok (.invokevirtual 193, 3) := by decide +kernel
theorem dX10_doS_303 : decode cX10_doS 303 = .ok (.istore 4, 2) := by decide +kernel
theorem dX10_doS_305 : decode cX10_doS 305 = .ok (.goto (-39), 3) := by decide +kernel
theorem dX10_doS_308 : decode cX10_doS 308 = .ok (.return_, 1) := by decide +kernel
theorem dX10_plain_0 : decode cX10_plain 0 = .ok (.aload_n 0, 1) := by decide +kernel
theorem dX10_plain_1 : decode cX10_plain 1 = .ok (.getfield 58, 3) := by decide +kernel
theorem dX10_plain_4 : decode cX10_plain 4 = .ok (.ifCond .ne 6, 3) := by decide +kernel
theorem dX10_plain_7 : decode cX10_plain 7 = .ok (.bipush (-2), 2) := by decide +kernel
theorem dX10_plain_9 : decode cX10_plain 9 = .ok (.ireturn, 1) := by decide +kernel
theorem dX10_plain_10 : decode cX10_plain 10 = .ok (.aload_n 0, 1) := by decide +kernel
theorem dX10_plain_11 : decode cX10_plain 11 = .ok (.iconst 0, 1) := by decide +kernel
theorem dX10_plain_12 : decode cX10_plain 12 = .ok (.putfield 149, 3) := by decide +kernel
theorem dX10_plain_15 : decode cX10_plain 15 = .ok (.aload_n 0, 1) := by decide +kernel
theorem dX10_plain_16 : decode cX10_plain 16 = .ok (.iconst 0, 1) := by decide +kernel
theorem dX10_plain_17 : decode cX10_plain 17 = .ok (.putfield 196, 3) := by decide +kernel
theorem dX10_plain_20 : decode cX10_plain 20 = .ok (.aload_n 0, 1) := by decide +kernel
theorem dX10_plain_21 : decode cX10_plain 21 = .ok (.iconst 0, 1) := by decide +kernel
theorem dX10_plain_22 : decode cX10_plain 22 = .ok (.putfield 146, 3) := by decide +kernel
theorem dX10_plain_25 : decode cX10_plain 25 = .ok (.aload_n 0, 1) := by decide +kernel
theorem dX10_plain_26 : decode cX10_plain 26 = .ok (.iconst 0, 1) := by decide +kernel
theorem dX10_plain_27 : decode cX10_plain 27 = .ok (.invokevirtual 212, 3) := by decide +kernel
theorem dX10_plain_30 : decode cX10_plain 30 = .ok (.aload_n 0, 1) := by decide +kernel
theorem dX10_plain_31 : decode cX10_plain 31 = .ok (.getfield 146, 3) := by decide +kernel
theorem dX10_plain_34 : decode cX10_plain 34 = .ok (.ifCond .eq 10, 3) := by decide +kernel
theorem dX10_plain_37 : decode cX10_plain 37 = .ok (.aload_n 0, 1) := by decide +kernel
theorem dX10_plain_38 : decode cX10_plain 38 = .ok (.getfield 146, 3) := by decide +kernel
theorem dX10_plain_41 : decode cX10_plain 41 = .ok (.goto 7, 3) := by decide +kernel
theorem dX10_plain_44 : decode cX10_plain 44 = .ok (.aload_n 0, 1) := by decide +kernel
theorem dX10_plain_45 : decode cX10_plain 45 = .ok (.getfield 196, 3) := by decide +kernel
theorem dX10_plain_48 : decode cX10_plain 48 = .ok (.ireturn, 1) := by decide +kernel
theorem dX10_told_0 : decode cX10_told 0 = .ok (.iload_n 1, 1) := by decide +kernel
theorem dX10_told_1 : decode cX10_told 1 = .ok (.iconst 0, 1) := by decide +kernel
theorem dX10_told_2 : decode cX10_told 2 = .ok (.aload_n 0, 1) := by decide +kernel
theorem dX10_told_3 : decode cX10_told 3 = .ok (.getfield 149, 3) := by decide +kernel
theorem dX10_told_6 : decode cX10_told 6 = .ok (.sipush 300, 3) := by decide +kernel
theorem dX10_told_9 : decode cX10_told 9 = .ok (.invokestatic 215, 3) := by decide +kernel
theorem dX10_told_12 : decode cX10_told 12 = .ok (.iconst 1, 1) := by decide +kernel
theorem dX10_told_13 : decode cX10_told 13 = .ok (.isub, 1) := by decide +kernel
theorem dX10_told_14 : decode cX10_told 14 = .ok (.invokestatic 54, 3) := by decide +kernel
theorem dX10_told_17 : decode cX10_told 17 = .ok (.ifCond .eq 12, 3) := by decide +kernel
theorem dX10_told_20 : decode cX10_told 20 = .ok (.aload_n 0, 1) := by decide +kernel
theorem dX10_told_21 : decode cX10_told 21 = .ok (.getfield 39, 3) := by decide +kernel
theorem dX10_told_24 : decode cX10_told 24 = .ok (.iload_n 1, 1) := by decide +kernel
theorem dX10_told_25 : decode cX10_told 25 = .ok (.iaload, 1) := by decide +kernel
theorem dX10_told_26 : decode cX10_told 26 = .ok (.goto 4, 3) := by decide +kernel
theorem dX10_told_29 : decode cX10_told 29 = .ok (.iconst 0, 1) := by decide +kernel
theorem dX10_told_30 : decode cX10_told 30 = .ok (.ireturn, 1) := by decide +kernel
theorem dX10_trace_0 : decode cX10_trace 0 = .ok (.iload_n 1, 1) := by decide +kernel
theorem dX10_trace_1 : decode cX10_trace 1 = .ok (.iconst 0, 1) := by decide +kernel
theorem dX10_trace_2 : decode cX10_trace 2 = .ok (.aload_n 0, 1) := by decide +kernel
theorem dX10_trace_3 : decode cX10_trace 3 = .ok (.getfield 152, 3) := by decide +kernel
theorem dX10_trace_6 : decode cX10_trace 6 = .ok (.sipush 5000, 3) := by decide +kernel
theorem dX10_trace_9 : decode cX10_trace 9 = .ok (.invokestatic 215, 3) := by decide +kernel
theorem dX10_trace_12 : decode cX10_trace 12 = .ok (.iconst 1, 1) := by decide +kernel
theorem dX10_trace_13 : decode cX10_trace 13 = .ok (.isub, 1) := by decide +kernel
theorem dX10_trace_14 : decode cX10_trace 14 = .ok (.invokestatic 54, 3) := by decide +kernel
theorem dX10_trace_17 : decode cX10_trace 17 = .ok (.ifCond .eq 12, 3) := by decide +kernel
theorem dX10_trace_20 : decode cX10_trace 20 = .ok (.aload_n 0, 1) := by decide +kernel
theorem dX10_trace_21 : decode cX10_trace 21 = .ok (.getfield 42, 3) := by decide +kernel
theorem dX10_trace_24 : decode cX10_trace 24 = .ok (.iload_n 1, 1) := by decide +kernel
theorem dX10_trace_25 : decode cX10_trace 25 = .ok (.iaload, 1) := by decide +kernel
theorem dX10_trace_26 : decode cX10_trace 26 = .ok (.goto 4, 3) := by decide +kernel
theorem dX10_trace_29 : decode cX10_trace 29 = .ok (.iconst (-1), 1) := by decide +kernel
theorem dX10_trace_30 : decode cX10_trace 30 = .ok (.ireturn, 1) := by decide +kernel
theorem dX10_mark_0 : decode cX10_mark 0 = .ok (.aload_n 0, 1) := by decide +kernel
theorem dX10_mark_1 : decode cX10_mark 1 = .ok (.getfield 157, 3) := by decide +kernel
theorem dX10_mark_4 : decode cX10_mark 4 = .ok (.lreturn, 1) := by decide +kernel
theorem dX10_count_0 : decode cX10_count 0 = .ok (.iload_n 1, 1) := by decide +kernel
theorem dX10_count_1 : decode cX10_count 1 = .ok (.tableswitch 62 0 3 #[31, 36, 52, 57], 31) := by decide +kernel
theorem dX10_count_32 : decode cX10_count 32 = .ok (.aload_n 0, 1) := by decide +kernel
theorem dX10_count_33 : decode cX10_count 33 = .ok (.getfield 62, 3) := by decide +kernel
theorem dX10_count_36 : decode cX10_count 36 = .ok (.ireturn, 1) := by decide +kernel
theorem dX10_count_37 : decode cX10_count 37 = .ok (.aload_n 0, 1) := by decide +kernel
theorem dX10_count_38 : decode cX10_count 38 = .ok (.getfield 58, 3) := by decide +kernel
theorem dX10_count_41 : decode cX10_count 41 = .ok (.ifCond .eq 10, 3) := by decide +kernel
theorem dX10_count_44 : decode cX10_count 44 = .ok (.aload_n 0, 1) := by decide +kernel
theorem dX10_count_45 : decode cX10_count 45 = .ok (.getfield 125, 3) := by decide +kernel
theorem dX10_count_48 : decode cX10_count 48 = .ok (.goto 4, 3) := by decide +kernel
theorem dX10_count_51 : decode cX10_count 51 = .ok (.iconst 0, 1) := by decide +kernel
theorem dX10_count_52 : decode cX10_count 52 = .ok (.ireturn, 1) := by decide +kernel
theorem dX10_count_53 : decode cX10_count 53 = .ok (.aload_n 0, 1) := by decide +kernel
theorem dX10_count_54 : decode cX10_count 54 = .ok (.getfield 149, 3) := by decide +kernel
theorem dX10_count_57 : decode cX10_count 57 = .ok (.ireturn, 1) := by decide +kernel
theorem dX10_count_58 : decode cX10_count 58 = .ok (.aload_n 0, 1) := by decide +kernel
theorem dX10_count_59 : decode cX10_count 59 = .ok (.getfield 152, 3) := by decide +kernel
theorem dX10_count_62 : decode cX10_count 62 = .ok (.ireturn, 1) := by decide +kernel
theorem dX10_count_63 : decode cX10_count 63 = .ok (.bipush (-2), 2) := by decide +kernel
theorem dX10_count_65 : decode cX10_count 65 = .ok (.ireturn, 1) := by decide +kernel
theorem dJ9_max_7cf53_0 : decode cJ9_max_7cf53 0 = .ok (.iload_n 0, 1) := by decide +kernel
theorem dJ9_max_7cf53_1 : decode cJ9_max_7cf53 1 = .ok (.iload_n 1, 1) := by decide +kernel
theorem dJ9_max_7cf53_2 : decode cJ9_max_7cf53 2 = .ok (.if_icmp .lt 7, 3) := by decide +kernel
theorem dJ9_max_7cf53_5 : decode cJ9_max_7cf53 5 = .ok (.iload_n 0, 1) := by decide +kernel
theorem dJ9_max_7cf53_6 : decode cJ9_max_7cf53 6 = .ok (.goto 4, 3) := by decide +kernel
theorem dJ9_max_7cf53_9 : decode cJ9_max_7cf53 9 = .ok (.iload_n 1, 1) := by decide +kernel
theorem dJ9_max_7cf53_10 : decode cJ9_max_7cf53 10 = .ok (.ireturn, 1) := by decide +kernel
theorem dJ9_min_7cf53_0 : decode cJ9_min_7cf53 0 = .ok (.iload_n 0, 1) := by decide +kernel
theorem dJ9_min_7cf53_1 : decode cJ9_min_7cf53 1 = .ok (.iload_n 1, 1) := by decide +kernel
theorem dJ9_min_7cf53_2 : decode cJ9_min_7cf53 2 = .ok (.if_icmp .gt 7, 3) := by decide +kernel
theorem dJ9_min_7cf53_5 : decode cJ9_min_7cf53 5 = .ok (.iload_n 0, 1) := by decide +kernel
theorem dJ9_min_7cf53_6 : decode cJ9_min_7cf53 6 = .ok (.goto 4, 3) := by decide +kernel
theorem dJ9_min_7cf53_9 : decode cJ9_min_7cf53 9 = .ok (.iload_n 1, 1) := by decide +kernel
theorem dJ9_min_7cf53_10 : decode cJ9_min_7cf53 10 = .ok (.ireturn, 1) := by decide +kernel
theorem dJ7_fill_53178_0 : decode cJ7_fill_53178 0 = .ok (.iconst 0, 1) := by decide +kernel
theorem dJ7_fill_53178_1 : decode cJ7_fill_53178 1 = .ok (.istore_n 2, 1) := by decide +kernel
theorem dJ7_fill_53178_2 : decode cJ7_fill_53178 2 = .ok (.aload_n 0, 1) := by decide +kernel
theorem dJ7_fill_53178_3 : decode cJ7_fill_53178 3 = .ok (.arraylength, 1) := by decide +kernel
theorem dJ7_fill_53178_4 : decode cJ7_fill_53178 4 = .ok (.istore_n 3, 1) := by decide +kernel
theorem dJ7_fill_53178_5 : decode cJ7_fill_53178 5 = .ok (.iload_n 2, 1) := by decide +kernel
theorem dJ7_fill_53178_6 : decode cJ7_fill_53178 6 = .ok (.iload_n 3, 1) := by decide +kernel
theorem dJ7_fill_53178_7 : decode cJ7_fill_53178 7 = .ok (.if_icmp .ge 13, 3) := by decide +kernel
theorem dJ7_fill_53178_10 : decode cJ7_fill_53178 10 = .ok (.aload_n 0, 1) := by decide +kernel
theorem dJ7_fill_53178_11 : decode cJ7_fill_53178 11 = .ok (.iload_n 2, 1) := by decide +kernel
theorem dJ7_fill_53178_12 : decode cJ7_fill_53178 12 = .ok (.iload_n 1, 1) := by decide +kernel
theorem dJ7_fill_53178_13 : decode cJ7_fill_53178 13 = .ok (.iastore, 1) := by decide +kernel
theorem dJ7_fill_53178_14 : decode cJ7_fill_53178 14 = .ok (.iinc 2 1, 3) := by decide +kernel
theorem dJ7_fill_53178_17 : decode cJ7_fill_53178 17 = .ok (.goto (-12), 3) := by decide +kernel
theorem dJ7_fill_53178_20 : decode cJ7_fill_53178 20 = .ok (.return_, 1) := by decide +kernel
theorem dL_law_0 : decode cL_law 0 = .ok (.new 7, 3) := by decide +kernel
theorem dL_law_3 : decode cL_law 3 = .ok (.dup, 1) := by decide +kernel
theorem dL_law_4 : decode cL_law 4 = .ok (.invokespecial 9, 3) := by decide +kernel
theorem dL_law_7 : decode cL_law 7 = .ok (.astore_n 1, 1) := by decide +kernel
theorem dL_law_8 : decode cL_law 8 = .ok (.new 10, 3) := by decide +kernel
theorem dL_law_11 : decode cL_law 11 = .ok (.dup, 1) := by decide +kernel
theorem dL_law_12 : decode cL_law 12 = .ok (.invokespecial 12, 3) := by decide +kernel
theorem dL_law_15 : decode cL_law 15 = .ok (.astore_n 2, 1) := by decide +kernel
theorem dL_law_16 : decode cL_law 16 = .ok (.iconst 0, 1) := by decide +kernel
theorem dL_law_17 : decode cL_law 17 = .ok (.istore_n 3, 1) := by decide +kernel
theorem dL_law_18 : decode cL_law 18 = .ok (.iload_n 3, 1) := by decide +kernel
theorem dL_law_19 : decode cL_law 19 = .ok (.aload_n 0, 1) := by decide +kernel
theorem dL_law_20 : decode cL_law 20 = .ok (.arraylength, 1) := by decide +kernel
theorem dL_law_21 : decode cL_law 21 = .ok (.iconst 4, 1) := by decide +kernel
theorem dL_law_22 : decode cL_law 22 = .ok (.isub, 1) := by decide +kernel
theorem dL_law_23 : decode cL_law 23 = .ok (.if_icmp .gt 516, 3) := by decide +kernel
theorem dL_law_26 : decode cL_law 26 = .ok (.aload_n 0, 1) := by decide +kernel
theorem dL_law_27 : decode cL_law 27 = .ok (.iload_n 3, 1) := by decide +kernel
theorem dL_law_28 : decode cL_law 28 = .ok (.iaload, 1) := by decide +kernel
theorem dL_law_29 : decode cL_law 29 = .ok (.bipush 15, 2) := by decide +kernel
theorem dL_law_31 : decode cL_law 31 = .ok (.iand, 1) := by decide +kernel
theorem dL_law_32 : decode cL_law 32 = .ok (.tableswitch 501 0 15 #[80, 129, 188, 211, 224, 237, 260, 293, 336, 359, 392, 405, 418, 441, 464, 478], 80) := by decide +kernel
theorem dL_law_112 : decode cL_law 112 = .ok (.aload_n 1, 1) := by decide +kernel
theorem dL_law_113 : decode cL_law 113 = .ok (.aload_n 0, 1) := by decide +kernel
theorem dL_law_114 : decode cL_law 114 = .ok (.iload_n 3, 1) := by decide +kernel
theorem dL_law_115 : decode cL_law 115 = .ok (.iconst 1, 1) := by decide +kernel
theorem dL_law_116 : decode cL_law 116 = .ok (.iadd, 1) := by decide +kernel
theorem dL_law_117 : decode cL_law 117 = .ok (.iaload, 1) := by decide +kernel
theorem dL_law_118 : decode cL_law 118 = .ok (.aload_n 0, 1) := by decide +kernel
theorem dL_law_119 : decode cL_law 119 = .ok (.iload_n 3, 1) := by decide +kernel
theorem dL_law_120 : decode cL_law 120 = .ok (.iconst 2, 1) := by decide +kernel
theorem dL_law_121 : decode cL_law 121 = .ok (.iadd, 1) := by decide +kernel
theorem dL_law_122 : decode cL_law 122 = .ok (.iaload, 1) := by decide +kernel
theorem dL_law_123 : decode cL_law 123 = .ok (.ifCond .eq 7, 3) := by decide +kernel
theorem dL_law_126 : decode cL_law 126 = .ok (.iconst 1, 1) := by decide +kernel
theorem dL_law_127 : decode cL_law 127 = .ok (.goto 4, 3) := by decide +kernel
theorem dL_law_130 : decode cL_law 130 = .ok (.iconst 0, 1) := by decide +kernel
theorem dL_law_131 : decode cL_law 131 = .ok (.invokevirtual 13, 3) := by decide +kernel
theorem dL_law_134 : decode cL_law 134 = .ok (.aload_n 2, 1) := by decide +kernel
theorem dL_law_135 : decode cL_law 135 = .ok (.aload_n 0, 1) := by decide +kernel
theorem dL_law_136 : decode cL_law 136 = .ok (.iload_n 3, 1) := by decide +kernel
theorem dL_law_137 : decode cL_law 137 = .ok (.iconst 1, 1) := by decide +kernel
theorem dL_law_138 : decode cL_law 138 = .ok (.iadd, 1) := by decide +kernel
theorem dL_law_139 : decode cL_law 139 = .ok (.iaload, 1) := by decide +kernel
theorem dL_law_140 : decode cL_law 140 = .ok (.aload_n 0, 1) := by decide +kernel
theorem dL_law_141 : decode cL_law 141 = .ok (.iload_n 3, 1) := by decide +kernel
theorem dL_law_142 : decode cL_law 142 = .ok (.iconst 2, 1) := by decide +kernel
theorem dL_law_143 : decode cL_law 143 = .ok (.iadd, 1) := by decide +kernel
theorem dL_law_144 : decode cL_law 144 = .ok (.iaload, 1) := by decide +kernel
theorem dL_law_145 : decode cL_law 145 = .ok (.ifCond .eq 7, 3) := by decide +kernel
theorem dL_law_148 : decode cL_law 148 = .ok (.iconst 1, 1) := by decide +kernel
theorem dL_law_149 : decode cL_law 149 = .ok (.goto 4, 3) := by decide +kernel
theorem dL_law_152 : decode cL_law 152 = .ok (.iconst 0, 1) := by decide +kernel
theorem dL_law_153 : decode cL_law 153 = .ok (.invokevirtual 17, 3) := by decide +kernel
theorem dL_law_156 : decode cL_law 156 = .ok (.if_icmp .eq 377, 3) := by decide +kernel
theorem dL_law_159 : decode cL_law 159 = .ok (.iconst 0, 1) := by decide +kernel
theorem dL_law_160 : decode cL_law 160 = .ok (.ireturn, 1) := by decide +kernel
theorem dL_law_161 : decode cL_law 161 = .ok (.aload_n 1, 1) := by decide +kernel
theorem dL_law_162 : decode cL_law 162 = .ok (.aload_n 0, 1) := by decide +kernel
theorem dL_law_163 : decode cL_law 163 = .ok (.iload_n 3, 1) := by decide +kernel
theorem dL_law_164 : decode cL_law 164 = .ok (.iconst 1, 1) := by decide +kernel
theorem dL_law_165 : decode cL_law 165 = .ok (.iadd, 1) := by decide +kernel
theorem dL_law_166 : decode cL_law 166 = .ok (.iaload, 1) := by decide +kernel
theorem dL_law_167 : decode cL_law 167 = .ok (.aload_n 0, 1) := by decide +kernel
theorem dL_law_168 : decode cL_law 168 = .ok (.iload_n 3, 1) := by decide +kernel
theorem dL_law_169 : decode cL_law 169 = .ok (.iconst 2, 1) := by decide +kernel
theorem dL_law_170 : decode cL_law 170 = .ok (.iadd, 1) := by decide +kernel
theorem dL_law_171 : decode cL_law 171 = .ok (.iaload, 1) := by decide +kernel
theorem dL_law_172 : decode cL_law 172 = .ok (.ifCond .eq 7, 3) := by decide +kernel
theorem dL_law_175 : decode cL_law 175 = .ok (.iconst 1, 1) := by decide +kernel
theorem dL_law_176 : decode cL_law 176 = .ok (.goto 4, 3) := by decide +kernel
theorem dL_law_179 : decode cL_law 179 = .ok (.iconst 0, 1) := by decide +kernel
theorem dL_law_180 : decode cL_law 180 = .ok (.aload_n 0, 1) := by decide +kernel
theorem dL_law_181 : decode cL_law 181 = .ok (.iload_n 3, 1) := by decide +kernel
theorem dL_law_182 : decode cL_law 182 = .ok (.iconst 3, 1) := by decide +kernel
theorem dL_law_183 : decode cL_law 183 = .ok (.iadd, 1) := by decide +kernel
theorem dL_law_184 : decode cL_law 184 = .ok (.iaload, 1) := by decide +kernel
theorem dL_law_185 : decode cL_law 185 = .ok (.invokevirtual 18, 3) := by decide +kernel
theorem dL_law_188 : decode cL_law 188 = .ok (.aload_n 2, 1) := by decide +kernel
theorem dL_law_189 : decode cL_law 189 = .ok (.aload_n 0, 1) := by decide +kernel
theorem dL_law_190 : decode cL_law 190 = .ok (.iload_n 3, 1) := by decide +kernel
theorem dL_law_191 : decode cL_law 191 = .ok (.iconst 1, 1) := by decide +kernel
theorem dL_law_192 : decode cL_law 192 = .ok (.iadd, 1) := by decide +kernel
theorem dL_law_193 : decode cL_law 193 = .ok (.iaload, 1) := by decide +kernel
theorem dL_law_194 : decode cL_law 194 = .ok (.aload_n 0, 1) := by decide +kernel
theorem dL_law_195 : decode cL_law 195 = .ok (.iload_n 3, 1) := by decide +kernel
theorem dL_law_196 : decode cL_law 196 = .ok (.iconst 2, 1) := by decide +kernel
theorem dL_law_197 : decode cL_law 197 = .ok (.iadd, 1) := by decide +kernel
theorem dL_law_198 : decode cL_law 198 = .ok (.iaload, 1) := by decide +kernel
theorem dL_law_199 : decode cL_law 199 = .ok (.ifCond .eq 7, 3) := by decide +kernel
theorem dL_law_202 : decode cL_law 202 = .ok (.iconst 1, 1) := by decide +kernel
theorem dL_law_203 : decode cL_law 203 = .ok (.goto 4, 3) := by decide +kernel
theorem dL_law_206 : decode cL_law 206 = .ok (.iconst 0, 1) := by decide +kernel
theorem dL_law_207 : decode cL_law 207 = .ok (.aload_n 0, 1) := by decide +kernel
theorem dL_law_208 : decode cL_law 208 = .ok (.iload_n 3, 1) := by decide +kernel
theorem dL_law_209 : decode cL_law 209 = .ok (.iconst 3, 1) := by decide +kernel
theorem dL_law_210 : decode cL_law 210 = .ok (.iadd, 1) := by decide +kernel
theorem dL_law_211 : decode cL_law 211 = .ok (.iaload, 1) := by decide +kernel
theorem dL_law_212 : decode cL_law 212 = .ok (.invokevirtual 22, 3) := by decide +kernel
theorem dL_law_215 : decode cL_law 215 = .ok (.if_icmp .eq 318, 3) := by decide +kernel
theorem dL_law_218 : decode cL_law 218 = .ok (.iconst 0, 1) := by decide +kernel
theorem dL_law_219 : decode cL_law 219 = .ok (.ireturn, 1) := by decide +kernel
theorem dL_law_220 : decode cL_law 220 = .ok (.aload_n 1, 1) := by decide +kernel
theorem dL_law_221 : decode cL_law 221 = .ok (.aload_n 0, 1) := by decide +kernel
theorem dL_law_222 : decode cL_law 222 = .ok (.iload_n 3, 1) := by decide +kernel
theorem dL_law_223 : decode cL_law 223 = .ok (.iconst 1, 1) := by decide +kernel
theorem dL_law_224 : decode cL_law 224 = .ok (.iadd, 1) := by decide +kernel
theorem dL_law_225 : decode cL_law 225 = .ok (.iaload, 1) := by decide +kernel
theorem dL_law_226 : decode cL_law 226 = .ok (.invokevirtual 23, 3) := by decide +kernel
theorem dL_law_229 : decode cL_law 229 = .ok (.aload_n 2, 1) := by decide +kernel
theorem dL_law_230 : decode cL_law 230 = .ok (.aload_n 0, 1) := by decide +kernel
theorem dL_law_231 : decode cL_law 231 = .ok (.iload_n 3, 1) := by decide +kernel
theorem dL_law_232 : decode cL_law 232 = .ok (.iconst 1, 1) := by decide +kernel
theorem dL_law_233 : decode cL_law 233 = .ok (.iadd, 1) := by decide +kernel
theorem dL_law_234 : decode cL_law 234 = .ok (.iaload, 1) := by decide +kernel
theorem dL_law_235 : decode cL_law 235 = .ok (.invokevirtual 27, 3) := by decide +kernel
theorem dL_law_238 : decode cL_law 238 = .ok (.if_icmp .eq 295, 3) := by decide +kernel
theorem dL_law_241 : decode cL_law 241 = .ok (.iconst 0, 1) := by decide +kernel
theorem dL_law_242 : decode cL_law 242 = .ok (.ireturn, 1) := by decide +kernel
theorem dL_law_243 : decode cL_law 243 = .ok (.aload_n 1, 1) := by decide +kernel
theorem dL_law_244 : decode cL_law 244 = .ok (.invokevirtual 28, 3) := by decide +kernel
theorem dL_law_247 : decode cL_law 247 = .ok (.aload_n 2, 1) := by decide +kernel
theorem dL_law_248 : decode cL_law 248 = .ok (.invokevirtual 32, 3) := by decide +kernel
theorem dL_law_251 : decode cL_law 251 = .ok (.if_icmp .eq 282, 3) := by decide +kernel
theorem dL_law_254 : decode cL_law 254 = .ok (.iconst 0, 1) := by decide +kernel
theorem dL_law_255 : decode cL_law 255 = .ok (.ireturn, 1) := by decide +kernel
theorem dL_law_256 : decode cL_law 256 = .ok (.aload_n 1, 1) := by decide +kernel
theorem dL_law_257 : decode cL_law 257 = .ok (.invokevirtual 33, 3) := by decide +kernel
theorem dL_law_260 : decode cL_law 260 = .ok (.aload_n 2, 1) := by decide +kernel
theorem dL_law_261 : decode cL_law 261 = .ok (.invokevirtual 36, 3) := by decide +kernel
theorem dL_law_264 : decode cL_law 264 = .ok (.if_icmp .eq 269, 3) := by decide +kernel
theorem dL_law_267 : decode cL_law 267 = .ok (.iconst 0, 1) := by decide +kernel
theorem dL_law_268 : decode cL_law 268 = .ok (.ireturn, 1) := by decide +kernel
theorem dL_law_269 : decode cL_law 269 = .ok (.aload_n 1, 1) := by decide +kernel
theorem dL_law_270 : decode cL_law 270 = .ok (.aload_n 0, 1) := by decide +kernel
theorem dL_law_271 : decode cL_law 271 = .ok (.iload_n 3, 1) := by decide +kernel
theorem dL_law_272 : decode cL_law 272 = .ok (.iconst 1, 1) := by decide +kernel
theorem dL_law_273 : decode cL_law 273 = .ok (.iadd, 1) := by decide +kernel
theorem dL_law_274 : decode cL_law 274 = .ok (.iaload, 1) := by decide +kernel
theorem dL_law_275 : decode cL_law 275 = .ok (.invokevirtual 37, 3) := by decide +kernel
theorem dL_law_278 : decode cL_law 278 = .ok (.aload_n 2, 1) := by decide +kernel
theorem dL_law_279 : decode cL_law 279 = .ok (.aload_n 0, 1) := by decide +kernel
theorem dL_law_280 : decode cL_law 280 = .ok (.iload_n 3, 1) := by decide +kernel
theorem dL_law_281 : decode cL_law 281 = .ok (.iconst 1, 1) := by decide +kernel
theorem dL_law_282 : decode cL_law 282 = .ok (.iadd, 1) := by decide +kernel
theorem dL_law_283 : decode cL_law 283 = .ok (.iaload, 1) := by decide +kernel
theorem dL_law_284 : decode cL_law 284 = .ok (.invokevirtual 40, 3) := by decide +kernel
theorem dL_law_287 : decode cL_law 287 = .ok (.if_icmp .eq 246, 3) := by decide +kernel
theorem dL_law_290 : decode cL_law 290 = .ok (.iconst 0, 1) := by decide +kernel
theorem dL_law_291 : decode cL_law 291 = .ok (.ireturn, 1) := by decide +kernel
theorem dL_law_292 : decode cL_law 292 = .ok (.aload_n 1, 1) := by decide +kernel
theorem dL_law_293 : decode cL_law 293 = .ok (.aload_n 0, 1) := by decide +kernel
theorem dL_law_294 : decode cL_law 294 = .ok (.iload_n 3, 1) := by decide +kernel
theorem dL_law_295 : decode cL_law 295 = .ok (.iconst 1, 1) := by decide +kernel
theorem dL_law_296 : decode cL_law 296 = .ok (.iadd, 1) := by decide +kernel
theorem dL_law_297 : decode cL_law 297 = .ok (.iaload, 1) := by decide +kernel
theorem dL_law_298 : decode cL_law 298 = .ok (.aload_n 0, 1) := by decide +kernel
theorem dL_law_299 : decode cL_law 299 = .ok (.iload_n 3, 1) := by decide +kernel
theorem dL_law_300 : decode cL_law 300 = .ok (.iconst 2, 1) := by decide +kernel
theorem dL_law_301 : decode cL_law 301 = .ok (.iadd, 1) := by decide +kernel
theorem dL_law_302 : decode cL_law 302 = .ok (.iaload, 1) := by decide +kernel
theorem dL_law_303 : decode cL_law 303 = .ok (.invokevirtual 41, 3) := by decide +kernel
theorem dL_law_306 : decode cL_law 306 = .ok (.aload_n 2, 1) := by decide +kernel
theorem dL_law_307 : decode cL_law 307 = .ok (.aload_n 0, 1) := by decide +kernel
theorem dL_law_308 : decode cL_law 308 = .ok (.iload_n 3, 1) := by decide +kernel
theorem dL_law_309 : decode cL_law 309 = .ok (.iconst 1, 1) := by decide +kernel
theorem dL_law_310 : decode cL_law 310 = .ok (.iadd, 1) := by decide +kernel
theorem dL_law_311 : decode cL_law 311 = .ok (.iaload, 1) := by decide +kernel
theorem dL_law_312 : decode cL_law 312 = .ok (.aload_n 0, 1) := by decide +kernel
theorem dL_law_313 : decode cL_law 313 = .ok (.iload_n 3, 1) := by decide +kernel
theorem dL_law_314 : decode cL_law 314 = .ok (.iconst 2, 1) := by decide +kernel
theorem dL_law_315 : decode cL_law 315 = .ok (.iadd, 1) := by decide +kernel
theorem dL_law_316 : decode cL_law 316 = .ok (.iaload, 1) := by decide +kernel
theorem dL_law_317 : decode cL_law 317 = .ok (.invokevirtual 45, 3) := by decide +kernel
theorem dL_law_320 : decode cL_law 320 = .ok (.if_icmp .eq 213, 3) := by decide +kernel
theorem dL_law_323 : decode cL_law 323 = .ok (.iconst 0, 1) := by decide +kernel
theorem dL_law_324 : decode cL_law 324 = .ok (.ireturn, 1) := by decide +kernel
theorem dL_law_325 : decode cL_law 325 = .ok (.aload_n 1, 1) := by decide +kernel
theorem dL_law_326 : decode cL_law 326 = .ok (.aload_n 0, 1) := by decide +kernel
theorem dL_law_327 : decode cL_law 327 = .ok (.iload_n 3, 1) := by decide +kernel
theorem dL_law_328 : decode cL_law 328 = .ok (.iconst 1, 1) := by decide +kernel
theorem dL_law_329 : decode cL_law 329 = .ok (.iadd, 1) := by decide +kernel
theorem dL_law_330 : decode cL_law 330 = .ok (.iaload, 1) := by decide +kernel
theorem dL_law_331 : decode cL_law 331 = .ok (.aload_n 0, 1) := by decide +kernel
theorem dL_law_332 : decode cL_law 332 = .ok (.iload_n 3, 1) := by decide +kernel
theorem dL_law_333 : decode cL_law 333 = .ok (.iconst 2, 1) := by decide +kernel
theorem dL_law_334 : decode cL_law 334 = .ok (.iadd, 1) := by decide +kernel
theorem dL_law_335 : decode cL_law 335 = .ok (.iaload, 1) := by decide +kernel
theorem dL_law_336 : decode cL_law 336 = .ok (.aload_n 0, 1) := by decide +kernel
theorem dL_law_337 : decode cL_law 337 = .ok (.iload_n 3, 1) := by decide +kernel
theorem dL_law_338 : decode cL_law 338 = .ok (.iconst 3, 1) := by decide +kernel
theorem dL_law_339 : decode cL_law 339 = .ok (.iadd, 1) := by decide +kernel
theorem dL_law_340 : decode cL_law 340 = .ok (.iaload, 1) := by decide +kernel
theorem dL_law_341 : decode cL_law 341 = .ok (.invokevirtual 46, 3) := by decide +kernel
theorem dL_law_344 : decode cL_law 344 = .ok (.aload_n 2, 1) := by decide +kernel
theorem dL_law_345 : decode cL_law 345 = .ok (.aload_n 0, 1) := by decide +kernel
theorem dL_law_346 : decode cL_law 346 = .ok (.iload_n 3, 1) := by decide +kernel
theorem dL_law_347 : decode cL_law 347 = .ok (.iconst 1, 1) := by decide +kernel
theorem dL_law_348 : decode cL_law 348 = .ok (.iadd, 1) := by decide +kernel
theorem dL_law_349 : decode cL_law 349 = .ok (.iaload, 1) := by decide +kernel
theorem dL_law_350 : decode cL_law 350 = .ok (.aload_n 0, 1) := by decide +kernel
theorem dL_law_351 : decode cL_law 351 = .ok (.iload_n 3, 1) := by decide +kernel
theorem dL_law_352 : decode cL_law 352 = .ok (.iconst 2, 1) := by decide +kernel
theorem dL_law_353 : decode cL_law 353 = .ok (.iadd, 1) := by decide +kernel
theorem dL_law_354 : decode cL_law 354 = .ok (.iaload, 1) := by decide +kernel
theorem dL_law_355 : decode cL_law 355 = .ok (.aload_n 0, 1) := by decide +kernel
theorem dL_law_356 : decode cL_law 356 = .ok (.iload_n 3, 1) := by decide +kernel
theorem dL_law_357 : decode cL_law 357 = .ok (.iconst 3, 1) := by decide +kernel
theorem dL_law_358 : decode cL_law 358 = .ok (.iadd, 1) := by decide +kernel
theorem dL_law_359 : decode cL_law 359 = .ok (.iaload, 1) := by decide +kernel
theorem dL_law_360 : decode cL_law 360 = .ok (.invokevirtual 50, 3) := by decide +kernel
theorem dL_law_363 : decode cL_law 363 = .ok (.if_icmp .eq 170, 3) := by decide +kernel
theorem dL_law_366 : decode cL_law 366 = .ok (.iconst 0, 1) := by decide +kernel
theorem dL_law_367 : decode cL_law 367 = .ok (.ireturn, 1) := by decide +kernel
theorem dL_law_368 : decode cL_law 368 = .ok (.aload_n 1, 1) := by decide +kernel
theorem dL_law_369 : decode cL_law 369 = .ok (.aload_n 0, 1) := by decide +kernel
theorem dL_law_370 : decode cL_law 370 = .ok (.iload_n 3, 1) := by decide +kernel
theorem dL_law_371 : decode cL_law 371 = .ok (.iconst 1, 1) := by decide +kernel
theorem dL_law_372 : decode cL_law 372 = .ok (.iadd, 1) := by decide +kernel
theorem dL_law_373 : decode cL_law 373 = .ok (.iaload, 1) := by decide +kernel
theorem dL_law_374 : decode cL_law 374 = .ok (.invokevirtual 51, 3) := by decide +kernel
theorem dL_law_377 : decode cL_law 377 = .ok (.aload_n 2, 1) := by decide +kernel
theorem dL_law_378 : decode cL_law 378 = .ok (.aload_n 0, 1) := by decide +kernel
theorem dL_law_379 : decode cL_law 379 = .ok (.iload_n 3, 1) := by decide +kernel
theorem dL_law_380 : decode cL_law 380 = .ok (.iconst 1, 1) := by decide +kernel
theorem dL_law_381 : decode cL_law 381 = .ok (.iadd, 1) := by decide +kernel
theorem dL_law_382 : decode cL_law 382 = .ok (.iaload, 1) := by decide +kernel
theorem dL_law_383 : decode cL_law 383 = .ok (.invokevirtual 54, 3) := by decide +kernel
theorem dL_law_386 : decode cL_law 386 = .ok (.if_icmp .eq 147, 3) := by decide +kernel
theorem dL_law_389 : decode cL_law 389 = .ok (.iconst 0, 1) := by decide +kernel
theorem dL_law_390 : decode cL_law 390 = .ok (.ireturn, 1) := by decide +kernel
theorem dL_law_391 : decode cL_law 391 = .ok (.aload_n 1, 1) := by decide +kernel
theorem dL_law_392 : decode cL_law 392 = .ok (.aload_n 0, 1) := by decide +kernel
theorem dL_law_393 : decode cL_law 393 = .ok (.iload_n 3, 1) := by decide +kernel
theorem dL_law_394 : decode cL_law 394 = .ok (.iconst 1, 1) := by decide +kernel
theorem dL_law_395 : decode cL_law 395 = .ok (.iadd, 1) := by decide +kernel
theorem dL_law_396 : decode cL_law 396 = .ok (.iaload, 1) := by decide +kernel
theorem dL_law_397 : decode cL_law 397 = .ok (.aload_n 0, 1) := by decide +kernel
theorem dL_law_398 : decode cL_law 398 = .ok (.iload_n 3, 1) := by decide +kernel
theorem dL_law_399 : decode cL_law 399 = .ok (.iconst 2, 1) := by decide +kernel
theorem dL_law_400 : decode cL_law 400 = .ok (.iadd, 1) := by decide +kernel
theorem dL_law_401 : decode cL_law 401 = .ok (.iaload, 1) := by decide +kernel
theorem dL_law_402 : decode cL_law 402 = .ok (.invokevirtual 55, 3) := by decide +kernel
theorem dL_law_405 : decode cL_law 405 = .ok (.aload_n 2, 1) := by decide +kernel
theorem dL_law_406 : decode cL_law 406 = .ok (.aload_n 0, 1) := by decide +kernel
theorem dL_law_407 : decode cL_law 407 = .ok (.iload_n 3, 1) := by decide +kernel
theorem dL_law_408 : decode cL_law 408 = .ok (.iconst 1, 1) := by decide +kernel
theorem dL_law_409 : decode cL_law 409 = .ok (.iadd, 1) := by decide +kernel
theorem dL_law_410 : decode cL_law 410 = .ok (.iaload, 1) := by decide +kernel
theorem dL_law_411 : decode cL_law 411 = .ok (.aload_n 0, 1) := by decide +kernel
theorem dL_law_412 : decode cL_law 412 = .ok (.iload_n 3, 1) := by decide +kernel
theorem dL_law_413 : decode cL_law 413 = .ok (.iconst 2, 1) := by decide +kernel
theorem dL_law_414 : decode cL_law 414 = .ok (.iadd, 1) := by decide +kernel
theorem dL_law_415 : decode cL_law 415 = .ok (.iaload, 1) := by decide +kernel
theorem dL_law_416 : decode cL_law 416 = .ok (.invokevirtual 58, 3) := by decide +kernel
theorem dL_law_419 : decode cL_law 419 = .ok (.if_icmp .eq 114, 3) := by decide +kernel
theorem dL_law_422 : decode cL_law 422 = .ok (.iconst 0, 1) := by decide +kernel
theorem dL_law_423 : decode cL_law 423 = .ok (.ireturn, 1) := by decide +kernel
theorem dL_law_424 : decode cL_law 424 = .ok (.aload_n 1, 1) := by decide +kernel
theorem dL_law_425 : decode cL_law 425 = .ok (.invokevirtual 59, 3) := by decide +kernel
theorem dL_law_428 : decode cL_law 428 = .ok (.aload_n 2, 1) := by decide +kernel
theorem dL_law_429 : decode cL_law 429 = .ok (.invokevirtual 62, 3) := by decide +kernel
theorem dL_law_432 : decode cL_law 432 = .ok (.if_icmp .eq 101, 3) := by decide +kernel
theorem dL_law_435 : decode cL_law 435 = .ok (.iconst 0, 1) := by decide +kernel
theorem dL_law_436 : decode cL_law 436 = .ok (.ireturn, 1) := by decide +kernel
theorem dL_law_437 : decode cL_law 437 = .ok (.aload_n 1, 1) := by decide +kernel
theorem dL_law_438 : decode cL_law 438 = .ok (.invokevirtual 63, 3) := by decide +kernel
theorem dL_law_441 : decode cL_law 441 = .ok (.aload_n 2, 1) := by decide +kernel
theorem dL_law_442 : decode cL_law 442 = .ok (.invokevirtual 66, 3) := by decide +kernel
theorem dL_law_445 : decode cL_law 445 = .ok (.if_icmp .eq 88, 3) := by decide +kernel
theorem dL_law_448 : decode cL_law 448 = .ok (.iconst 0, 1) := by decide +kernel
theorem dL_law_449 : decode cL_law 449 = .ok (.ireturn, 1) := by decide +kernel
theorem dL_law_450 : decode cL_law 450 = .ok (.aload_n 1, 1) := by decide +kernel
theorem dL_law_451 : decode cL_law 451 = .ok (.aload_n 0, 1) := by decide +kernel
theorem dL_law_452 : decode cL_law 452 = .ok (.iload_n 3, 1) := by decide +kernel
theorem dL_law_453 : decode cL_law 453 = .ok (.iconst 1, 1) := by decide +kernel
theorem dL_law_454 : decode cL_law 454 = .ok (.iadd, 1) := by decide +kernel
theorem dL_law_455 : decode cL_law 455 = .ok (.iaload, 1) := by decide +kernel
theorem dL_law_456 : decode cL_law 456 = .ok (.invokevirtual 67, 3) := by decide +kernel
theorem dL_law_459 : decode cL_law 459 = .ok (.aload_n 2, 1) := by decide +kernel
theorem dL_law_460 : decode cL_law 460 = .ok (.aload_n 0, 1) := by decide +kernel
theorem dL_law_461 : decode cL_law 461 = .ok (.iload_n 3, 1) := by decide +kernel
theorem dL_law_462 : decode cL_law 462 = .ok (.iconst 1, 1) := by decide +kernel
theorem dL_law_463 : decode cL_law 463 = .ok (.iadd, 1) := by decide +kernel
theorem dL_law_464 : decode cL_law 464 = .ok (.iaload, 1) := by decide +kernel
theorem dL_law_465 : decode cL_law 465 = .ok (.invokevirtual 70, 3) := by decide +kernel
theorem dL_law_468 : decode cL_law 468 = .ok (.if_icmp .eq 65, 3) := by decide +kernel
theorem dL_law_471 : decode cL_law 471 = .ok (.iconst 0, 1) := by decide +kernel
theorem dL_law_472 : decode cL_law 472 = .ok (.ireturn, 1) := by decide +kernel
theorem dL_law_473 : decode cL_law 473 = .ok (.aload_n 1, 1) := by decide +kernel
theorem dL_law_474 : decode cL_law 474 = .ok (.aload_n 0, 1) := by decide +kernel
theorem dL_law_475 : decode cL_law 475 = .ok (.iload_n 3, 1) := by decide +kernel
theorem dL_law_476 : decode cL_law 476 = .ok (.iconst 1, 1) := by decide +kernel
theorem dL_law_477 : decode cL_law 477 = .ok (.iadd, 1) := by decide +kernel
theorem dL_law_478 : decode cL_law 478 = .ok (.iaload, 1) := by decide +kernel
theorem dL_law_479 : decode cL_law 479 = .ok (.invokevirtual 71, 3) := by decide +kernel
theorem dL_law_482 : decode cL_law 482 = .ok (.aload_n 2, 1) := by decide +kernel
theorem dL_law_483 : decode cL_law 483 = .ok (.aload_n 0, 1) := by decide +kernel
theorem dL_law_484 : decode cL_law 484 = .ok (.iload_n 3, 1) := by decide +kernel
theorem dL_law_485 : decode cL_law 485 = .ok (.iconst 1, 1) := by decide +kernel
theorem dL_law_486 : decode cL_law 486 = .ok (.iadd, 1) := by decide +kernel
theorem dL_law_487 : decode cL_law 487 = .ok (.iaload, 1) := by decide +kernel
theorem dL_law_488 : decode cL_law 488 = .ok (.invokevirtual 74, 3) := by decide +kernel
theorem dL_law_491 : decode cL_law 491 = .ok (.if_icmp .eq 42, 3) := by decide +kernel
theorem dL_law_494 : decode cL_law 494 = .ok (.iconst 0, 1) := by decide +kernel
theorem dL_law_495 : decode cL_law 495 = .ok (.ireturn, 1) := by decide +kernel
theorem dL_law_496 : decode cL_law 496 = .ok (.aload_n 1, 1) := by decide +kernel
theorem dL_law_497 : decode cL_law 497 = .ok (.invokevirtual 75, 3) := by decide +kernel
theorem dL_law_500 : decode cL_law 500 = .ok (.aload_n 2, 1) := by decide +kernel
theorem dL_law_501 : decode cL_law 501 = .ok (.invokevirtual 79, 3) := by decide +kernel
theorem dL_law_504 : decode cL_law 504 = .ok (.lcmp, 1) := by decide +kernel
theorem dL_law_505 : decode cL_law 505 = .ok (.ifCond .eq 28, 3) := by decide +kernel
theorem dL_law_508 : decode cL_law 508 = .ok (.iconst 0, 1) := by decide +kernel
theorem dL_law_509 : decode cL_law 509 = .ok (.ireturn, 1) := by decide +kernel
theorem dL_law_510 : decode cL_law 510 = .ok (.aload_n 1, 1) := by decide +kernel
theorem dL_law_511 : decode cL_law 511 = .ok (.aload_n 0, 1) := by decide +kernel
theorem dL_law_512 : decode cL_law 512 = .ok (.iload_n 3, 1) := by decide +kernel
theorem dL_law_513 : decode cL_law 513 = .ok (.iconst 1, 1) := by decide +kernel
theorem dL_law_514 : decode cL_law 514 = .ok (.iadd, 1) := by decide +kernel
theorem dL_law_515 : decode cL_law 515 = .ok (.iaload, 1) := by decide +kernel
theorem dL_law_516 : decode cL_law 516 = .ok (.invokevirtual 80, 3) := by decide +kernel
theorem dL_law_519 : decode cL_law 519 = .ok (.aload_n 2, 1) := by decide +kernel
theorem dL_law_520 : decode cL_law 520 = .ok (.aload_n 0, 1) := by decide +kernel
theorem dL_law_521 : decode cL_law 521 = .ok (.iload_n 3, 1) := by decide +kernel
theorem dL_law_522 : decode cL_law 522 = .ok (.iconst 1, 1) := by decide +kernel
theorem dL_law_523 : decode cL_law 523 = .ok (.iadd, 1) := by decide +kernel
theorem dL_law_524 : decode cL_law 524 = .ok (.iaload, 1) := by decide +kernel
theorem dL_law_525 : decode cL_law 525 = .ok (.invokevirtual 83, 3) := by decide +kernel
theorem dL_law_528 : decode cL_law 528 = .ok (.if_icmp .eq 5, 3) := by decide +kernel
theorem dL_law_531 : decode cL_law 531 = .ok (.iconst 0, 1) := by decide +kernel
theorem dL_law_532 : decode cL_law 532 = .ok (.ireturn, 1) := by decide +kernel
theorem dL_law_533 : decode cL_law 533 = .ok (.iinc 3 4, 3) := by decide +kernel
theorem dL_law_536 : decode cL_law 536 = .ok (.goto (-518), 3) := by decide +kernel
theorem dL_law_539 : decode cL_law 539 = .ok (.iconst 1, 1) := by decide +kernel
theorem dL_law_540 : decode cL_law 540 = .ok (.ireturn, 1) := by decide +kernel
