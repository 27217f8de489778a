theorem dX3_init_0 : decode cX3_init 0 = .ok (.aload_n 0, 1) := by decide +kernel
theorem dX3_init_1 : decode cX3_init 1 = .ok (.invokespecial 1, 3) := by decide +kernel
theorem dX3_init_4 : decode cX3_init 4 = .ok (.aload_n 0, 1) := by decide +kernel
theorem dX3_init_5 : decode cX3_init 5 = .ok (.bipush 60, 2) := by decide +kernel
theorem dX3_init_7 : decode cX3_init 7 = .ok (.newarray .int, 2) := by decide +kernel
theorem dX3_init_9 : decode cX3_init 9 = .ok (.putfield 7, 3) := by decide +kernel
theorem dX3_init_12 : decode cX3_init 12 = .ok (.aload_n 0, 1) := by decide +kernel
theorem dX3_init_13 : decode cX3_init 13 = .ok (.bipush 60, 2) := by decide +kernel
theorem dX3_init_15 : decode cX3_init 15 = .ok (.newarray .int, 2) := by decide +kernel
theorem dX3_init_17 : decode cX3_init 17 = .ok (.putfield 13, 3) := by decide +kernel
theorem dX3_init_20 : decode cX3_init 20 = .ok (.aload_n 0, 1) := by decide +kernel
theorem dX3_init_21 : decode cX3_init 21 = .ok (.bipush 60, 2) := by decide +kernel
theorem dX3_init_23 : decode cX3_init 23 = .ok (.newarray .int, 2) := by decide +kernel
theorem dX3_init_25 : decode cX3_init 25 = .ok (.putfield 16, 3) := by decide +kernel
theorem dX3_init_28 : decode cX3_init 28 = .ok (.aload_n 0, 1) := by decide +kernel
theorem dX3_init_29 : decode cX3_init 29 = .ok (.bipush 60, 2) := by decide +kernel
theorem dX3_init_31 : decode cX3_init 31 = .ok (.newarray .double, 2) := by decide +kernel
theorem dX3_init_33 : decode cX3_init 33 = .ok (.putfield 19, 3) := by decide +kernel
theorem dX3_init_36 : decode cX3_init 36 = .ok (.aload_n 0, 1) := by decide +kernel
theorem dX3_init_37 : decode cX3_init 37 = .ok (.bipush 60, 2) := by decide +kernel
theorem dX3_init_39 : decode cX3_init 39 = .ok (.newarray .int, 2) := by decide +kernel
theorem dX3_init_41 : decode cX3_init 41 = .ok (.putfield 23, 3) := by decide +kernel
theorem dX3_init_44 : decode cX3_init 44 = .ok (.aload_n 0, 1) := by decide +kernel
theorem dX3_init_45 : decode cX3_init 45 = .ok (.bipush 60, 2) := by decide +kernel
theorem dX3_init_47 : decode cX3_init 47 = .ok (.newarray .double, 2) := by decide +kernel
theorem dX3_init_49 : decode cX3_init 49 = .ok (.putfield 26, 3) := by decide +kernel
theorem dX3_init_52 : decode cX3_init 52 = .ok (.aload_n 0, 1) := by decide +kernel
theorem dX3_init_53 : decode cX3_init 53 = .ok (.bipush 60, 2) := by decide +kernel
theorem dX3_init_55 : decode cX3_init 55 = .ok (.newarray .double, 2) := by decide +kernel
theorem dX3_init_57 : decode cX3_init 57 = .ok (.putfield 29, 3) := by decide +kernel
theorem dX3_init_60 : decode cX3_init 60 = .ok (.aload_n 0, 1) := by decide +kernel
theorem dX3_init_61 : decode cX3_init 61 = .ok (.bipush 60, 2) := by decide +kernel
theorem dX3_init_63 : decode cX3_init 63 = .ok (.newarray .int, 2) := by decide +kernel
theorem dX3_init_65 : decode cX3_init 65 = .ok (.putfield 32, 3) := by decide +kernel
theorem dX3_init_68 : decode cX3_init 68 = .ok (.aload_n 0, 1) := by decide +kernel
theorem dX3_init_69 : decode cX3_init 69 = .ok (.bipush 60, 2) := by decide +kernel
theorem dX3_init_71 : decode cX3_init 71 = .ok (.newarray .int, 2) := by decide +kernel
theorem dX3_init_73 : decode cX3_init 73 = .ok (.putfield 35, 3) := by decide +kernel
theorem dX3_init_76 : decode cX3_init 76 = .ok (.aload_n 0, 1) := by decide +kernel
theorem dX3_init_77 : decode cX3_init 77 = .ok (.bipush 60, 2) := by decide +kernel
theorem dX3_init_79 : decode cX3_init 79 = .ok (.newarray .int, 2) := by decide +kernel
theorem dX3_init_81 : decode cX3_init 81 = .ok (.putfield 38, 3) := by decide +kernel
theorem dX3_init_84 : decode cX3_init 84 = .ok (.aload_n 0, 1) := by decide +kernel
theorem dX3_init_85 : decode cX3_init 85 = .ok (.bipush 9, 2) := by decide +kernel
theorem dX3_init_87 : decode cX3_init 87 = .ok (.newarray .double, 2) := by decide +kernel
theorem dX3_init_89 : decode cX3_init 89 = .ok (.putfield 41, 3) := by decide +kernel
theorem dX3_init_92 : decode cX3_init 92 = .ok (.aload_n 0, 1) := by decide +kernel
theorem dX3_init_93 : decode cX3_init 93 = .ok (.bipush 8, 2) := by decide +kernel
theorem dX3_init_95 : decode cX3_init 95 = .ok (.newarray .double, 2) := by decide +kernel
theorem dX3_init_97 : decode cX3_init 97 = .ok (.putfield 44, 3) := by decide +kernel
theorem dX3_init_100 : decode cX3_init 100 = .ok (.aload_n 0, 1) := by decide +kernel
theorem dX3_init_101 : decode cX3_init 101 = .ok (.bipush 7, 2) := by decide +kernel
theorem dX3_init_103 : decode cX3_init 103 = .ok (.newarray .int, 2) := by decide +kernel
theorem dX3_init_105 : decode cX3_init 105 = .ok (.putfield 47, 3) := by decide +kernel
theorem dX3_init_108 : decode cX3_init 108 = .ok (.aload_n 0, 1) := by decide +kernel
theorem dX3_init_109 : decode cX3_init 109 = .ok (.bipush 7, 2) := by decide +kernel
theorem dX3_init_111 : decode cX3_init 111 = .ok (.newarray .int, 2) := by decide +kernel
theorem dX3_init_113 : decode cX3_init 113 = .ok (.putfield 50, 3) := by decide +kernel
theorem dX3_init_116 : decode cX3_init 116 = .ok (.aload_n 0, 1) := by decide +kernel
theorem dX3_init_117 : decode cX3_init 117 = .ok (.bipush 7, 2) := by decide +kernel
theorem dX3_init_119 : decode cX3_init 119 = .ok (.newarray .boolean, 2) := by decide +kernel
theorem dX3_init_121 : decode cX3_init 121 = .ok (.putfield 53, 3) := by decide +kernel
theorem dX3_init_124 : decode cX3_init 124 = .ok (.aload_n 0, 1) := by decide +kernel
theorem dX3_init_125 : decode cX3_init 125 = .ok (.sipush 480, 3) := by decide +kernel
theorem dX3_init_128 : decode cX3_init 128 = .ok (.newarray .int, 2) := by decide +kernel
theorem dX3_init_130 : decode cX3_init 130 = .ok (.putfield 57, 3) := by decide +kernel
theorem dX3_init_133 : decode cX3_init 133 = .ok (.aload_n 0, 1) := by decide +kernel
theorem dX3_init_134 : decode cX3_init 134 = .ok (.bipush 8, 2) := by decide +kernel
theorem dX3_init_136 : decode cX3_init 136 = .ok (.newarray .int, 2) := by decide +kernel
theorem dX3_init_138 : decode cX3_init 138 = .ok (.putfield 60, 3) := by decide +kernel
theorem dX3_init_141 : decode cX3_init 141 = .ok (.aload_n 0, 1) := by decide +kernel
theorem dX3_init_142 : decode cX3_init 142 = .ok (.sipush 800, 3) := by decide +kernel
theorem dX3_init_145 : decode cX3_init 145 = .ok (.newarray .int, 2) := by decide +kernel
theorem dX3_init_147 : decode cX3_init 147 = .ok (.putfield 63, 3) := by decide +kernel
theorem dX3_init_150 : decode cX3_init 150 = .ok (.iconst 0, 1) := by decide +kernel
theorem dX3_init_151 : decode cX3_init 151 = .ok (.istore_n 1, 1) := by decide +kernel
theorem dX3_init_152 : decode cX3_init 152 = .ok (.iload_n 1, 1) := by decide +kernel
theorem dX3_init_153 : decode cX3_init 153 = .ok (.bipush 9, 2) := by decide +kernel
theorem dX3_init_155 : decode cX3_init 155 = .ok (.if_icmp .ge 18, 3) := by decide +kernel
theorem dX3_init_158 : decode cX3_init 158 = .ok (.aload_n 0, 1) := by decide +kernel
theorem dX3_init_159 : decode cX3_init 159 = .ok (.getfield 41, 3) := by decide +kernel
theorem dX3_init_162 : decode cX3_init 162 = .ok (.iload_n 1, 1) := by decide +kernel
theorem dX3_init_163 : decode cX3_init 163 = .ok (.ldc2_w 66, 3) := by decide +kernel
theorem dX3_init_166 : decode cX3_init 166 = .ok (.dastore, 1) := by decide +kernel
theorem dX3_init_167 : decode cX3_init 167 = .ok (.iinc 1 1, 3) := by decide +kernel
theorem dX3_init_170 : decode cX3_init 170 = .ok (.goto (-18), 3) := by decide +kernel
theorem dX3_init_173 : decode cX3_init 173 = .ok (.iconst 0, 1) := by decide +kernel
theorem dX3_init_174 : decode cX3_init 174 = .ok (.istore_n 1, 1) := by decide +kernel
theorem dX3_init_175 : decode cX3_init 175 = .ok (.iload_n 1, 1) := by decide +kernel
theorem dX3_init_176 : decode cX3_init 176 = .ok (.bipush 8, 2) := by decide +kernel
theorem dX3_init_178 : decode cX3_init 178 = .ok (.if_icmp .ge 18, 3) := by decide +kernel
theorem dX3_init_181 : decode cX3_init 181 = .ok (.aload_n 0, 1) := by decide +kernel
theorem dX3_init_182 : decode cX3_init 182 = .ok (.getfield 44, 3) := by decide +kernel
theorem dX3_init_185 : decode cX3_init 185 = .ok (.iload_n 1, 1) := by decide +kernel
theorem dX3_init_186 : decode cX3_init 186 = .ok (.ldc2_w 68, 3) := by decide +kernel
theorem dX3_init_189 : decode cX3_init 189 = .ok (.dastore, 1) := by decide +kernel
theorem dX3_init_190 : decode cX3_init 190 = .ok (.iinc 1 1, 3) := by decide +kernel
theorem dX3_init_193 : decode cX3_init 193 = .ok (.goto (-18), 3) := by decide +kernel
theorem dX3_init_196 : decode cX3_init 196 = .ok (.return_, 1) := by decide +kernel
theorem dX3_thrown_0 : decode cX3_thrown 0 = .ok (.aload_n 0, 1) := by decide +kernel
theorem dX3_thrown_1 : decode cX3_thrown 1 = .ok (.getfield 70, 3) := by decide +kernel
theorem dX3_thrown_4 : decode cX3_thrown 4 = .ok (.ireturn, 1) := by decide +kernel
theorem dX3_refuses_0 : decode cX3_refuses 0 = .ok (.aload_n 0, 1) := by decide +kernel
theorem dX3_refuses_1 : decode cX3_refuses 1 = .ok (.iload_n 1, 1) := by decide +kernel
theorem dX3_refuses_2 : decode cX3_refuses 2 = .ok (.putfield 70, 3) := by decide +kernel
theorem dX3_refuses_5 : decode cX3_refuses 5 = .ok (.iload_n 1, 1) := by decide +kernel
theorem dX3_refuses_6 : decode cX3_refuses 6 = .ok (.ifCond .le 7, 3) := by decide +kernel
theorem dX3_refuses_9 : decode cX3_refuses 9 = .ok (.iconst 1, 1) := by decide +kernel
theorem dX3_refuses_10 : decode cX3_refuses 10 = .ok (.goto 4, 3) := by decide +kernel
theorem dX3_refuses_13 : decode cX3_refuses 13 = .ok (.iconst 0, 1) := by decide +kernel
theorem dX3_refuses_14 : decode cX3_refuses 14 = .ok (.ireturn, 1) := by decide +kernel
theorem dX3_isIn_0 : decode cX3_isIn 0 = .ok (.dload_n 0, 1) := by decide +kernel
theorem dX3_isIn_1 : decode cX3_isIn 1 = .ok (.dload_n 2, 1) := by decide +kernel
theorem dX3_isIn_2 : decode cX3_isIn 2 = .ok (.dcmp .l, 1) := by decide +kernel
theorem dX3_isIn_3 : decode cX3_isIn 3 = .ok (.ifCond .lt 14, 3) := by decide +kernel
theorem dX3_isIn_6 : decode cX3_isIn 6 = .ok (.dload_n 0, 1) := by decide +kernel
theorem dX3_isIn_7 : decode cX3_isIn 7 = .ok (.dload 4, 2) := by decide +kernel
theorem dX3_isIn_9 : decode cX3_isIn 9 = .ok (.dcmp .g, 1) := by decide +kernel
theorem dX3_isIn_10 : decode cX3_isIn 10 = .ok (.ifCond .gt 7, 3) := by decide +kernel
theorem dX3_isIn_13 : decode cX3_isIn 13 = .ok (.iconst 1, 1) := by decide +kernel
theorem dX3_isIn_14 : decode cX3_isIn 14 = .ok (.goto 4, 3) := by decide +kernel
theorem dX3_isIn_17 : decode cX3_isIn 17 = .ok (.iconst 0, 1) := by decide +kernel
theorem dX3_isIn_18 : decode cX3_isIn 18 = .ok (.ireturn, 1) := by decide +kernel
theorem dX3_cut_0 : decode cX3_cut 0 = .ok (.iload_n 1, 1) := by decide +kernel
theorem dX3_cut_1 : decode cX3_cut 1 = .ok (.iconst 1, 1) := by decide +kernel
theorem dX3_cut_2 : decode cX3_cut 2 = .ok (.if_icmp .lt 47, 3) := by decide +kernel
theorem dX3_cut_5 : decode cX3_cut 5 = .ok (.iload_n 1, 1) := by decide +kernel
theorem dX3_cut_6 : decode cX3_cut 6 = .ok (.bipush 20, 2) := by decide +kernel
theorem dX3_cut_8 : decode cX3_cut 8 = .ok (.if_icmp .gt 41, 3) := by decide +kernel
theorem dX3_cut_11 : decode cX3_cut 11 = .ok (.iload_n 2, 1) := by decide +kernel
theorem dX3_cut_12 : decode cX3_cut 12 = .ok (.iconst 1, 1) := by decide +kernel
theorem dX3_cut_13 : decode cX3_cut 13 = .ok (.if_icmp .lt 36, 3) := by decide +kernel
theorem dX3_cut_16 : decode cX3_cut 16 = .ok (.iload_n 2, 1) := by decide +kernel
theorem dX3_cut_17 : decode cX3_cut 17 = .ok (.bipush 90, 2) := by decide +kernel
theorem dX3_cut_19 : decode cX3_cut 19 = .ok (.if_icmp .gt 30, 3) := by decide +kernel
theorem dX3_cut_22 : decode cX3_cut 22 = .ok (.dload_n 3, 1) := by decide +kernel
theorem dX3_cut_23 : decode cX3_cut 23 = .ok (.dconst 0, 1) := by decide +kernel
theorem dX3_cut_24 : decode cX3_cut 24 = .ok (.ldc2_w 74, 3) := by decide +kernel
theorem dX3_cut_27 : decode cX3_cut 27 = .ok (.invokestatic 76, 3) := by decide +kernel
theorem dX3_cut_30 : decode cX3_cut 30 = .ok (.ifCond .eq 19, 3) := by decide +kernel
theorem dX3_cut_33 : decode cX3_cut 33 = .ok (.iload 5, 2) := by decide +kernel
theorem dX3_cut_35 : decode cX3_cut 35 = .ok (.ifCond .lt 14, 3) := by decide +kernel
theorem dX3_cut_38 : decode cX3_cut 38 = .ok (.iload 5, 2) := by decide +kernel
theorem dX3_cut_40 : decode cX3_cut 40 = .ok (.bipush 8, 2) := by decide +kernel
theorem dX3_cut_42 : decode cX3_cut 42 = .ok (.if_icmp .ge 7, 3) := by decide +kernel
theorem dX3_cut_45 : decode cX3_cut 45 = .ok (.iconst 1, 1) := by decide +kernel
theorem dX3_cut_46 : decode cX3_cut 46 = .ok (.goto 4, 3) := by decide +kernel
theorem dX3_cut_49 : decode cX3_cut 49 = .ok (.iconst 0, 1) := by decide +kernel
theorem dX3_cut_50 : decode cX3_cut 50 = .ok (.istore 6, 2) := by decide +kernel
theorem dX3_cut_52 : decode cX3_cut 52 = .ok (.aload_n 0, 1) := by decide +kernel
theorem dX3_cut_53 : decode cX3_cut 53 = .ok (.iload 6, 2) := by decide +kernel
theorem dX3_cut_55 : decode cX3_cut 55 = .ok (.ifCond .ne 7, 3) := by decide +kernel
theorem dX3_cut_58 : decode cX3_cut 58 = .ok (.iconst 1, 1) := by decide +kernel
theorem dX3_cut_59 : decode cX3_cut 59 = .ok (.goto 17, 3) := by decide +kernel
theorem dX3_cut_62 : decode cX3_cut 62 = .ok (.aload_n 0, 1) := by decide +kernel
theorem dX3_cut_63 : decode cX3_cut 63 = .ok (.getfield 80, 3) := by decide +kernel
theorem dX3_cut_66 : decode cX3_cut 66 = .ok (.bipush 60, 2) := by decide +kernel
theorem dX3_cut_68 : decode cX3_cut 68 = .ok (.if_icmp .ne 7, 3) := by decide +kernel
theorem dX3_cut_71 : decode cX3_cut 71 = .ok (.iconst 2, 1) := by decide +kernel
theorem dX3_cut_72 : decode cX3_cut 72 = .ok (.goto 4, 3) := by decide +kernel
theorem dX3_cut_75 : decode cX3_cut 75 = .ok (.iconst 0, 1) := by decide +kernel
theorem dX3_cut_76 : decode cX3_cut 76 = .ok (.invokevirtual 83, 3) := by decide +kernel
theorem dX3_cut_79 : decode cX3_cut 79 = .ok (.ifCond .eq 5, 3) := by decide +kernel
theorem dX3_cut_82 : decode cX3_cut 82 = .ok (.iconst 0, 1) := by decide +kernel
theorem dX3_cut_83 : decode cX3_cut 83 = .ok (.ireturn, 1) := by decide +kernel
theorem dX3_cut_84 : decode cX3_cut 84 = .ok (.aload_n 0, 1) := by decide +kernel
theorem dX3_cut_85 : decode cX3_cut 85 = .ok (.getfield 13, 3) := by decide +kernel
theorem dX3_cut_88 : decode cX3_cut 88 = .ok (.aload_n 0, 1) := by decide +kernel
theorem dX3_cut_89 : decode cX3_cut 89 = .ok (.getfield 80, 3) := by decide +kernel
theorem dX3_cut_92 : decode cX3_cut 92 = .ok (.iload_n 1, 1) := by decide +kernel
theorem dX3_cut_93 : decode cX3_cut 93 = .ok (.iastore, 1) := by decide +kernel
theorem dX3_cut_94 : decode cX3_cut 94 = .ok (.aload_n 0, 1) := by decide +kernel
theorem dX3_cut_95 : decode cX3_cut 95 = .ok (.getfield 16, 3) := by decide +kernel
theorem dX3_cut_98 : decode cX3_cut 98 = .ok (.aload_n 0, 1) := by decide +kernel
theorem dX3_cut_99 : decode cX3_cut 99 = .ok (.getfield 80, 3) := by decide +kernel
theorem dX3_cut_102 : decode cX3_cut 102 = .ok (.iload_n 2, 1) := by decide +kernel
theorem dX3_cut_103 : decode cX3_cut 103 = .ok (.iastore, 1) := by decide +kernel
theorem dX3_cut_104 : decode cX3_cut 104 = .ok (.aload_n 0, 1) := by decide +kernel
theorem dX3_cut_105 : decode cX3_cut 105 = .ok (.getfield 19, 3) := by decide +kernel
theorem dX3_cut_108 : decode cX3_cut 108 = .ok (.aload_n 0, 1) := by decide +kernel
theorem dX3_cut_109 : decode cX3_cut 109 = .ok (.getfield 80, 3) := by decide +kernel
theorem dX3_cut_112 : decode cX3_cut 112 = .ok (.dload_n 3, 1) := by decide +kernel
theorem dX3_cut_113 : decode cX3_cut 113 = .ok (.dastore, 1) := by decide +kernel
theorem dX3_cut_114 : decode cX3_cut 114 = .ok (.aload_n 0, 1) := by decide +kernel
theorem dX3_cut_115 : decode cX3_cut 115 = .ok (.getfield 23, 3) := by decide +kernel
theorem dX3_cut_118 : decode cX3_cut 118 = .ok (.aload_n 0, 1) := by decide +kernel
theorem dX3_cut_119 : decode cX3_cut 119 = .ok (.getfield 80, 3) := by decide +kernel
theorem dX3_cut_122 : decode cX3_cut 122 = .ok (.iload 5, 2) := by decide +kernel
theorem dX3_cut_124 : decode cX3_cut 124 = .ok (.iastore, 1) := by decide +kernel
theorem dX3_cut_125 : decode cX3_cut 125 = .ok (.aload_n 0, 1) := by decide +kernel
theorem dX3_cut_126 : decode cX3_cut 126 = .ok (.getfield 38, 3) := by decide +kernel
theorem dX3_cut_129 : decode cX3_cut 129 = .ok (.aload_n 0, 1) := by decide +kernel
theorem dX3_cut_130 : decode cX3_cut 130 = .ok (.getfield 80, 3) := by decide +kernel
theorem dX3_cut_133 : decode cX3_cut 133 = .ok (.iconst (-1), 1) := by decide +kernel
theorem dX3_cut_134 : decode cX3_cut 134 = .ok (.iastore, 1) := by decide +kernel
theorem dX3_cut_135 : decode cX3_cut 135 = .ok (.aload_n 0, 1) := by decide +kernel
theorem dX3_cut_136 : decode cX3_cut 136 = .ok (.dup, 1) := by decide +kernel
theorem dX3_cut_137 : decode cX3_cut 137 = .ok (.getfield 80, 3) := by decide +kernel
theorem dX3_cut_140 : decode cX3_cut 140 = .ok (.iconst 1, 1) := by decide +kernel
theorem dX3_cut_141 : decode cX3_cut 141 = .ok (.iadd, 1) := by decide +kernel
theorem dX3_cut_142 : decode cX3_cut 142 = .ok (.putfield 80, 3) := by decide +kernel
theorem dX3_cut_145 : decode cX3_cut 145 = .ok (.aload_n 0, 1) := by decide +kernel
theorem dX3_cut_146 : decode cX3_cut 146 = .ok (.getfield 80, 3) := by decide +kernel
theorem dX3_cut_149 : decode cX3_cut 149 = .ok (.iconst 1, 1) := by decide +kernel
theorem dX3_cut_150 : decode cX3_cut 150 = .ok (.isub, 1) := by decide +kernel
theorem dX3_cut_151 : decode cX3_cut 151 = .ok (.ireturn, 1) := by decide +kernel
theorem dX3_push_0 : decode cX3_push 0 = .ok (.aload_n 0, 1) := by decide +kernel
theorem dX3_push_1 : decode cX3_push 1 = .ok (.dload_n 1, 1) := by decide +kernel
theorem dX3_push_2 : decode cX3_push 2 = .ok (.dconst 0, 1) := by decide +kernel
theorem dX3_push_3 : decode cX3_push 3 = .ok (.ldc2_w 87, 3) := by decide +kernel
theorem dX3_push_6 : decode cX3_push 6 = .ok (.invokestatic 76, 3) := by decide +kernel
theorem dX3_push_9 : decode cX3_push 9 = .ok (.ifCond .eq 7, 3) := by decide +kernel
theorem dX3_push_12 : decode cX3_push 12 = .ok (.iconst 0, 1) := by decide +kernel
theorem dX3_push_13 : decode cX3_push 13 = .ok (.goto 4, 3) := by decide +kernel
theorem dX3_push_16 : decode cX3_push 16 = .ok (.iconst 1, 1) := by decide +kernel
theorem dX3_push_17 : decode cX3_push 17 = .ok (.invokevirtual 83, 3) := by decide +kernel
theorem dX3_push_20 : decode cX3_push 20 = .ok (.ifCond .eq 5, 3) := by decide +kernel
theorem dX3_push_23 : decode cX3_push 23 = .ok (.dconst 0, 1) := by decide +kernel
theorem dX3_push_24 : decode cX3_push 24 = .ok (.dreturn, 1) := by decide +kernel
theorem dX3_push_25 : decode cX3_push 25 = .ok (.aload_n 0, 1) := by decide +kernel
theorem dX3_push_26 : decode cX3_push 26 = .ok (.getfield 89, 3) := by decide +kernel
theorem dX3_push_29 : decode cX3_push 29 = .ok (.dstore_n 3, 1) := by decide +kernel
theorem dX3_push_30 : decode cX3_push 30 = .ok (.aload_n 0, 1) := by decide +kernel
theorem dX3_push_31 : decode cX3_push 31 = .ok (.dload_n 1, 1) := by decide +kernel
theorem dX3_push_32 : decode cX3_push 32 = .ok (.putfield 89, 3) := by decide +kernel
theorem dX3_push_35 : decode cX3_push 35 = .ok (.dload_n 3, 1) := by decide +kernel
theorem dX3_push_36 : decode cX3_push 36 = .ok (.dreturn, 1) := by decide +kernel
theorem dX3_wish_0 : decode cX3_wish 0 = .ok (.aload_n 0, 1) := by decide +kernel
theorem dX3_wish_1 : decode cX3_wish 1 = .ok (.iload_n 1, 1) := by decide +kernel
theorem dX3_wish_2 : decode cX3_wish 2 = .ok (.ifCond .lt 9, 3) := by decide +kernel
theorem dX3_wish_5 : decode cX3_wish 5 = .ok (.iload_n 1, 1) := by decide +kernel
theorem dX3_wish_6 : decode cX3_wish 6 = .ok (.bipush 9, 2) := by decide +kernel
theorem dX3_wish_8 : decode cX3_wish 8 = .ok (.if_icmp .lt 7, 3) := by decide +kernel
theorem dX3_wish_11 : decode cX3_wish 11 = .ok (.iconst 1, 1) := by decide +kernel
theorem dX3_wish_12 : decode cX3_wish 12 = .ok (.goto 19, 3) := by decide +kernel
theorem dX3_wish_15 : decode cX3_wish 15 = .ok (.dload_n 2, 1) := by decide +kernel
theorem dX3_wish_16 : decode cX3_wish 16 = .ok (.dconst 0, 1) := by decide +kernel
theorem dX3_wish_17 : decode cX3_wish 17 = .ok (.ldc2_w 93, 3) := by decide +kernel
theorem dX3_wish_20 : decode cX3_wish 20 = .ok (.invokestatic 76, 3) := by decide +kernel
theorem dX3_wish_23 : decode cX3_wish 23 = .ok (.ifCond .eq 7, 3) := by decide +kernel
theorem dX3_wish_26 : decode cX3_wish 26 = .ok (.iconst 0, 1) := by decide +kernel
theorem dX3_wish_27 : decode cX3_wish 27 = .ok (.goto 4, 3) := by decide +kernel
theorem dX3_wish_30 : decode cX3_wish 30 = .ok (.iconst 2, 1) := by decide +kernel
theorem dX3_wish_31 : decode cX3_wish 31 = .ok (.invokevirtual 83, 3) := by decide +kernel
theorem dX3_wish_34 : decode cX3_wish 34 = .ok (.ifCond .eq 5, 3) := by decide +kernel
theorem dX3_wish_37 : decode cX3_wish 37 = .ok (.dconst 0, 1) := by decide +kernel
theorem dX3_wish_38 : decode cX3_wish 38 = .ok (.dreturn, 1) := by decide +kernel
theorem dX3_wish_39 : decode cX3_wish 39 = .ok (.aload_n 0, 1) := by decide +kernel
theorem dX3_wish_40 : decode cX3_wish 40 = .ok (.getfield 41, 3) := by decide +kernel
theorem dX3_wish_43 : decode cX3_wish 43 = .ok (.iload_n 1, 1) := by decide +kernel
theorem dX3_wish_44 : decode cX3_wish 44 = .ok (.daload, 1) := by decide +kernel
theorem dX3_wish_45 : decode cX3_wish 45 = .ok (.dstore 4, 2) := by decide +kernel
theorem dX3_wish_47 : decode cX3_wish 47 = .ok (.aload_n 0, 1) := by decide +kernel
theorem dX3_wish_48 : decode cX3_wish 48 = .ok (.getfield 41, 3) := by decide +kernel
theorem dX3_wish_51 : decode cX3_wish 51 = .ok (.iload_n 1, 1) := by decide +kernel
theorem dX3_wish_52 : decode cX3_wish 52 = .ok (.dload_n 2, 1) := by decide +kernel
theorem dX3_wish_53 : decode cX3_wish 53 = .ok (.dastore, 1) := by decide +kernel
theorem dX3_wish_54 : decode cX3_wish 54 = .ok (.dload 4, 2) := by decide +kernel
theorem dX3_wish_56 : decode cX3_wish 56 = .ok (.dreturn, 1) := by decide +kernel
theorem dX3_stick_0 : decode cX3_stick 0 = .ok (.aload_n 0, 1) := by decide +kernel
theorem dX3_stick_1 : decode cX3_stick 1 = .ok (.iload_n 1, 1) := by decide +kernel
theorem dX3_stick_2 : decode cX3_stick 2 = .ok (.ifCond .lt 9, 3) := by decide +kernel
theorem dX3_stick_5 : decode cX3_stick 5 = .ok (.iload_n 1, 1) := by decide +kernel
theorem dX3_stick_6 : decode cX3_stick 6 = .ok (.bipush 7, 2) := by decide +kernel
theorem dX3_stick_8 : decode cX3_stick 8 = .ok (.if_icmp .lt 7, 3) := by decide +kernel
theorem dX3_stick_11 : decode cX3_stick 11 = .ok (.iconst 1, 1) := by decide +kernel
theorem dX3_stick_12 : decode cX3_stick 12 = .ok (.goto 4, 3) := by decide +kernel
theorem dX3_stick_15 : decode cX3_stick 15 = .ok (.iconst 0, 1) := by decide +kernel
theorem dX3_stick_16 : decode cX3_stick 16 = .ok (.invokevirtual 83, 3) := by decide +kernel
theorem dX3_stick_19 : decode cX3_stick 19 = .ok (.ifCond .eq 5, 3) := by decide +kernel
theorem dX3_stick_22 : decode cX3_stick 22 = .ok (.iconst 0, 1) := by decide +kernel
theorem dX3_stick_23 : decode cX3_stick 23 = .ok (.ireturn, 1) := by decide +kernel
theorem dX3_stick_24 : decode cX3_stick 24 = .ok (.aload_n 0, 1) := by decide +kernel
theorem dX3_stick_25 : decode cX3_stick 25 = .ok (.getfield 53, 3) := by decide +kernel
theorem dX3_stick_28 : decode cX3_stick 28 = .ok (.iload_n 1, 1) := by decide +kernel
theorem dX3_stick_29 : decode cX3_stick 29 = .ok (.baload, 1) := by decide +kernel
theorem dX3_stick_30 : decode cX3_stick 30 = .ok (.istore_n 3, 1) := by decide +kernel
theorem dX3_stick_31 : decode cX3_stick 31 = .ok (.aload_n 0, 1) := by decide +kernel
theorem dX3_stick_32 : decode cX3_stick 32 = .ok (.getfield 53, 3) := by decide +kernel
theorem dX3_stick_35 : decode cX3_stick 35 = .ok (.iload_n 1, 1) := by decide +kernel
theorem dX3_stick_36 : decode cX3_stick 36 = .ok (.iload_n 2, 1) := by decide +kernel
theorem dX3_stick_37 : decode cX3_stick 37 = .ok (.bastore, 1) := by decide +kernel
theorem dX3_stick_38 : decode cX3_stick 38 = .ok (.iload_n 3, 1) := by decide +kernel
theorem dX3_stick_39 : decode cX3_stick 39 = .ok (.ireturn, 1) := by decide +kernel
theorem dX3_fill_0 : decode cX3_fill 0 = .ok (.aload_n 0, 1) := by decide +kernel
theorem dX3_fill_1 : decode cX3_fill 1 = .ok (.iload_n 1, 1) := by decide +kernel
theorem dX3_fill_2 : decode cX3_fill 2 = .ok (.ifCond .lt 9, 3) := by decide +kernel
theorem dX3_fill_5 : decode cX3_fill 5 = .ok (.iload_n 1, 1) := by decide +kernel
theorem dX3_fill_6 : decode cX3_fill 6 = .ok (.bipush 8, 2) := by decide +kernel
theorem dX3_fill_8 : decode cX3_fill 8 = .ok (.if_icmp .lt 7, 3) := by decide +kernel
theorem dX3_fill_11 : decode cX3_fill 11 = .ok (.iconst 1, 1) := by decide +kernel
theorem dX3_fill_12 : decode cX3_fill 12 = .ok (.goto 19, 3) := by decide +kernel
theorem dX3_fill_15 : decode cX3_fill 15 = .ok (.dload_n 2, 1) := by decide +kernel
theorem dX3_fill_16 : decode cX3_fill 16 = .ok (.dconst 0, 1) := by decide +kernel
theorem dX3_fill_17 : decode cX3_fill 17 = .ok (.ldc2_w 95, 3) := by decide +kernel
theorem dX3_fill_20 : decode cX3_fill 20 = .ok (.invokestatic 76, 3) := by decide +kernel
theorem dX3_fill_23 : decode cX3_fill 23 = .ok (.ifCond .eq 7, 3) := by decide +kernel
theorem dX3_fill_26 : decode cX3_fill 26 = .ok (.iconst 0, 1) := by decide +kernel
theorem dX3_fill_27 : decode cX3_fill 27 = .ok (.goto 4, 3) := by decide +kernel
theorem dX3_fill_30 : decode cX3_fill 30 = .ok (.iconst 2, 1) := by decide +kernel
theorem dX3_fill_31 : decode cX3_fill 31 = .ok (.invokevirtual 83, 3) := by decide +kernel
theorem dX3_fill_34 : decode cX3_fill 34 = .ok (.ifCond .eq 5, 3) := by decide +kernel
theorem dX3_fill_37 : decode cX3_fill 37 = .ok (.dconst 0, 1) := by decide +kernel
theorem dX3_fill_38 : decode cX3_fill 38 = .ok (.dreturn, 1) := by decide +kernel
theorem dX3_fill_39 : decode cX3_fill 39 = .ok (.aload_n 0, 1) := by decide +kernel
theorem dX3_fill_40 : decode cX3_fill 40 = .ok (.getfield 44, 3) := by decide +kernel
theorem dX3_fill_43 : decode cX3_fill 43 = .ok (.iload_n 1, 1) := by decide +kernel
theorem dX3_fill_44 : decode cX3_fill 44 = .ok (.daload, 1) := by decide +kernel
theorem dX3_fill_45 : decode cX3_fill 45 = .ok (.dstore 4, 2) := by decide +kernel
theorem dX3_fill_47 : decode cX3_fill 47 = .ok (.aload_n 0, 1) := by decide +kernel
theorem dX3_fill_48 : decode cX3_fill 48 = .ok (.getfield 44, 3) := by decide +kernel
theorem dX3_fill_51 : decode cX3_fill 51 = .ok (.iload_n 1, 1) := by decide +kernel
theorem dX3_fill_52 : decode cX3_fill 52 = .ok (.dload_n 2, 1) := by decide +kernel
theorem dX3_fill_53 : decode cX3_fill 53 = .ok (.dastore, 1) := by decide +kernel
theorem dX3_fill_54 : decode cX3_fill 54 = .ok (.dload 4, 2) := by decide +kernel
theorem dX3_fill_56 : decode cX3_fill 56 = .ok (.dreturn, 1) := by decide +kernel
theorem dX3_level_0 : decode cX3_level 0 = .ok (.iload_n 0, 1) := by decide +kernel
theorem dX3_level_1 : decode cX3_level 1 = .ok (.ifCond .ne 7, 3) := by decide +kernel
theorem dX3_level_4 : decode cX3_level 4 = .ok (.iconst 0, 1) := by decide +kernel
theorem dX3_level_5 : decode cX3_level 5 = .ok (.goto 13, 3) := by decide +kernel
theorem dX3_level_8 : decode cX3_level 8 = .ok (.iload_n 0, 1) := by decide +kernel
theorem dX3_level_9 : decode cX3_level 9 = .ok (.iconst 3, 1) := by decide +kernel
theorem dX3_level_10 : decode cX3_level 10 = .ok (.if_icmp .ge 7, 3) := by decide +kernel
theorem dX3_level_13 : decode cX3_level 13 = .ok (.iconst 1, 1) := by decide +kernel
theorem dX3_level_14 : decode cX3_level 14 = .ok (.goto 4, 3) := by decide +kernel
theorem dX3_level_17 : decode cX3_level 17 = .ok (.iconst 2, 1) := by decide +kernel
theorem dX3_level_18 : decode cX3_level 18 = .ok (.ireturn, 1) := by decide +kernel
theorem dX3_placeOf_0 : decode cX3_placeOf 0 = .ok (.ldc2_w 97, 3) := by decide +kernel
theorem dX3_placeOf_3 : decode cX3_placeOf 3 = .ok (.ldc2_w 99, 3) := by decide +kernel
theorem dX3_placeOf_6 : decode cX3_placeOf 6 = .ok (.iload_n 0, 1) := by decide +kernel
theorem dX3_placeOf_7 : decode cX3_placeOf 7 = .ok (.invokestatic 101, 3) := by decide +kernel
theorem dX3_placeOf_10 : decode cX3_placeOf 10 = .ok (.i2d, 1) := by decide +kernel
theorem dX3_placeOf_11 : decode cX3_placeOf 11 = .ok (.dmul, 1) := by decide +kernel
theorem dX3_placeOf_12 : decode cX3_placeOf 12 = .ok (.dadd, 1) := by decide +kernel
theorem dX3_placeOf_13 : decode cX3_placeOf 13 = .ok (.dreturn, 1) := by decide +kernel
theorem dX3_wayTo_0 : decode cX3_wayTo 0 = .ok (.iload_n 0, 1) := by decide +kernel
theorem dX3_wayTo_1 : decode cX3_wayTo 1 = .ok (.iconst 1, 1) := by decide +kernel
theorem dX3_wayTo_2 : decode cX3_wayTo 2 = .ok (.iadd, 1) := by decide +kernel
theorem dX3_wayTo_3 : decode cX3_wayTo 3 = .ok (.iconst 1, 1) := by decide +kernel
theorem dX3_wayTo_4 : decode cX3_wayTo 4 = .ok (.iload_n 0, 1) := by decide +kernel
theorem dX3_wayTo_5 : decode cX3_wayTo 5 = .ok (.invokestatic 101, 3) := by decide +kernel
theorem dX3_wayTo_8 : decode cX3_wayTo 8 = .ok (.ishl, 1) := by decide +kernel
theorem dX3_wayTo_9 : decode cX3_wayTo 9 = .ok (.isub, 1) := by decide +kernel
theorem dX3_wayTo_10 : decode cX3_wayTo 10 = .ok (.ireturn, 1) := by decide +kernel
theorem dX3_goesBy_0 : decode cX3_goesBy 0 = .ok (.iload_n 2, 1) := by decide +kernel
theorem dX3_goesBy_1 : decode cX3_goesBy 1 = .ok (.invokestatic 101, 3) := by decide +kernel
theorem dX3_goesBy_4 : decode cX3_goesBy 4 = .ok (.istore_n 3, 1) := by decide +kernel
theorem dX3_goesBy_5 : decode cX3_goesBy 5 = .ok (.aload_n 0, 1) := by decide +kernel
theorem dX3_goesBy_6 : decode cX3_goesBy 6 = .ok (.getfield 32, 3) := by decide +kernel
theorem dX3_goesBy_9 : decode cX3_goesBy 9 = .ok (.iload_n 1, 1) := by decide +kernel
theorem dX3_goesBy_10 : decode cX3_goesBy 10 = .ok (.iaload, 1) := by decide +kernel
theorem dX3_goesBy_11 : decode cX3_goesBy 11 = .ok (.iload_n 3, 1) := by decide +kernel
theorem dX3_goesBy_12 : decode cX3_goesBy 12 = .ok (.if_icmp .lt 33, 3) := by decide +kernel
theorem dX3_goesBy_15 : decode cX3_goesBy 15 = .ok (.aload_n 0, 1) := by decide +kernel
theorem dX3_goesBy_16 : decode cX3_goesBy 16 = .ok (.getfield 35, 3) := by decide +kernel
theorem dX3_goesBy_19 : decode cX3_goesBy 19 = .ok (.iload_n 1, 1) := by decide +kernel
theorem dX3_goesBy_20 : decode cX3_goesBy 20 = .ok (.iaload, 1) := by decide +kernel
theorem dX3_goesBy_21 : decode cX3_goesBy 21 = .ok (.aload_n 0, 1) := by decide +kernel
theorem dX3_goesBy_22 : decode cX3_goesBy 22 = .ok (.getfield 32, 3) := by decide +kernel
theorem dX3_goesBy_25 : decode cX3_goesBy 25 = .ok (.iload_n 1, 1) := by decide +kernel
theorem dX3_goesBy_26 : decode cX3_goesBy 26 = .ok (.iaload, 1) := by decide +kernel
theorem dX3_goesBy_27 : decode cX3_goesBy 27 = .ok (.iload_n 3, 1) := by decide +kernel
theorem dX3_goesBy_28 : decode cX3_goesBy 28 = .ok (.isub, 1) := by decide +kernel
theorem dX3_goesBy_29 : decode cX3_goesBy 29 = .ok (.ishr, 1) := by decide +kernel
theorem dX3_goesBy_30 : decode cX3_goesBy 30 = .ok (.iload_n 2, 1) := by decide +kernel
theorem dX3_goesBy_31 : decode cX3_goesBy 31 = .ok (.invokestatic 105, 3) := by decide +kernel
theorem dX3_goesBy_34 : decode cX3_goesBy 34 = .ok (.if_icmp .ne 7, 3) := by decide +kernel
theorem dX3_goesBy_37 : decode cX3_goesBy 37 = .ok (.iconst 1, 1) := by decide +kernel
theorem dX3_goesBy_38 : decode cX3_goesBy 38 = .ok (.goto 34, 3) := by decide +kernel
theorem dX3_goesBy_41 : decode cX3_goesBy 41 = .ok (.iconst 0, 1) := by decide +kernel
theorem dX3_goesBy_42 : decode cX3_goesBy 42 = .ok (.goto 30, 3) := by decide +kernel
theorem dX3_goesBy_45 : decode cX3_goesBy 45 = .ok (.aload_n 0, 1) := by decide +kernel
theorem dX3_goesBy_46 : decode cX3_goesBy 46 = .ok (.getfield 35, 3) := by decide +kernel
theorem dX3_goesBy_49 : decode cX3_goesBy 49 = .ok (.iload_n 1, 1) := by decide +kernel
theorem dX3_goesBy_50 : decode cX3_goesBy 50 = .ok (.iaload, 1) := by decide +kernel
theorem dX3_goesBy_51 : decode cX3_goesBy 51 = .ok (.iload_n 2, 1) := by decide +kernel
theorem dX3_goesBy_52 : decode cX3_goesBy 52 = .ok (.invokestatic 105, 3) := by decide +kernel
theorem dX3_goesBy_55 : decode cX3_goesBy 55 = .ok (.iload_n 3, 1) := by decide +kernel
theorem dX3_goesBy_56 : decode cX3_goesBy 56 = .ok (.aload_n 0, 1) := by decide +kernel
theorem dX3_goesBy_57 : decode cX3_goesBy 57 = .ok (.getfield 32, 3) := by decide +kernel
theorem dX3_goesBy_60 : decode cX3_goesBy 60 = .ok (.iload_n 1, 1) := by decide +kernel
theorem dX3_goesBy_61 : decode cX3_goesBy 61 = .ok (.iaload, 1) := by decide +kernel
theorem dX3_goesBy_62 : decode cX3_goesBy 62 = .ok (.isub, 1) := by decide +kernel
theorem dX3_goesBy_63 : decode cX3_goesBy 63 = .ok (.ishr, 1) := by decide +kernel
theorem dX3_goesBy_64 : decode cX3_goesBy 64 = .ok (.if_icmp .ne 7, 3) := by decide +kernel
theorem dX3_goesBy_67 : decode cX3_goesBy 67 = .ok (.iconst 1, 1) := by decide +kernel
theorem dX3_goesBy_68 : decode cX3_goesBy 68 = .ok (.goto 4, 3) := by decide +kernel
theorem dX3_goesBy_71 : decode cX3_goesBy 71 = .ok (.iconst 0, 1) := by decide +kernel
theorem dX3_goesBy_72 : decode cX3_goesBy 72 = .ok (.ireturn, 1) := by decide +kernel
theorem dX3_rear_0 : decode cX3_rear 0 = .ok (.aload_n 0, 1) := by decide +kernel
theorem dX3_rear_1 : decode cX3_rear 1 = .ok (.getfield 26, 3) := by decide +kernel
theorem dX3_rear_4 : decode cX3_rear 4 = .ok (.iload_n 1, 1) := by decide +kernel
theorem dX3_rear_5 : decode cX3_rear 5 = .ok (.daload, 1) := by decide +kernel
theorem dX3_rear_6 : decode cX3_rear 6 = .ok (.ldc2_w 108, 3) := by decide +kernel
theorem dX3_rear_9 : decode cX3_rear 9 = .ok (.aload_n 0, 1) := by decide +kernel
theorem dX3_rear_10 : decode cX3_rear 10 = .ok (.getfield 13, 3) := by decide +kernel
theorem dX3_rear_13 : decode cX3_rear 13 = .ok (.iload_n 1, 1) := by decide +kernel
theorem dX3_rear_14 : decode cX3_rear 14 = .ok (.iaload, 1) := by decide +kernel
theorem dX3_rear_15 : decode cX3_rear 15 = .ok (.i2d, 1) := by decide +kernel
theorem dX3_rear_16 : decode cX3_rear 16 = .ok (.dmul, 1) := by decide +kernel
theorem dX3_rear_17 : decode cX3_rear 17 = .ok (.dsub, 1) := by decide +kernel
theorem dX3_rear_18 : decode cX3_rear 18 = .ok (.dreturn, 1) := by decide +kernel
theorem dX3_isBusy_0 : decode cX3_isBusy 0 = .ok (.iconst 0, 1) := by decide +kernel
theorem dX3_isBusy_1 : decode cX3_isBusy 1 = .ok (.istore_n 2, 1) := by decide +kernel
theorem dX3_isBusy_2 : decode cX3_isBusy 2 = .ok (.iload_n 2, 1) := by decide +kernel
theorem dX3_isBusy_3 : decode cX3_isBusy 3 = .ok (.aload_n 0, 1) := by decide +kernel
theorem dX3_isBusy_4 : decode cX3_isBusy 4 = .ok (.getfield 80, 3) := by decide +kernel
theorem dX3_isBusy_7 : decode cX3_isBusy 7 = .ok (.if_icmp .ge 65, 3) := by decide +kernel
theorem dX3_isBusy_10 : decode cX3_isBusy 10 = .ok (.aload_n 0, 1) := by decide +kernel
theorem dX3_isBusy_11 : decode cX3_isBusy 11 = .ok (.getfield 7, 3) := by decide +kernel
theorem dX3_isBusy_14 : decode cX3_isBusy 14 = .ok (.iload_n 2, 1) := by decide +kernel
theorem dX3_isBusy_15 : decode cX3_isBusy 15 = .ok (.iaload, 1) := by decide +kernel
theorem dX3_isBusy_16 : decode cX3_isBusy 16 = .ok (.iconst 1, 1) := by decide +kernel
theorem dX3_isBusy_17 : decode cX3_isBusy 17 = .ok (.if_icmp .ne 49, 3) := by decide +kernel
theorem dX3_isBusy_20 : decode cX3_isBusy 20 = .ok (.aload_n 0, 1) := by decide +kernel
theorem dX3_isBusy_21 : decode cX3_isBusy 21 = .ok (.iload_n 2, 1) := by decide +kernel
theorem dX3_isBusy_22 : decode cX3_isBusy 22 = .ok (.iload_n 1, 1) := by decide +kernel
theorem dX3_isBusy_23 : decode cX3_isBusy 23 = .ok (.invokevirtual 110, 3) := by decide +kernel
theorem dX3_isBusy_26 : decode cX3_isBusy 26 = .ok (.ifCond .eq 40, 3) := by decide +kernel
theorem dX3_isBusy_29 : decode cX3_isBusy 29 = .ok (.aload_n 0, 1) := by decide +kernel
theorem dX3_isBusy_30 : decode cX3_isBusy 30 = .ok (.getfield 26, 3) := by decide +kernel
theorem dX3_isBusy_33 : decode cX3_isBusy 33 = .ok (.iload_n 2, 1) := by decide +kernel
theorem dX3_isBusy_34 : decode cX3_isBusy 34 = .ok (.daload, 1) := by decide +kernel
theorem dX3_isBusy_35 : decode cX3_isBusy 35 = .ok (.iload_n 1, 1) := by decide +kernel
theorem dX3_isBusy_36 : decode cX3_isBusy 36 = .ok (.invokestatic 114, 3) := by decide +kernel
theorem dX3_isBusy_39 : decode cX3_isBusy 39 = .ok (.ldc2_w 118, 3) := by decide +kernel
theorem dX3_isBusy_42 : decode cX3_isBusy 42 = .ok (.dsub, 1) := by decide +kernel
theorem dX3_isBusy_43 : decode cX3_isBusy 43 = .ok (.dcmp .l, 1) := by decide +kernel
theorem dX3_isBusy_44 : decode cX3_isBusy 44 = .ok (.ifCond .lt 22, 3) := by decide +kernel
theorem dX3_isBusy_47 : decode cX3_isBusy 47 = .ok (.aload_n 0, 1) := by decide +kernel
theorem dX3_isBusy_48 : decode cX3_isBusy 48 = .ok (.iload_n 2, 1) := by decide +kernel
theorem dX3_isBusy_49 : decode cX3_isBusy 49 = .ok (.invokevirtual 120, 3) := by decide +kernel
theorem dX3_isBusy_52 : decode cX3_isBusy 52 = .ok (.iload_n 1, 1) := by decide +kernel
theorem dX3_isBusy_53 : decode cX3_isBusy 53 = .ok (.invokestatic 114, 3) := by decide +kernel
theorem dX3_isBusy_56 : decode cX3_isBusy 56 = .ok (.ldc2_w 123, 3) := by decide +kernel
theorem dX3_isBusy_59 : decode cX3_isBusy 59 = .ok (.dadd, 1) := by decide +kernel
theorem dX3_isBusy_60 : decode cX3_isBusy 60 = .ok (.dcmp .g, 1) := by decide +kernel
theorem dX3_isBusy_61 : decode cX3_isBusy 61 = .ok (.ifCond .gt 5, 3) := by decide +kernel
theorem dX3_isBusy_64 : decode cX3_isBusy 64 = .ok (.iconst 1, 1) := by decide +kernel
theorem dX3_isBusy_65 : decode cX3_isBusy 65 = .ok (.ireturn, 1) := by decide +kernel
theorem dX3_isBusy_66 : decode cX3_isBusy 66 = .ok (.iinc 2 1, 3) := by decide +kernel
theorem dX3_isBusy_69 : decode cX3_isBusy 69 = .ok (.goto (-67), 3) := by decide +kernel
theorem dX3_isBusy_72 : decode cX3_isBusy 72 = .ok (.iconst 0, 1) := by decide +kernel
theorem dX3_isBusy_73 : decode cX3_isBusy 73 = .ok (.ireturn, 1) := by decide +kernel
theorem dX3_leads_0 : decode cX3_leads 0 = .ok (.iload_n 1, 1) := by decide +kernel
theorem dX3_leads_1 : decode cX3_leads 1 = .ok (.iconst 3, 1) := by decide +kernel
theorem dX3_leads_2 : decode cX3_leads 2 = .ok (.iload_n 0, 1) := by decide +kernel
theorem dX3_leads_3 : decode cX3_leads 3 = .ok (.invokestatic 101, 3) := by decide +kernel
theorem dX3_leads_6 : decode cX3_leads 6 = .ok (.isub, 1) := by decide +kernel
theorem dX3_leads_7 : decode cX3_leads 7 = .ok (.ishr, 1) := by decide +kernel
theorem dX3_leads_8 : decode cX3_leads 8 = .ok (.iload_n 0, 1) := by decide +kernel
theorem dX3_leads_9 : decode cX3_leads 9 = .ok (.invokestatic 105, 3) := by decide +kernel
theorem dX3_leads_12 : decode cX3_leads 12 = .ok (.if_icmp .ne 7, 3) := by decide +kernel
theorem dX3_leads_15 : decode cX3_leads 15 = .ok (.iconst 1, 1) := by decide +kernel
theorem dX3_leads_16 : decode cX3_leads 16 = .ok (.goto 4, 3) := by decide +kernel
theorem dX3_leads_19 : decode cX3_leads 19 = .ok (.iconst 0, 1) := by decide +kernel
theorem dX3_leads_20 : decode cX3_leads 20 = .ok (.ireturn, 1) := by decide +kernel
theorem dX3_bound_0 : decode cX3_bound 0 = .ok (.iconst (-1), 1) := by decide +kernel
theorem dX3_bound_1 : decode cX3_bound 1 = .ok (.istore_n 2, 1) := by decide +kernel
theorem dX3_bound_2 : decode cX3_bound 2 = .ok (.iconst 0, 1) := by decide +kernel
theorem dX3_bound_3 : decode cX3_bound 3 = .ok (.istore_n 3, 1) := by decide +kernel
theorem dX3_bound_4 : decode cX3_bound 4 = .ok (.iload_n 3, 1) := by decide +kernel
theorem dX3_bound_5 : decode cX3_bound 5 = .ok (.aload_n 0, 1) := by decide +kernel
theorem dX3_bound_6 : decode cX3_bound 6 = .ok (.getfield 80, 3) := by decide +kernel
theorem dX3_bound_9 : decode cX3_bound 9 = .ok (.if_icmp .ge 77, 3) := by decide +kernel
theorem dX3_bound_12 : decode cX3_bound 12 = .ok (.aload_n 0, 1) := by decide +kernel
theorem dX3_bound_13 : decode cX3_bound 13 = .ok (.getfield 7, 3) := by decide +kernel
theorem dX3_bound_16 : decode cX3_bound 16 = .ok (.iload_n 3, 1) := by decide +kernel
theorem dX3_bound_17 : decode cX3_bound 17 = .ok (.iaload, 1) := by decide +kernel
theorem dX3_bound_18 : decode cX3_bound 18 = .ok (.iconst 1, 1) := by decide +kernel
theorem dX3_bound_19 : decode cX3_bound 19 = .ok (.if_icmp .ne 61, 3) := by decide +kernel
theorem dX3_bound_22 : decode cX3_bound 22 = .ok (.aload_n 0, 1) := by decide +kernel
theorem dX3_bound_23 : decode cX3_bound 23 = .ok (.getfield 32, 3) := by decide +kernel
theorem dX3_bound_26 : decode cX3_bound 26 = .ok (.iload_n 3, 1) := by decide +kernel
theorem dX3_bound_27 : decode cX3_bound 27 = .ok (.iaload, 1) := by decide +kernel
theorem dX3_bound_28 : decode cX3_bound 28 = .ok (.iload_n 1, 1) := by decide +kernel
theorem dX3_bound_29 : decode cX3_bound 29 = .ok (.invokestatic 101, 3) := by decide +kernel
theorem dX3_bound_32 : decode cX3_bound 32 = .ok (.if_icmp .gt 48, 3) := by decide +kernel
theorem dX3_bound_35 : decode cX3_bound 35 = .ok (.aload_n 0, 1) := by decide +kernel
theorem dX3_bound_36 : decode cX3_bound 36 = .ok (.iload_n 3, 1) := by decide +kernel
theorem dX3_bound_37 : decode cX3_bound 37 = .ok (.iload_n 1, 1) := by decide +kernel
theorem dX3_bound_38 : decode cX3_bound 38 = .ok (.invokevirtual 110, 3) := by decide +kernel
theorem dX3_bound_41 : decode cX3_bound 41 = .ok (.ifCond .eq 39, 3) := by decide +kernel
theorem dX3_bound_44 : decode cX3_bound 44 = .ok (.iload_n 1, 1) := by decide +kernel
theorem dX3_bound_45 : decode cX3_bound 45 = .ok (.aload_n 0, 1) := by decide +kernel
theorem dX3_bound_46 : decode cX3_bound 46 = .ok (.getfield 23, 3) := by decide +kernel
theorem dX3_bound_49 : decode cX3_bound 49 = .ok (.iload_n 3, 1) := by decide +kernel
theorem dX3_bound_50 : decode cX3_bound 50 = .ok (.iaload, 1) := by decide +kernel
theorem dX3_bound_51 : decode cX3_bound 51 = .ok (.invokestatic 125, 3) := by decide +kernel
theorem dX3_bound_54 : decode cX3_bound 54 = .ok (.ifCond .eq 26, 3) := by decide +kernel
theorem dX3_bound_57 : decode cX3_bound 57 = .ok (.iload_n 2, 1) := by decide +kernel
theorem dX3_bound_58 : decode cX3_bound 58 = .ok (.iconst (-1), 1) := by decide +kernel
theorem dX3_bound_59 : decode cX3_bound 59 = .ok (.if_icmp .eq 19, 3) := by decide +kernel
theorem dX3_bound_62 : decode cX3_bound 62 = .ok (.aload_n 0, 1) := by decide +kernel
theorem dX3_bound_63 : decode cX3_bound 63 = .ok (.getfield 26, 3) := by decide +kernel
theorem dX3_bound_66 : decode cX3_bound 66 = .ok (.iload_n 3, 1) := by decide +kernel
theorem dX3_bound_67 : decode cX3_bound 67 = .ok (.daload, 1) := by decide +kernel
theorem dX3_bound_68 : decode cX3_bound 68 = .ok (.aload_n 0, 1) := by decide +kernel
theorem dX3_bound_69 : decode cX3_bound 69 = .ok (.getfield 26, 3) := by decide +kernel
theorem dX3_bound_72 : decode cX3_bound 72 = .ok (.iload_n 2, 1) := by decide +kernel
theorem dX3_bound_73 : decode cX3_bound 73 = .ok (.daload, 1) := by decide +kernel
theorem dX3_bound_74 : decode cX3_bound 74 = .ok (.dcmp .l, 1) := by decide +kernel
theorem dX3_bound_75 : decode cX3_bound 75 = .ok (.ifCond .le 5, 3) := by decide +kernel
theorem dX3_bound_78 : decode cX3_bound 78 = .ok (.iload_n 3, 1) := by decide +kernel
theorem dX3_bound_79 : decode cX3_bound 79 = .ok (.istore_n 2, 1) := by decide +kernel
theorem dX3_bound_80 : decode cX3_bound 80 = .ok (.iinc 3 1, 3) := by decide +kernel
theorem dX3_bound_83 : decode cX3_bound 83 = .ok (.goto (-79), 3) := by decide +kernel
theorem dX3_bound_86 : decode cX3_bound 86 = .ok (.iload_n 2, 1) := by decide +kernel
theorem dX3_bound_87 : decode cX3_bound 87 = .ok (.ireturn, 1) := by decide +kernel
theorem dX3_notes_0 : decode cX3_notes 0 = .ok (.iconst 4, 1) := by decide +kernel
theorem dX3_notes_1 : decode cX3_notes 1 = .ok (.aload_n 0, 1) := by decide +kernel
theorem dX3_notes_2 : decode cX3_notes 2 = .ok (.getfield 128, 3) := by decide +kernel
theorem dX3_notes_5 : decode cX3_notes 5 = .ok (.sipush 200, 3) := by decide +kernel
theorem dX3_notes_8 : decode cX3_notes 8 = .ok (.irem, 1) := by decide +kernel
theorem dX3_notes_9 : decode cX3_notes 9 = .ok (.imul, 1) := by decide +kernel
theorem dX3_notes_10 : decode cX3_notes 10 = .ok (.istore 4, 2) := by decide +kernel
theorem dX3_notes_12 : decode cX3_notes 12 = .ok (.aload_n 0, 1) := by decide +kernel
theorem dX3_notes_13 : decode cX3_notes 13 = .ok (.getfield 63, 3) := by decide +kernel
theorem dX3_notes_16 : decode cX3_notes 16 = .ok (.iload 4, 2) := by decide +kernel
theorem dX3_notes_18 : decode cX3_notes 18 = .ok (.iload_n 1, 1) := by decide +kernel
theorem dX3_notes_19 : decode cX3_notes 19 = .ok (.iastore, 1) := by decide +kernel
theorem dX3_notes_20 : decode cX3_notes 20 = .ok (.aload_n 0, 1) := by decide +kernel
theorem dX3_notes_21 : decode cX3_notes 21 = .ok (.getfield 63, 3) := by decide +kernel
theorem dX3_notes_24 : decode cX3_notes 24 = .ok (.iload 4, 2) := by decide +kernel
theorem dX3_notes_26 : decode cX3_notes 26 = .ok (.iconst 1, 1) := by decide +kernel
theorem dX3_notes_27 : decode cX3_notes 27 = .ok (.iadd, 1) := by decide +kernel
theorem dX3_notes_28 : decode cX3_notes 28 = .ok (.iload_n 2, 1) := by decide +kernel
theorem dX3_notes_29 : decode cX3_notes 29 = .ok (.iastore, 1) := by decide +kernel
theorem dX3_notes_30 : decode cX3_notes 30 = .ok (.aload_n 0, 1) := by decide +kernel
theorem dX3_notes_31 : decode cX3_notes 31 = .ok (.getfield 63, 3) := by decide +kernel
theorem dX3_notes_34 : decode cX3_notes 34 = .ok (.iload 4, 2) := by decide +kernel
theorem dX3_notes_36 : decode cX3_notes 36 = .ok (.iconst 2, 1) := by decide +kernel
theorem dX3_notes_37 : decode cX3_notes 37 = .ok (.iadd, 1) := by decide +kernel
theorem dX3_notes_38 : decode cX3_notes 38 = .ok (.iload_n 3, 1) := by decide +kernel
theorem dX3_notes_39 : decode cX3_notes 39 = .ok (.iastore, 1) := by decide +kernel
theorem dX3_notes_40 : decode cX3_notes 40 = .ok (.aload_n 0, 1) := by decide +kernel
theorem dX3_notes_41 : decode cX3_notes 41 = .ok (.getfield 63, 3) := by decide +kernel
theorem dX3_notes_44 : decode cX3_notes 44 = .ok (.iload 4, 2) := by decide +kernel
theorem dX3_notes_46 : decode cX3_notes 46 = .ok (.iconst 3, 1) := by decide +kernel
theorem dX3_notes_47 : decode cX3_notes 47 = .ok (.iadd, 1) := by decide +kernel
theorem dX3_notes_48 : decode cX3_notes 48 = .ok (.aload_n 0, 1) := by decide +kernel
theorem dX3_notes_49 : decode cX3_notes 49 = .ok (.getfield 131, 3) := by decide +kernel
theorem dX3_notes_52 : decode cX3_notes 52 = .ok (.iastore, 1) := by decide +kernel
theorem dX3_notes_53 : decode cX3_notes 53 = .ok (.aload_n 0, 1) := by decide +kernel
theorem dX3_notes_54 : decode cX3_notes 54 = .ok (.dup, 1) := by decide +kernel
theorem dX3_notes_55 : decode cX3_notes 55 = .ok (.getfield 128, 3) := by decide +kernel
theorem dX3_notes_58 : decode cX3_notes 58 = .ok (.iconst 1, 1) := by decide +kernel
theorem dX3_notes_59 : decode cX3_notes 59 = .ok (.iadd, 1) := by decide +kernel
theorem dX3_notes_60 : decode cX3_notes 60 = .ok (.putfield 128, 3) := by decide +kernel
theorem dX3_notes_63 : decode cX3_notes 63 = .ok (.return_, 1) := by decide +kernel
theorem dX3_points_0 : decode cX3_points 0 = .ok (.iconst 0, 1) := by decide +kernel
theorem dX3_points_1 : decode cX3_points 1 = .ok (.istore_n 1, 1) := by decide +kernel
theorem dX3_points_2 : decode cX3_points 2 = .ok (.iload_n 1, 1) := by decide +kernel
theorem dX3_points_3 : decode cX3_points 3 = .ok (.bipush 7, 2) := by decide +kernel
theorem dX3_points_5 : decode cX3_points 5 = .ok (.if_icmp .ge 69, 3) := by decide +kernel
theorem dX3_points_8 : decode cX3_points 8 = .ok (.aload_n 0, 1) := by decide +kernel
theorem dX3_points_9 : decode cX3_points 9 = .ok (.getfield 50, 3) := by decide +kernel
theorem dX3_points_12 : decode cX3_points 12 = .ok (.iload_n 1, 1) := by decide +kernel
theorem dX3_points_13 : decode cX3_points 13 = .ok (.iaload, 1) := by decide +kernel
theorem dX3_points_14 : decode cX3_points 14 = .ok (.ifCond .le 54, 3) := by decide +kernel
theorem dX3_points_17 : decode cX3_points 17 = .ok (.aload_n 0, 1) := by decide +kernel
theorem dX3_points_18 : decode cX3_points 18 = .ok (.getfield 53, 3) := by decide +kernel
theorem dX3_points_21 : decode cX3_points 21 = .ok (.iload_n 1, 1) := by decide +kernel
theorem dX3_points_22 : decode cX3_points 22 = .ok (.baload, 1) := by decide +kernel
theorem dX3_points_23 : decode cX3_points 23 = .ok (.ifCond .ne 45, 3) := by decide +kernel
theorem dX3_points_26 : decode cX3_points 26 = .ok (.aload_n 0, 1) := by decide +kernel
theorem dX3_points_27 : decode cX3_points 27 = .ok (.getfield 50, 3) := by decide +kernel
theorem dX3_points_30 : decode cX3_points 30 = .ok (.iload_n 1, 1) := by decide +kernel
theorem dX3_points_31 : decode cX3_points 31 = .ok (.dup2, 1) := by decide +kernel
theorem dX3_points_32 : decode cX3_points 32 = .ok (.iaload, 1) := by decide +kernel
theorem dX3_points_33 : decode cX3_points 33 = .ok (.iconst 1, 1) := by decide +kernel
theorem dX3_points_34 : decode cX3_points 34 = .ok (.isub, 1) := by decide +kernel
theorem dX3_points_35 : decode cX3_points 35 = .ok (.iastore, 1) := by decide +kernel
theorem dX3_points_36 : decode cX3_points 36 = .ok (.aload_n 0, 1) := by decide +kernel
theorem dX3_points_37 : decode cX3_points 37 = .ok (.getfield 47, 3) := by decide +kernel
theorem dX3_points_40 : decode cX3_points 40 = .ok (.iload_n 1, 1) := by decide +kernel
theorem dX3_points_41 : decode cX3_points 41 = .ok (.aload_n 0, 1) := by decide +kernel
theorem dX3_points_42 : decode cX3_points 42 = .ok (.getfield 50, 3) := by decide +kernel
theorem dX3_points_45 : decode cX3_points 45 = .ok (.iload_n 1, 1) := by decide +kernel
theorem dX3_points_46 : decode cX3_points 46 = .ok (.iaload, 1) := by decide +kernel
theorem dX3_points_47 : decode cX3_points 47 = .ok (.ifCond .ne 14, 3) := by decide +kernel
theorem dX3_points_50 : decode cX3_points 50 = .ok (.iconst 1, 1) := by decide +kernel
theorem dX3_points_51 : decode cX3_points 51 = .ok (.aload_n 0, 1) := by decide +kernel
theorem dX3_points_52 : decode cX3_points 52 = .ok (.getfield 47, 3) := by decide +kernel
theorem dX3_points_55 : decode cX3_points 55 = .ok (.iload_n 1, 1) := by decide +kernel
theorem dX3_points_56 : decode cX3_points 56 = .ok (.iaload, 1) := by decide +kernel
theorem dX3_points_57 : decode cX3_points 57 = .ok (.isub, 1) := by decide +kernel
theorem dX3_points_58 : decode cX3_points 58 = .ok (.goto 9, 3) := by decide +kernel
theorem dX3_points_61 : decode cX3_points 61 = .ok (.aload_n 0, 1) := by decide +kernel
theorem dX3_points_62 : decode cX3_points 62 = .ok (.getfield 47, 3) := by decide +kernel
theorem dX3_points_65 : decode cX3_points 65 = .ok (.iload_n 1, 1) := by decide +kernel
theorem dX3_points_66 : decode cX3_points 66 = .ok (.iaload, 1) := by decide +kernel
theorem dX3_points_67 : decode cX3_points 67 = .ok (.iastore, 1) := by decide +kernel
theorem dX3_points_68 : decode cX3_points 68 = .ok (.iinc 1 1, 3) := by decide +kernel
theorem dX3_points_71 : decode cX3_points 71 = .ok (.goto (-69), 3) := by decide +kernel
theorem dX3_points_74 : decode cX3_points 74 = .ok (.iconst 0, 1) := by decide +kernel
theorem dX3_points_75 : decode cX3_points 75 = .ok (.istore_n 1, 1) := by decide +kernel
theorem dX3_points_76 : decode cX3_points 76 = .ok (.iload_n 1, 1) := by decide +kernel
theorem dX3_points_77 : decode cX3_points 77 = .ok (.bipush 7, 2) := by decide +kernel
theorem dX3_points_79 : decode cX3_points 79 = .ok (.if_icmp .ge 80, 3) := by decide +kernel
theorem dX3_points_82 : decode cX3_points 82 = .ok (.aload_n 0, 1) := by decide +kernel
theorem dX3_points_83 : decode cX3_points 83 = .ok (.getfield 50, 3) := by decide +kernel
theorem dX3_points_86 : decode cX3_points 86 = .ok (.iload_n 1, 1) := by decide +kernel
theorem dX3_points_87 : decode cX3_points 87 = .ok (.iaload, 1) := by decide +kernel
theorem dX3_points_88 : decode cX3_points 88 = .ok (.ifCond .gt 65, 3) := by decide +kernel
theorem dX3_points_91 : decode cX3_points 91 = .ok (.aload_n 0, 1) := by decide +kernel
theorem dX3_points_92 : decode cX3_points 92 = .ok (.getfield 53, 3) := by decide +kernel
theorem dX3_points_95 : decode cX3_points 95 = .ok (.iload_n 1, 1) := by decide +kernel
theorem dX3_points_96 : decode cX3_points 96 = .ok (.baload, 1) := by decide +kernel
theorem dX3_points_97 : decode cX3_points 97 = .ok (.ifCond .ne 56, 3) := by decide +kernel
theorem dX3_points_100 : decode cX3_points 100 = .ok (.aload_n 0, 1) := by decide +kernel
theorem dX3_points_101 : decode cX3_points 101 = .ok (.iload_n 1, 1) := by decide +kernel
theorem dX3_points_102 : decode cX3_points 102 = .ok (.invokevirtual 134, 3) := by decide +kernel
theorem dX3_points_105 : decode cX3_points 105 = .ok (.ifCond .eq 6, 3) := by decide +kernel
theorem dX3_points_108 : decode cX3_points 108 = .ok (.goto 45, 3) := by decide +kernel
theorem dX3_points_111 : decode cX3_points 111 = .ok (.aload_n 0, 1) := by decide +kernel
theorem dX3_points_112 : decode cX3_points 112 = .ok (.iload_n 1, 1) := by decide +kernel
theorem dX3_points_113 : decode cX3_points 113 = .ok (.invokevirtual 137, 3) := by decide +kernel
theorem dX3_points_116 : decode cX3_points 116 = .ok (.istore_n 2, 1) := by decide +kernel
theorem dX3_points_117 : decode cX3_points 117 = .ok (.iload_n 2, 1) := by decide +kernel
theorem dX3_points_118 : decode cX3_points 118 = .ok (.iconst (-1), 1) := by decide +kernel
theorem dX3_points_119 : decode cX3_points 119 = .ok (.if_icmp .eq 34, 3) := by decide +kernel
theorem dX3_points_122 : decode cX3_points 122 = .ok (.aload_n 0, 1) := by decide +kernel
theorem dX3_points_123 : decode cX3_points 123 = .ok (.getfield 23, 3) := by decide +kernel
theorem dX3_points_126 : decode cX3_points 126 = .ok (.iload_n 2, 1) := by decide +kernel
theorem dX3_points_127 : decode cX3_points 127 = .ok (.iaload, 1) := by decide +kernel
theorem dX3_points_128 : decode cX3_points 128 = .ok (.iconst 2, 1) := by decide +kernel
theorem dX3_points_129 : decode cX3_points 129 = .ok (.iload_n 1, 1) := by decide +kernel
theorem dX3_points_130 : decode cX3_points 130 = .ok (.invokestatic 101, 3) := by decide +kernel
theorem dX3_points_133 : decode cX3_points 133 = .ok (.isub, 1) := by decide +kernel
theorem dX3_points_134 : decode cX3_points 134 = .ok (.ishr, 1) := by decide +kernel
theorem dX3_points_135 : decode cX3_points 135 = .ok (.iconst 1, 1) := by decide +kernel
theorem dX3_points_136 : decode cX3_points 136 = .ok (.iand, 1) := by decide +kernel
theorem dX3_points_137 : decode cX3_points 137 = .ok (.aload_n 0, 1) := by decide +kernel
theorem dX3_points_138 : decode cX3_points 138 = .ok (.getfield 47, 3) := by decide +kernel
theorem dX3_points_141 : decode cX3_points 141 = .ok (.iload_n 1, 1) := by decide +kernel
theorem dX3_points_142 : decode cX3_points 142 = .ok (.iaload, 1) := by decide +kernel
theorem dX3_points_143 : decode cX3_points 143 = .ok (.if_icmp .eq 10, 3) := by decide +kernel
theorem dX3_points_146 : decode cX3_points 146 = .ok (.aload_n 0, 1) := by decide +kernel
theorem dX3_points_147 : decode cX3_points 147 = .ok (.getfield 50, 3) := by decide +kernel
theorem dX3_points_150 : decode cX3_points 150 = .ok (.iload_n 1, 1) := by decide +kernel
theorem dX3_points_151 : decode cX3_points 151 = .ok (.iconst 4, 1) := by decide +kernel
theorem dX3_points_152 : decode cX3_points 152 = .ok (.iastore, 1) := by decide +kernel
theorem dX3_points_153 : decode cX3_points 153 = .ok (.iinc 1 1, 3) := by decide +kernel
theorem dX3_points_156 : decode cX3_points 156 = .ok (.goto (-80), 3) := by decide +kernel
theorem dX3_points_159 : decode cX3_points 159 = .ok (.return_, 1) := by decide +kernel
theorem dX3_brakes_0 : decode cX3_brakes 0 = .ok (.iload_n 1, 1) := by decide +kernel
theorem dX3_brakes_1 : decode cX3_brakes 1 = .ok (.ifCond .ne 9, 3) := by decide +kernel
theorem dX3_brakes_4 : decode cX3_brakes 4 = .ok (.ldc2_w 140, 3) := by decide +kernel
theorem dX3_brakes_7 : decode cX3_brakes 7 = .ok (.goto 6, 3) := by decide +kernel
theorem dX3_brakes_10 : decode cX3_brakes 10 = .ok (.ldc2_w 142, 3) := by decide +kernel
theorem dX3_brakes_13 : decode cX3_brakes 13 = .ok (.dstore_n 3, 1) := by decide +kernel
theorem dX3_brakes_14 : decode cX3_brakes 14 = .ok (.iload_n 1, 1) := by decide +kernel
theorem dX3_brakes_15 : decode cX3_brakes 15 = .ok (.ifCond .ne 9, 3) := by decide +kernel
theorem dX3_brakes_18 : decode cX3_brakes 18 = .ok (.ldc2_w 144, 3) := by decide +kernel
theorem dX3_brakes_21 : decode cX3_brakes 21 = .ok (.goto 6, 3) := by decide +kernel
theorem dX3_brakes_24 : decode cX3_brakes 24 = .ok (.ldc2_w 146, 3) := by decide +kernel
theorem dX3_brakes_27 : decode cX3_brakes 27 = .ok (.dstore 5, 2) := by decide +kernel
theorem dX3_brakes_29 : decode cX3_brakes 29 = .ok (.aload_n 0, 1) := by decide +kernel
theorem dX3_brakes_30 : decode cX3_brakes 30 = .ok (.getfield 26, 3) := by decide +kernel
theorem dX3_brakes_33 : decode cX3_brakes 33 = .ok (.iload_n 2, 1) := by decide +kernel
theorem dX3_brakes_34 : decode cX3_brakes 34 = .ok (.daload, 1) := by decide +kernel
theorem dX3_brakes_35 : decode cX3_brakes 35 = .ok (.dload_n 3, 1) := by decide +kernel
theorem dX3_brakes_36 : decode cX3_brakes 36 = .ok (.dcmp .g, 1) := by decide +kernel
theorem dX3_brakes_37 : decode cX3_brakes 37 = .ok (.ifCond .lt 30, 3) := by decide +kernel
theorem dX3_brakes_40 : decode cX3_brakes 40 = .ok (.aload_n 0, 1) := by decide +kernel
theorem dX3_brakes_41 : decode cX3_brakes 41 = .ok (.iload_n 2, 1) := by decide +kernel
theorem dX3_brakes_42 : decode cX3_brakes 42 = .ok (.invokevirtual 120, 3) := by decide +kernel
theorem dX3_brakes_45 : decode cX3_brakes 45 = .ok (.dload 5, 2) := by decide +kernel
theorem dX3_brakes_47 : decode cX3_brakes 47 = .ok (.dcmp .l, 1) := by decide +kernel
theorem dX3_brakes_48 : decode cX3_brakes 48 = .ok (.ifCond .gt 19, 3) := by decide +kernel
theorem dX3_brakes_51 : decode cX3_brakes 51 = .ok (.aload_n 0, 1) := by decide +kernel
theorem dX3_brakes_52 : decode cX3_brakes 52 = .ok (.getfield 29, 3) := by decide +kernel
theorem dX3_brakes_55 : decode cX3_brakes 55 = .ok (.iload_n 2, 1) := by decide +kernel
theorem dX3_brakes_56 : decode cX3_brakes 56 = .ok (.daload, 1) := by decide +kernel
theorem dX3_brakes_57 : decode cX3_brakes 57 = .ok (.aload_n 0, 1) := by decide +kernel
theorem dX3_brakes_58 : decode cX3_brakes 58 = .ok (.getfield 41, 3) := by decide +kernel
theorem dX3_brakes_61 : decode cX3_brakes 61 = .ok (.iload_n 1, 1) := by decide +kernel
theorem dX3_brakes_62 : decode cX3_brakes 62 = .ok (.daload, 1) := by decide +kernel
theorem dX3_brakes_63 : decode cX3_brakes 63 = .ok (.dcmp .g, 1) := by decide +kernel
theorem dX3_brakes_64 : decode cX3_brakes 64 = .ok (.ifCond .gt 5, 3) := by decide +kernel
theorem dX3_brakes_67 : decode cX3_brakes 67 = .ok (.dconst 0, 1) := by decide +kernel
theorem dX3_brakes_68 : decode cX3_brakes 68 = .ok (.dreturn, 1) := by decide +kernel
theorem dX3_brakes_69 : decode cX3_brakes 69 = .ok (.aload_n 0, 1) := by decide +kernel
theorem dX3_brakes_70 : decode cX3_brakes 70 = .ok (.getfield 29, 3) := by decide +kernel
theorem dX3_brakes_73 : decode cX3_brakes 73 = .ok (.iload_n 2, 1) := by decide +kernel
theorem dX3_brakes_74 : decode cX3_brakes 74 = .ok (.daload, 1) := by decide +kernel
theorem dX3_brakes_75 : decode cX3_brakes 75 = .ok (.aload_n 0, 1) := by decide +kernel
theorem dX3_brakes_76 : decode cX3_brakes 76 = .ok (.getfield 41, 3) := by decide +kernel
theorem dX3_brakes_79 : decode cX3_brakes 79 = .ok (.iload_n 1, 1) := by decide +kernel
theorem dX3_brakes_80 : decode cX3_brakes 80 = .ok (.daload, 1) := by decide +kernel
theorem dX3_brakes_81 : decode cX3_brakes 81 = .ok (.dsub, 1) := by decide +kernel
theorem dX3_brakes_82 : decode cX3_brakes 82 = .ok (.ldc2_w 148, 3) := by decide +kernel
theorem dX3_brakes_85 : decode cX3_brakes 85 = .ok (.dmul, 1) := by decide +kernel
theorem dX3_brakes_86 : decode cX3_brakes 86 = .ok (.d2i, 1) := by decide +kernel
theorem dX3_brakes_87 : decode cX3_brakes 87 = .ok (.iconst 1, 1) := by decide +kernel
theorem dX3_brakes_88 : decode cX3_brakes 88 = .ok (.iadd, 1) := by decide +kernel
theorem dX3_brakes_89 : decode cX3_brakes 89 = .ok (.istore 7, 2) := by decide +kernel
theorem dX3_brakes_91 : decode cX3_brakes 91 = .ok (.ldc2_w 150, 3) := by decide +kernel
theorem dX3_brakes_94 : decode cX3_brakes 94 = .ok (.iload 7, 2) := by decide +kernel
theorem dX3_brakes_96 : decode cX3_brakes 96 = .ok (.bipush 15, 2) := by decide +kernel
theorem dX3_brakes_98 : decode cX3_brakes 98 = .ok (.if_icmp .le 8, 3) := by decide +kernel
theorem dX3_brakes_101 : decode cX3_brakes 101 = .ok (.bipush 15, 2) := by decide +kernel
theorem dX3_brakes_103 : decode cX3_brakes 103 = .ok (.goto 5, 3) := by decide +kernel
theorem dX3_brakes_106 : decode cX3_brakes 106 = .ok (.iload 7, 2) := by decide +kernel
theorem dX3_brakes_108 : decode cX3_brakes 108 = .ok (.i2d, 1) := by decide +kernel
theorem dX3_brakes_109 : decode cX3_brakes 109 = .ok (.dmul, 1) := by decide +kernel
theorem dX3_brakes_110 : decode cX3_brakes 110 = .ok (.dreturn, 1) := by decide +kernel
theorem dX3_rolls_0 : decode cX3_rolls 0 = .ok (.aload_n 0, 1) := by decide +kernel
theorem dX3_rolls_1 : decode cX3_rolls 1 = .ok (.getfield 26, 3) := by decide +kernel
theorem dX3_rolls_4 : decode cX3_rolls 4 = .ok (.iload_n 1, 1) := by decide +kernel
theorem dX3_rolls_5 : decode cX3_rolls 5 = .ok (.daload, 1) := by decide +kernel
theorem dX3_rolls_6 : decode cX3_rolls 6 = .ok (.ldc2_w 152, 3) := by decide +kernel
theorem dX3_rolls_9 : decode cX3_rolls 9 = .ok (.dcmp .g, 1) := by decide +kernel
theorem dX3_rolls_10 : decode cX3_rolls 10 = .ok (.ifCond .ge 9, 3) := by decide +kernel
theorem dX3_rolls_13 : decode cX3_rolls 13 = .ok (.ldc2_w 154, 3) := by decide +kernel
theorem dX3_rolls_16 : decode cX3_rolls 16 = .ok (.goto 25, 3) := by decide +kernel
theorem dX3_rolls_19 : decode cX3_rolls 19 = .ok (.aload_n 0, 1) := by decide +kernel
theorem dX3_rolls_20 : decode cX3_rolls 20 = .ok (.getfield 26, 3) := by decide +kernel
theorem dX3_rolls_23 : decode cX3_rolls 23 = .ok (.iload_n 1, 1) := by decide +kernel
theorem dX3_rolls_24 : decode cX3_rolls 24 = .ok (.daload, 1) := by decide +kernel
theorem dX3_rolls_25 : decode cX3_rolls 25 = .ok (.ldc2_w 156, 3) := by decide +kernel
theorem dX3_rolls_28 : decode cX3_rolls 28 = .ok (.dcmp .g, 1) := by decide +kernel
theorem dX3_rolls_29 : decode cX3_rolls 29 = .ok (.ifCond .ge 9, 3) := by decide +kernel
theorem dX3_rolls_32 : decode cX3_rolls 32 = .ok (.ldc2_w 158, 3) := by decide +kernel
theorem dX3_rolls_35 : decode cX3_rolls 35 = .ok (.goto 6, 3) := by decide +kernel
theorem dX3_rolls_38 : decode cX3_rolls 38 = .ok (.ldc2_w 160, 3) := by decide +kernel
theorem dX3_rolls_41 : decode cX3_rolls 41 = .ok (.dstore_n 2, 1) := by decide +kernel
theorem dX3_rolls_42 : decode cX3_rolls 42 = .ok (.ldc2_w 162, 3) := by decide +kernel
theorem dX3_rolls_45 : decode cX3_rolls 45 = .ok (.dload_n 2, 1) := by decide +kernel
theorem dX3_rolls_46 : decode cX3_rolls 46 = .ok (.aload_n 0, 1) := by decide +kernel
theorem dX3_rolls_47 : decode cX3_rolls 47 = .ok (.getfield 19, 3) := by decide +kernel
theorem dX3_rolls_50 : decode cX3_rolls 50 = .ok (.iload_n 1, 1) := by decide +kernel
theorem dX3_rolls_51 : decode cX3_rolls 51 = .ok (.daload, 1) := by decide +kernel
theorem dX3_rolls_52 : decode cX3_rolls 52 = .ok (.ldc2_w 164, 3) := by decide +kernel
theorem dX3_rolls_55 : decode cX3_rolls 55 = .ok (.ddiv, 1) := by decide +kernel
theorem dX3_rolls_56 : decode cX3_rolls 56 = .ok (.dsub, 1) := by decide +kernel
theorem dX3_rolls_57 : decode cX3_rolls 57 = .ok (.dmul, 1) := by decide +kernel
theorem dX3_rolls_58 : decode cX3_rolls 58 = .ok (.dstore 4, 2) := by decide +kernel
theorem dX3_rolls_60 : decode cX3_rolls 60 = .ok (.dload 4, 2) := by decide +kernel
theorem dX3_rolls_62 : decode cX3_rolls 62 = .ok (.aload_n 0, 1) := by decide +kernel
theorem dX3_rolls_63 : decode cX3_rolls 63 = .ok (.iconst 0, 1) := by decide +kernel
theorem dX3_rolls_64 : decode cX3_rolls 64 = .ok (.iload_n 1, 1) := by decide +kernel
theorem dX3_rolls_65 : decode cX3_rolls 65 = .ok (.invokevirtual 166, 3) := by decide +kernel
theorem dX3_rolls_68 : decode cX3_rolls 68 = .ok (.dsub, 1) := by decide +kernel
theorem dX3_rolls_69 : decode cX3_rolls 69 = .ok (.dstore 4, 2) := by decide +kernel
theorem dX3_rolls_71 : decode cX3_rolls 71 = .ok (.aload_n 0, 1) := by decide +kernel
theorem dX3_rolls_72 : decode cX3_rolls 72 = .ok (.getfield 32, 3) := by decide +kernel
theorem dX3_rolls_75 : decode cX3_rolls 75 = .ok (.iload_n 1, 1) := by decide +kernel
theorem dX3_rolls_76 : decode cX3_rolls 76 = .ok (.iaload, 1) := by decide +kernel
theorem dX3_rolls_77 : decode cX3_rolls 77 = .ok (.iconst 3, 1) := by decide +kernel
theorem dX3_rolls_78 : decode cX3_rolls 78 = .ok (.if_icmp .ne 21, 3) := by decide +kernel
theorem dX3_rolls_81 : decode cX3_rolls 81 = .ok (.dload 4, 2) := by decide +kernel
theorem dX3_rolls_83 : decode cX3_rolls 83 = .ok (.aload_n 0, 1) := by decide +kernel
theorem dX3_rolls_84 : decode cX3_rolls 84 = .ok (.iconst 1, 1) := by decide +kernel
theorem dX3_rolls_85 : decode cX3_rolls 85 = .ok (.aload_n 0, 1) := by decide +kernel
theorem dX3_rolls_86 : decode cX3_rolls 86 = .ok (.getfield 35, 3) := by decide +kernel
theorem dX3_rolls_89 : decode cX3_rolls 89 = .ok (.iload_n 1, 1) := by decide +kernel
theorem dX3_rolls_90 : decode cX3_rolls 90 = .ok (.iaload, 1) := by decide +kernel
theorem dX3_rolls_91 : decode cX3_rolls 91 = .ok (.iadd, 1) := by decide +kernel
theorem dX3_rolls_92 : decode cX3_rolls 92 = .ok (.iload_n 1, 1) := by decide +kernel
theorem dX3_rolls_93 : decode cX3_rolls 93 = .ok (.invokevirtual 166, 3) := by decide +kernel
theorem dX3_rolls_96 : decode cX3_rolls 96 = .ok (.dsub, 1) := by decide +kernel
theorem dX3_rolls_97 : decode cX3_rolls 97 = .ok (.dstore 4, 2) := by decide +kernel
theorem dX3_rolls_99 : decode cX3_rolls 99 = .ok (.aload_n 0, 1) := by decide +kernel
theorem dX3_rolls_100 : decode cX3_rolls 100 = .ok (.getfield 29, 3) := by decide +kernel
theorem dX3_rolls_103 : decode cX3_rolls 103 = .ok (.iload_n 1, 1) := by decide +kernel
theorem dX3_rolls_104 : decode cX3_rolls 104 = .ok (.daload, 1) := by decide +kernel
theorem dX3_rolls_105 : decode cX3_rolls 105 = .ok (.dload 4, 2) := by decide +kernel
theorem dX3_rolls_107 : decode cX3_rolls 107 = .ok (.ldc2_w 170, 3) := by decide +kernel
theorem dX3_rolls_110 : decode cX3_rolls 110 = .ok (.dmul, 1) := by decide +kernel
theorem dX3_rolls_111 : decode cX3_rolls 111 = .ok (.dadd, 1) := by decide +kernel
theorem dX3_rolls_112 : decode cX3_rolls 112 = .ok (.dstore 6, 2) := by decide +kernel
theorem dX3_rolls_114 : decode cX3_rolls 114 = .ok (.dload 6, 2) := by decide +kernel
theorem dX3_rolls_116 : decode cX3_rolls 116 = .ok (.dconst 0, 1) := by decide +kernel
theorem dX3_rolls_117 : decode cX3_rolls 117 = .ok (.dcmp .g, 1) := by decide +kernel
theorem dX3_rolls_118 : decode cX3_rolls 118 = .ok (.ifCond .ge 7, 3) := by decide +kernel
theorem dX3_rolls_121 : decode cX3_rolls 121 = .ok (.dconst 0, 1) := by decide +kernel
theorem dX3_rolls_122 : decode cX3_rolls 122 = .ok (.goto 5, 3) := by decide +kernel
theorem dX3_rolls_125 : decode cX3_rolls 125 = .ok (.dload 6, 2) := by decide +kernel
theorem dX3_rolls_127 : decode cX3_rolls 127 = .ok (.dstore 6, 2) := by decide +kernel
theorem dX3_rolls_129 : decode cX3_rolls 129 = .ok (.aload_n 0, 1) := by decide +kernel
theorem dX3_rolls_130 : decode cX3_rolls 130 = .ok (.getfield 29, 3) := by decide +kernel
theorem dX3_rolls_133 : decode cX3_rolls 133 = .ok (.iload_n 1, 1) := by decide +kernel
theorem dX3_rolls_134 : decode cX3_rolls 134 = .ok (.dload 6, 2) := by decide +kernel
theorem dX3_rolls_136 : decode cX3_rolls 136 = .ok (.dastore, 1) := by decide +kernel
theorem dX3_rolls_137 : decode cX3_rolls 137 = .ok (.aload_n 0, 1) := by decide +kernel
theorem dX3_rolls_138 : decode cX3_rolls 138 = .ok (.getfield 26, 3) := by decide +kernel
theorem dX3_rolls_141 : decode cX3_rolls 141 = .ok (.iload_n 1, 1) := by decide +kernel
theorem dX3_rolls_142 : decode cX3_rolls 142 = .ok (.aload_n 0, 1) := by decide +kernel
theorem dX3_rolls_143 : decode cX3_rolls 143 = .ok (.getfield 26, 3) := by decide +kernel
theorem dX3_rolls_146 : decode cX3_rolls 146 = .ok (.iload_n 1, 1) := by decide +kernel
theorem dX3_rolls_147 : decode cX3_rolls 147 = .ok (.daload, 1) := by decide +kernel
theorem dX3_rolls_148 : decode cX3_rolls 148 = .ok (.dload 6, 2) := by decide +kernel
theorem dX3_rolls_150 : decode cX3_rolls 150 = .ok (.ldc2_w 170, 3) := by decide +kernel
theorem dX3_rolls_153 : decode cX3_rolls 153 = .ok (.dmul, 1) := by decide +kernel
theorem dX3_rolls_154 : decode cX3_rolls 154 = .ok (.dadd, 1) := by decide +kernel
theorem dX3_rolls_155 : decode cX3_rolls 155 = .ok (.dastore, 1) := by decide +kernel
theorem dX3_rolls_156 : decode cX3_rolls 156 = .ok (.aload_n 0, 1) := by decide +kernel
theorem dX3_rolls_157 : decode cX3_rolls 157 = .ok (.getfield 32, 3) := by decide +kernel
theorem dX3_rolls_160 : decode cX3_rolls 160 = .ok (.iload_n 1, 1) := by decide +kernel
theorem dX3_rolls_161 : decode cX3_rolls 161 = .ok (.iaload, 1) := by decide +kernel
theorem dX3_rolls_162 : decode cX3_rolls 162 = .ok (.iconst 3, 1) := by decide +kernel
theorem dX3_rolls_163 : decode cX3_rolls 163 = .ok (.if_icmp .ge 134, 3) := by decide +kernel
theorem dX3_rolls_166 : decode cX3_rolls 166 = .ok (.aload_n 0, 1) := by decide +kernel
theorem dX3_rolls_167 : decode cX3_rolls 167 = .ok (.getfield 26, 3) := by decide +kernel
theorem dX3_rolls_170 : decode cX3_rolls 170 = .ok (.iload_n 1, 1) := by decide +kernel
theorem dX3_rolls_171 : decode cX3_rolls 171 = .ok (.daload, 1) := by decide +kernel
theorem dX3_rolls_172 : decode cX3_rolls 172 = .ok (.ldc2_w 97, 3) := by decide +kernel
theorem dX3_rolls_175 : decode cX3_rolls 175 = .ok (.ldc2_w 99, 3) := by decide +kernel
theorem dX3_rolls_178 : decode cX3_rolls 178 = .ok (.aload_n 0, 1) := by decide +kernel
theorem dX3_rolls_179 : decode cX3_rolls 179 = .ok (.getfield 32, 3) := by decide +kernel
theorem dX3_rolls_182 : decode cX3_rolls 182 = .ok (.iload_n 1, 1) := by decide +kernel
theorem dX3_rolls_183 : decode cX3_rolls 183 = .ok (.iaload, 1) := by decide +kernel
theorem dX3_rolls_184 : decode cX3_rolls 184 = .ok (.i2d, 1) := by decide +kernel
theorem dX3_rolls_185 : decode cX3_rolls 185 = .ok (.dmul, 1) := by decide +kernel
theorem dX3_rolls_186 : decode cX3_rolls 186 = .ok (.dadd, 1) := by decide +kernel
theorem dX3_rolls_187 : decode cX3_rolls 187 = .ok (.dcmp .l, 1) := by decide +kernel
theorem dX3_rolls_188 : decode cX3_rolls 188 = .ok (.ifCond .lt 109, 3) := by decide +kernel
theorem dX3_rolls_191 : decode cX3_rolls 191 = .ok (.aload_n 0, 1) := by decide +kernel
theorem dX3_rolls_192 : decode cX3_rolls 192 = .ok (.getfield 35, 3) := by decide +kernel
theorem dX3_rolls_195 : decode cX3_rolls 195 = .ok (.iload_n 1, 1) := by decide +kernel
theorem dX3_rolls_196 : decode cX3_rolls 196 = .ok (.iaload, 1) := by decide +kernel
theorem dX3_rolls_197 : decode cX3_rolls 197 = .ok (.iconst 1, 1) := by decide +kernel
theorem dX3_rolls_198 : decode cX3_rolls 198 = .ok (.aload_n 0, 1) := by decide +kernel
theorem dX3_rolls_199 : decode cX3_rolls 199 = .ok (.getfield 32, 3) := by decide +kernel
theorem dX3_rolls_202 : decode cX3_rolls 202 = .ok (.iload_n 1, 1) := by decide +kernel
theorem dX3_rolls_203 : decode cX3_rolls 203 = .ok (.iaload, 1) := by decide +kernel
theorem dX3_rolls_204 : decode cX3_rolls 204 = .ok (.ishl, 1) := by decide +kernel
theorem dX3_rolls_205 : decode cX3_rolls 205 = .ok (.iadd, 1) := by decide +kernel
theorem dX3_rolls_206 : decode cX3_rolls 206 = .ok (.iconst 1, 1) := by decide +kernel
theorem dX3_rolls_207 : decode cX3_rolls 207 = .ok (.isub, 1) := by decide +kernel
theorem dX3_rolls_208 : decode cX3_rolls 208 = .ok (.istore 8, 2) := by decide +kernel
theorem dX3_rolls_210 : decode cX3_rolls 210 = .ok (.aload_n 0, 1) := by decide +kernel
theorem dX3_rolls_211 : decode cX3_rolls 211 = .ok (.getfield 47, 3) := by decide +kernel
theorem dX3_rolls_214 : decode cX3_rolls 214 = .ok (.iload 8, 2) := by decide +kernel
theorem dX3_rolls_216 : decode cX3_rolls 216 = .ok (.iaload, 1) := by decide +kernel
theorem dX3_rolls_217 : decode cX3_rolls 217 = .ok (.istore 9, 2) := by decide +kernel
theorem dX3_rolls_219 : decode cX3_rolls 219 = .ok (.iload 8, 2) := by decide +kernel
theorem dX3_rolls_221 : decode cX3_rolls 221 = .ok (.aload_n 0, 1) := by decide +kernel
theorem dX3_rolls_222 : decode cX3_rolls 222 = .ok (.getfield 23, 3) := by decide +kernel
theorem dX3_rolls_225 : decode cX3_rolls 225 = .ok (.iload_n 1, 1) := by decide +kernel
theorem dX3_rolls_226 : decode cX3_rolls 226 = .ok (.iaload, 1) := by decide +kernel
theorem dX3_rolls_227 : decode cX3_rolls 227 = .ok (.invokestatic 125, 3) := by decide +kernel
theorem dX3_rolls_230 : decode cX3_rolls 230 = .ok (.istore 10, 2) := by decide +kernel
theorem dX3_rolls_232 : decode cX3_rolls 232 = .ok (.aload_n 0, 1) := by decide +kernel
theorem dX3_rolls_233 : decode cX3_rolls 233 = .ok (.getfield 35, 3) := by decide +kernel
theorem dX3_rolls_236 : decode cX3_rolls 236 = .ok (.iload_n 1, 1) := by decide +kernel
theorem dX3_rolls_237 : decode cX3_rolls 237 = .ok (.iconst 2, 1) := by decide +kernel
theorem dX3_rolls_238 : decode cX3_rolls 238 = .ok (.aload_n 0, 1) := by decide +kernel
theorem dX3_rolls_239 : decode cX3_rolls 239 = .ok (.getfield 35, 3) := by decide +kernel
theorem dX3_rolls_242 : decode cX3_rolls 242 = .ok (.iload_n 1, 1) := by decide +kernel
theorem dX3_rolls_243 : decode cX3_rolls 243 = .ok (.iaload, 1) := by decide +kernel
theorem dX3_rolls_244 : decode cX3_rolls 244 = .ok (.imul, 1) := by decide +kernel
theorem dX3_rolls_245 : decode cX3_rolls 245 = .ok (.iload 9, 2) := by decide +kernel
theorem dX3_rolls_247 : decode cX3_rolls 247 = .ok (.iadd, 1) := by decide +kernel
theorem dX3_rolls_248 : decode cX3_rolls 248 = .ok (.iastore, 1) := by decide +kernel
theorem dX3_rolls_249 : decode cX3_rolls 249 = .ok (.aload_n 0, 1) := by decide +kernel
theorem dX3_rolls_250 : decode cX3_rolls 250 = .ok (.getfield 32, 3) := by decide +kernel
theorem dX3_rolls_253 : decode cX3_rolls 253 = .ok (.iload_n 1, 1) := by decide +kernel
theorem dX3_rolls_254 : decode cX3_rolls 254 = .ok (.dup2, 1) := by decide +kernel
theorem dX3_rolls_255 : decode cX3_rolls 255 = .ok (.iaload, 1) := by decide +kernel
theorem dX3_rolls_256 : decode cX3_rolls 256 = .ok (.iconst 1, 1) := by decide +kernel
theorem dX3_rolls_257 : decode cX3_rolls 257 = .ok (.iadd, 1) := by decide +kernel
theorem dX3_rolls_258 : decode cX3_rolls 258 = .ok (.iastore, 1) := by decide +kernel
theorem dX3_rolls_259 : decode cX3_rolls 259 = .ok (.iload 10, 2) := by decide +kernel
theorem dX3_rolls_261 : decode cX3_rolls 261 = .ok (.ifCond .eq 33, 3) := by decide +kernel
theorem dX3_rolls_264 : decode cX3_rolls 264 = .ok (.aload_n 0, 1) := by decide +kernel
theorem dX3_rolls_265 : decode cX3_rolls 265 = .ok (.getfield 23, 3) := by decide +kernel
theorem dX3_rolls_268 : decode cX3_rolls 268 = .ok (.iload_n 1, 1) := by decide +kernel
theorem dX3_rolls_269 : decode cX3_rolls 269 = .ok (.iaload, 1) := by decide +kernel
theorem dX3_rolls_270 : decode cX3_rolls 270 = .ok (.iconst 3, 1) := by decide +kernel
theorem dX3_rolls_271 : decode cX3_rolls 271 = .ok (.aload_n 0, 1) := by decide +kernel
theorem dX3_rolls_272 : decode cX3_rolls 272 = .ok (.getfield 32, 3) := by decide +kernel
theorem dX3_rolls_275 : decode cX3_rolls 275 = .ok (.iload_n 1, 1) := by decide +kernel
theorem dX3_rolls_276 : decode cX3_rolls 276 = .ok (.iaload, 1) := by decide +kernel
theorem dX3_rolls_277 : decode cX3_rolls 277 = .ok (.isub, 1) := by decide +kernel
theorem dX3_rolls_278 : decode cX3_rolls 278 = .ok (.ishr, 1) := by decide +kernel
theorem dX3_rolls_279 : decode cX3_rolls 279 = .ok (.iconst 1, 1) := by decide +kernel
theorem dX3_rolls_280 : decode cX3_rolls 280 = .ok (.iand, 1) := by decide +kernel
theorem dX3_rolls_281 : decode cX3_rolls 281 = .ok (.iload 9, 2) := by decide +kernel
theorem dX3_rolls_283 : decode cX3_rolls 283 = .ok (.if_icmp .eq 11, 3) := by decide +kernel
theorem dX3_rolls_286 : decode cX3_rolls 286 = .ok (.aload_n 0, 1) := by decide +kernel
theorem dX3_rolls_287 : decode cX3_rolls 287 = .ok (.iconst 0, 1) := by decide +kernel
theorem dX3_rolls_288 : decode cX3_rolls 288 = .ok (.iload_n 1, 1) := by decide +kernel
theorem dX3_rolls_289 : decode cX3_rolls 289 = .ok (.iload 8, 2) := by decide +kernel
theorem dX3_rolls_291 : decode cX3_rolls 291 = .ok (.invokevirtual 172, 3) := by decide +kernel
theorem dX3_rolls_294 : decode cX3_rolls 294 = .ok (.goto (-138), 3) := by decide +kernel
theorem dX3_rolls_297 : decode cX3_rolls 297 = .ok (.return_, 1) := by decide +kernel
theorem dX3_ahead_0 : decode cX3_ahead 0 = .ok (.iload_n 1, 1) := by decide +kernel
theorem dX3_ahead_1 : decode cX3_ahead 1 = .ok (.iconst 1, 1) := by decide +kernel
theorem dX3_ahead_2 : decode cX3_ahead 2 = .ok (.isub, 1) := by decide +kernel
theorem dX3_ahead_3 : decode cX3_ahead 3 = .ok (.istore_n 2, 1) := by decide +kernel
theorem dX3_ahead_4 : decode cX3_ahead 4 = .ok (.iload_n 2, 1) := by decide +kernel
theorem dX3_ahead_5 : decode cX3_ahead 5 = .ok (.ifCond .lt 85, 3) := by decide +kernel
theorem dX3_ahead_8 : decode cX3_ahead 8 = .ok (.aload_n 0, 1) := by decide +kernel
theorem dX3_ahead_9 : decode cX3_ahead 9 = .ok (.getfield 32, 3) := by decide +kernel
theorem dX3_ahead_12 : decode cX3_ahead 12 = .ok (.iload_n 2, 1) := by decide +kernel
theorem dX3_ahead_13 : decode cX3_ahead 13 = .ok (.iaload, 1) := by decide +kernel
theorem dX3_ahead_14 : decode cX3_ahead 14 = .ok (.aload_n 0, 1) := by decide +kernel
theorem dX3_ahead_15 : decode cX3_ahead 15 = .ok (.getfield 32, 3) := by decide +kernel
theorem dX3_ahead_18 : decode cX3_ahead 18 = .ok (.iload_n 1, 1) := by decide +kernel
theorem dX3_ahead_19 : decode cX3_ahead 19 = .ok (.iaload, 1) := by decide +kernel
theorem dX3_ahead_20 : decode cX3_ahead 20 = .ok (.if_icmp .ge 12, 3) := by decide +kernel
theorem dX3_ahead_23 : decode cX3_ahead 23 = .ok (.aload_n 0, 1) := by decide +kernel
theorem dX3_ahead_24 : decode cX3_ahead 24 = .ok (.getfield 32, 3) := by decide +kernel
theorem dX3_ahead_27 : decode cX3_ahead 27 = .ok (.iload_n 2, 1) := by decide +kernel
theorem dX3_ahead_28 : decode cX3_ahead 28 = .ok (.iaload, 1) := by decide +kernel
theorem dX3_ahead_29 : decode cX3_ahead 29 = .ok (.goto 9, 3) := by decide +kernel
theorem dX3_ahead_32 : decode cX3_ahead 32 = .ok (.aload_n 0, 1) := by decide +kernel
theorem dX3_ahead_33 : decode cX3_ahead 33 = .ok (.getfield 32, 3) := by decide +kernel
theorem dX3_ahead_36 : decode cX3_ahead 36 = .ok (.iload_n 1, 1) := by decide +kernel
theorem dX3_ahead_37 : decode cX3_ahead 37 = .ok (.iaload, 1) := by decide +kernel
theorem dX3_ahead_38 : decode cX3_ahead 38 = .ok (.istore_n 3, 1) := by decide +kernel
theorem dX3_ahead_39 : decode cX3_ahead 39 = .ok (.aload_n 0, 1) := by decide +kernel
theorem dX3_ahead_40 : decode cX3_ahead 40 = .ok (.getfield 7, 3) := by decide +kernel
theorem dX3_ahead_43 : decode cX3_ahead 43 = .ok (.iload_n 2, 1) := by decide +kernel
theorem dX3_ahead_44 : decode cX3_ahead 44 = .ok (.iaload, 1) := by decide +kernel
theorem dX3_ahead_45 : decode cX3_ahead 45 = .ok (.iconst 1, 1) := by decide +kernel
theorem dX3_ahead_46 : decode cX3_ahead 46 = .ok (.if_icmp .ne 38, 3) := by decide +kernel
theorem dX3_ahead_49 : decode cX3_ahead 49 = .ok (.aload_n 0, 1) := by decide +kernel
theorem dX3_ahead_50 : decode cX3_ahead 50 = .ok (.getfield 35, 3) := by decide +kernel
theorem dX3_ahead_53 : decode cX3_ahead 53 = .ok (.iload_n 2, 1) := by decide +kernel
theorem dX3_ahead_54 : decode cX3_ahead 54 = .ok (.iaload, 1) := by decide +kernel
theorem dX3_ahead_55 : decode cX3_ahead 55 = .ok (.aload_n 0, 1) := by decide +kernel
theorem dX3_ahead_56 : decode cX3_ahead 56 = .ok (.getfield 32, 3) := by decide +kernel
theorem dX3_ahead_59 : decode cX3_ahead 59 = .ok (.iload_n 2, 1) := by decide +kernel
theorem dX3_ahead_60 : decode cX3_ahead 60 = .ok (.iaload, 1) := by decide +kernel
theorem dX3_ahead_61 : decode cX3_ahead 61 = .ok (.iload_n 3, 1) := by decide +kernel
theorem dX3_ahead_62 : decode cX3_ahead 62 = .ok (.isub, 1) := by decide +kernel
theorem dX3_ahead_63 : decode cX3_ahead 63 = .ok (.ishr, 1) := by decide +kernel
theorem dX3_ahead_64 : decode cX3_ahead 64 = .ok (.aload_n 0, 1) := by decide +kernel
theorem dX3_ahead_65 : decode cX3_ahead 65 = .ok (.getfield 35, 3) := by decide +kernel
theorem dX3_ahead_68 : decode cX3_ahead 68 = .ok (.iload_n 1, 1) := by decide +kernel
theorem dX3_ahead_69 : decode cX3_ahead 69 = .ok (.iaload, 1) := by decide +kernel
theorem dX3_ahead_70 : decode cX3_ahead 70 = .ok (.aload_n 0, 1) := by decide +kernel
theorem dX3_ahead_71 : decode cX3_ahead 71 = .ok (.getfield 32, 3) := by decide +kernel
theorem dX3_ahead_74 : decode cX3_ahead 74 = .ok (.iload_n 1, 1) := by decide +kernel
theorem dX3_ahead_75 : decode cX3_ahead 75 = .ok (.iaload, 1) := by decide +kernel
theorem dX3_ahead_76 : decode cX3_ahead 76 = .ok (.iload_n 3, 1) := by decide +kernel
theorem dX3_ahead_77 : decode cX3_ahead 77 = .ok (.isub, 1) := by decide +kernel
theorem dX3_ahead_78 : decode cX3_ahead 78 = .ok (.ishr, 1) := by decide +kernel
theorem dX3_ahead_79 : decode cX3_ahead 79 = .ok (.if_icmp .ne 5, 3) := by decide +kernel
theorem dX3_ahead_82 : decode cX3_ahead 82 = .ok (.iload_n 2, 1) := by decide +kernel
theorem dX3_ahead_83 : decode cX3_ahead 83 = .ok (.ireturn, 1) := by decide +kernel
theorem dX3_ahead_84 : decode cX3_ahead 84 = .ok (.iinc 2 (-1), 3) := by decide +kernel
theorem dX3_ahead_87 : decode cX3_ahead 87 = .ok (.goto (-83), 3) := by decide +kernel
theorem dX3_ahead_90 : decode cX3_ahead 90 = .ok (.iconst (-1), 1) := by decide +kernel
theorem dX3_ahead_91 : decode cX3_ahead 91 = .ok (.ireturn, 1) := by decide +kernel
theorem dX3_catches_0 : decode cX3_catches 0 = .ok (.aload_n 0, 1) := by decide +kernel
theorem dX3_catches_1 : decode cX3_catches 1 = .ok (.iload_n 1, 1) := by decide +kernel
theorem dX3_catches_2 : decode cX3_catches 2 = .ok (.invokevirtual 176, 3) := by decide +kernel
theorem dX3_catches_5 : decode cX3_catches 5 = .ok (.istore_n 2, 1) := by decide +kernel
theorem dX3_catches_6 : decode cX3_catches 6 = .ok (.iload_n 2, 1) := by decide +kernel
theorem dX3_catches_7 : decode cX3_catches 7 = .ok (.iconst (-1), 1) := by decide +kernel
theorem dX3_catches_8 : decode cX3_catches 8 = .ok (.if_icmp .eq 18, 3) := by decide +kernel
theorem dX3_catches_11 : decode cX3_catches 11 = .ok (.aload_n 0, 1) := by decide +kernel
theorem dX3_catches_12 : decode cX3_catches 12 = .ok (.getfield 26, 3) := by decide +kernel
theorem dX3_catches_15 : decode cX3_catches 15 = .ok (.iload_n 1, 1) := by decide +kernel
theorem dX3_catches_16 : decode cX3_catches 16 = .ok (.daload, 1) := by decide +kernel
theorem dX3_catches_17 : decode cX3_catches 17 = .ok (.aload_n 0, 1) := by decide +kernel
theorem dX3_catches_18 : decode cX3_catches 18 = .ok (.iload_n 2, 1) := by decide +kernel
theorem dX3_catches_19 : decode cX3_catches 19 = .ok (.invokevirtual 120, 3) := by decide +kernel
theorem dX3_catches_22 : decode cX3_catches 22 = .ok (.dcmp .g, 1) := by decide +kernel
theorem dX3_catches_23 : decode cX3_catches 23 = .ok (.ifCond .ge 4, 3) := by decide +kernel
theorem dX3_catches_26 : decode cX3_catches 26 = .ok (.return_, 1) := by decide +kernel
theorem dX3_catches_27 : decode cX3_catches 27 = .ok (.aload_n 0, 1) := by decide +kernel
theorem dX3_catches_28 : decode cX3_catches 28 = .ok (.getfield 26, 3) := by decide +kernel
theorem dX3_catches_31 : decode cX3_catches 31 = .ok (.iload_n 1, 1) := by decide +kernel
theorem dX3_catches_32 : decode cX3_catches 32 = .ok (.aload_n 0, 1) := by decide +kernel
theorem dX3_catches_33 : decode cX3_catches 33 = .ok (.iload_n 2, 1) := by decide +kernel
theorem dX3_catches_34 : decode cX3_catches 34 = .ok (.invokevirtual 120, 3) := by decide +kernel
theorem dX3_catches_37 : decode cX3_catches 37 = .ok (.dastore, 1) := by decide +kernel
theorem dX3_catches_38 : decode cX3_catches 38 = .ok (.aload_n 0, 1) := by decide +kernel
theorem dX3_catches_39 : decode cX3_catches 39 = .ok (.getfield 13, 3) := by decide +kernel
theorem dX3_catches_42 : decode cX3_catches 42 = .ok (.iload_n 1, 1) := by decide +kernel
theorem dX3_catches_43 : decode cX3_catches 43 = .ok (.iaload, 1) := by decide +kernel
theorem dX3_catches_44 : decode cX3_catches 44 = .ok (.aload_n 0, 1) := by decide +kernel
theorem dX3_catches_45 : decode cX3_catches 45 = .ok (.getfield 16, 3) := by decide +kernel
theorem dX3_catches_48 : decode cX3_catches 48 = .ok (.iload_n 1, 1) := by decide +kernel
theorem dX3_catches_49 : decode cX3_catches 49 = .ok (.iaload, 1) := by decide +kernel
theorem dX3_catches_50 : decode cX3_catches 50 = .ok (.imul, 1) := by decide +kernel
theorem dX3_catches_51 : decode cX3_catches 51 = .ok (.i2d, 1) := by decide +kernel
theorem dX3_catches_52 : decode cX3_catches 52 = .ok (.dstore_n 3, 1) := by decide +kernel
theorem dX3_catches_53 : decode cX3_catches 53 = .ok (.aload_n 0, 1) := by decide +kernel
theorem dX3_catches_54 : decode cX3_catches 54 = .ok (.getfield 13, 3) := by decide +kernel
theorem dX3_catches_57 : decode cX3_catches 57 = .ok (.iload_n 2, 1) := by decide +kernel
theorem dX3_catches_58 : decode cX3_catches 58 = .ok (.iaload, 1) := by decide +kernel
theorem dX3_catches_59 : decode cX3_catches 59 = .ok (.aload_n 0, 1) := by decide +kernel
theorem dX3_catches_60 : decode cX3_catches 60 = .ok (.getfield 16, 3) := by decide +kernel
theorem dX3_catches_63 : decode cX3_catches 63 = .ok (.iload_n 2, 1) := by decide +kernel
theorem dX3_catches_64 : decode cX3_catches 64 = .ok (.iaload, 1) := by decide +kernel
theorem dX3_catches_65 : decode cX3_catches 65 = .ok (.imul, 1) := by decide +kernel
theorem dX3_catches_66 : decode cX3_catches 66 = .ok (.i2d, 1) := by decide +kernel
theorem dX3_catches_67 : decode cX3_catches 67 = .ok (.dstore 5, 2) := by decide +kernel
theorem dX3_catches_69 : decode cX3_catches 69 = .ok (.dload_n 3, 1) := by decide +kernel
theorem dX3_catches_70 : decode cX3_catches 70 = .ok (.aload_n 0, 1) := by decide +kernel
theorem dX3_catches_71 : decode cX3_catches 71 = .ok (.getfield 29, 3) := by decide +kernel
theorem dX3_catches_74 : decode cX3_catches 74 = .ok (.iload_n 1, 1) := by decide +kernel
theorem dX3_catches_75 : decode cX3_catches 75 = .ok (.daload, 1) := by decide +kernel
theorem dX3_catches_76 : decode cX3_catches 76 = .ok (.dmul, 1) := by decide +kernel
theorem dX3_catches_77 : decode cX3_catches 77 = .ok (.dload 5, 2) := by decide +kernel
theorem dX3_catches_79 : decode cX3_catches 79 = .ok (.aload_n 0, 1) := by decide +kernel
theorem dX3_catches_80 : decode cX3_catches 80 = .ok (.getfield 29, 3) := by decide +kernel
theorem dX3_catches_83 : decode cX3_catches 83 = .ok (.iload_n 2, 1) := by decide +kernel
theorem dX3_catches_84 : decode cX3_catches 84 = .ok (.daload, 1) := by decide +kernel
theorem dX3_catches_85 : decode cX3_catches 85 = .ok (.dmul, 1) := by decide +kernel
theorem dX3_catches_86 : decode cX3_catches 86 = .ok (.dadd, 1) := by decide +kernel
theorem dX3_catches_87 : decode cX3_catches 87 = .ok (.dload_n 3, 1) := by decide +kernel
theorem dX3_catches_88 : decode cX3_catches 88 = .ok (.dload 5, 2) := by decide +kernel
theorem dX3_catches_90 : decode cX3_catches 90 = .ok (.dadd, 1) := by decide +kernel
theorem dX3_catches_91 : decode cX3_catches 91 = .ok (.ddiv, 1) := by decide +kernel
theorem dX3_catches_92 : decode cX3_catches 92 = .ok (.dstore 7, 2) := by decide +kernel
theorem dX3_catches_94 : decode cX3_catches 94 = .ok (.aload_n 0, 1) := by decide +kernel
theorem dX3_catches_95 : decode cX3_catches 95 = .ok (.getfield 29, 3) := by decide +kernel
theorem dX3_catches_98 : decode cX3_catches 98 = .ok (.iload_n 1, 1) := by decide +kernel
theorem dX3_catches_99 : decode cX3_catches 99 = .ok (.dload 7, 2) := by decide +kernel
theorem dX3_catches_101 : decode cX3_catches 101 = .ok (.dastore, 1) := by decide +kernel
theorem dX3_catches_102 : decode cX3_catches 102 = .ok (.aload_n 0, 1) := by decide +kernel
theorem dX3_catches_103 : decode cX3_catches 103 = .ok (.getfield 29, 3) := by decide +kernel
theorem dX3_catches_106 : decode cX3_catches 106 = .ok (.iload_n 2, 1) := by decide +kernel
theorem dX3_catches_107 : decode cX3_catches 107 = .ok (.dload 7, 2) := by decide +kernel
theorem dX3_catches_109 : decode cX3_catches 109 = .ok (.dastore, 1) := by decide +kernel
theorem dX3_catches_110 : decode cX3_catches 110 = .ok (.aload_n 0, 1) := by decide +kernel
theorem dX3_catches_111 : decode cX3_catches 111 = .ok (.getfield 38, 3) := by decide +kernel
theorem dX3_catches_114 : decode cX3_catches 114 = .ok (.iload_n 1, 1) := by decide +kernel
theorem dX3_catches_115 : decode cX3_catches 115 = .ok (.iaload, 1) := by decide +kernel
theorem dX3_catches_116 : decode cX3_catches 116 = .ok (.iload_n 2, 1) := by decide +kernel
theorem dX3_catches_117 : decode cX3_catches 117 = .ok (.if_icmp .eq 10, 3) := by decide +kernel
theorem dX3_catches_120 : decode cX3_catches 120 = .ok (.aload_n 0, 1) := by decide +kernel
theorem dX3_catches_121 : decode cX3_catches 121 = .ok (.iconst 1, 1) := by decide +kernel
theorem dX3_catches_122 : decode cX3_catches 122 = .ok (.iload_n 1, 1) := by decide +kernel
theorem dX3_catches_123 : decode cX3_catches 123 = .ok (.iload_n 2, 1) := by decide +kernel
theorem dX3_catches_124 : decode cX3_catches 124 = .ok (.invokevirtual 172, 3) := by decide +kernel
theorem dX3_catches_127 : decode cX3_catches 127 = .ok (.aload_n 0, 1) := by decide +kernel
theorem dX3_catches_128 : decode cX3_catches 128 = .ok (.getfield 38, 3) := by decide +kernel
theorem dX3_catches_131 : decode cX3_catches 131 = .ok (.iload_n 1, 1) := by decide +kernel
theorem dX3_catches_132 : decode cX3_catches 132 = .ok (.iload_n 2, 1) := by decide +kernel
theorem dX3_catches_133 : decode cX3_catches 133 = .ok (.iastore, 1) := by decide +kernel
theorem dX3_catches_134 : decode cX3_catches 134 = .ok (.return_, 1) := by decide +kernel
theorem dX3_ends_0 : decode cX3_ends 0 = .ok (.aload_n 0, 1) := by decide +kernel
theorem dX3_ends_1 : decode cX3_ends 1 = .ok (.getfield 32, 3) := by decide +kernel
theorem dX3_ends_4 : decode cX3_ends 4 = .ok (.iload_n 1, 1) := by decide +kernel
theorem dX3_ends_5 : decode cX3_ends 5 = .ok (.iaload, 1) := by decide +kernel
theorem dX3_ends_6 : decode cX3_ends 6 = .ok (.iconst 3, 1) := by decide +kernel
theorem dX3_ends_7 : decode cX3_ends 7 = .ok (.if_icmp .lt 16, 3) := by decide +kernel
theorem dX3_ends_10 : decode cX3_ends 10 = .ok (.aload_n 0, 1) := by decide +kernel
theorem dX3_ends_11 : decode cX3_ends 11 = .ok (.getfield 26, 3) := by decide +kernel
theorem dX3_ends_14 : decode cX3_ends 14 = .ok (.iload_n 1, 1) := by decide +kernel
theorem dX3_ends_15 : decode cX3_ends 15 = .ok (.daload, 1) := by decide +kernel
theorem dX3_ends_16 : decode cX3_ends 16 = .ok (.ldc2_w 156, 3) := by decide +kernel
theorem dX3_ends_19 : decode cX3_ends 19 = .ok (.dcmp .g, 1) := by decide +kernel
theorem dX3_ends_20 : decode cX3_ends 20 = .ok (.ifCond .ge 4, 3) := by decide +kernel
theorem dX3_ends_23 : decode cX3_ends 23 = .ok (.return_, 1) := by decide +kernel
theorem dX3_ends_24 : decode cX3_ends 24 = .ok (.aload_n 0, 1) := by decide +kernel
theorem dX3_ends_25 : decode cX3_ends 25 = .ok (.getfield 35, 3) := by decide +kernel
theorem dX3_ends_28 : decode cX3_ends 28 = .ok (.iload_n 1, 1) := by decide +kernel
theorem dX3_ends_29 : decode cX3_ends 29 = .ok (.iaload, 1) := by decide +kernel
theorem dX3_ends_30 : decode cX3_ends 30 = .ok (.istore_n 2, 1) := by decide +kernel
theorem dX3_ends_31 : decode cX3_ends 31 = .ok (.aload_n 0, 1) := by decide +kernel
theorem dX3_ends_32 : decode cX3_ends 32 = .ok (.getfield 26, 3) := by decide +kernel
theorem dX3_ends_35 : decode cX3_ends 35 = .ok (.iload_n 1, 1) := by decide +kernel
theorem dX3_ends_36 : decode cX3_ends 36 = .ok (.daload, 1) := by decide +kernel
theorem dX3_ends_37 : decode cX3_ends 37 = .ok (.ldc2_w 156, 3) := by decide +kernel
theorem dX3_ends_40 : decode cX3_ends 40 = .ok (.aload_n 0, 1) := by decide +kernel
theorem dX3_ends_41 : decode cX3_ends 41 = .ok (.getfield 44, 3) := by decide +kernel
theorem dX3_ends_44 : decode cX3_ends 44 = .ok (.iload_n 2, 1) := by decide +kernel
theorem dX3_ends_45 : decode cX3_ends 45 = .ok (.daload, 1) := by decide +kernel
theorem dX3_ends_46 : decode cX3_ends 46 = .ok (.dadd, 1) := by decide +kernel
theorem dX3_ends_47 : decode cX3_ends 47 = .ok (.dcmp .l, 1) := by decide +kernel
theorem dX3_ends_48 : decode cX3_ends 48 = .ok (.ifCond .lt 80, 3) := by decide +kernel
theorem dX3_ends_51 : decode cX3_ends 51 = .ok (.aload_n 0, 1) := by decide +kernel
theorem dX3_ends_52 : decode cX3_ends 52 = .ok (.getfield 7, 3) := by decide +kernel
theorem dX3_ends_55 : decode cX3_ends 55 = .ok (.iload_n 1, 1) := by decide +kernel
theorem dX3_ends_56 : decode cX3_ends 56 = .ok (.iconst 2, 1) := by decide +kernel
theorem dX3_ends_57 : decode cX3_ends 57 = .ok (.iastore, 1) := by decide +kernel
theorem dX3_ends_58 : decode cX3_ends 58 = .ok (.aload_n 0, 1) := by decide +kernel
theorem dX3_ends_59 : decode cX3_ends 59 = .ok (.getfield 44, 3) := by decide +kernel
theorem dX3_ends_62 : decode cX3_ends 62 = .ok (.iload_n 2, 1) := by decide +kernel
theorem dX3_ends_63 : decode cX3_ends 63 = .ok (.daload, 1) := by decide +kernel
theorem dX3_ends_64 : decode cX3_ends 64 = .ok (.ldc2_w 108, 3) := by decide +kernel
theorem dX3_ends_67 : decode cX3_ends 67 = .ok (.aload_n 0, 1) := by decide +kernel
theorem dX3_ends_68 : decode cX3_ends 68 = .ok (.getfield 13, 3) := by decide +kernel
theorem dX3_ends_71 : decode cX3_ends 71 = .ok (.iload_n 1, 1) := by decide +kernel
theorem dX3_ends_72 : decode cX3_ends 72 = .ok (.iaload, 1) := by decide +kernel
theorem dX3_ends_73 : decode cX3_ends 73 = .ok (.i2d, 1) := by decide +kernel
theorem dX3_ends_74 : decode cX3_ends 74 = .ok (.dmul, 1) := by decide +kernel
theorem dX3_ends_75 : decode cX3_ends 75 = .ok (.dsub, 1) := by decide +kernel
theorem dX3_ends_76 : decode cX3_ends 76 = .ok (.dstore_n 3, 1) := by decide +kernel
theorem dX3_ends_77 : decode cX3_ends 77 = .ok (.aload_n 0, 1) := by decide +kernel
theorem dX3_ends_78 : decode cX3_ends 78 = .ok (.getfield 44, 3) := by decide +kernel
theorem dX3_ends_81 : decode cX3_ends 81 = .ok (.iload_n 2, 1) := by decide +kernel
theorem dX3_ends_82 : decode cX3_ends 82 = .ok (.dload_n 3, 1) := by decide +kernel
theorem dX3_ends_83 : decode cX3_ends 83 = .ok (.dconst 0, 1) := by decide +kernel
theorem dX3_ends_84 : decode cX3_ends 84 = .ok (.dcmp .g, 1) := by decide +kernel
theorem dX3_ends_85 : decode cX3_ends 85 = .ok (.ifCond .ge 7, 3) := by decide +kernel
theorem dX3_ends_88 : decode cX3_ends 88 = .ok (.dconst 0, 1) := by decide +kernel
theorem dX3_ends_89 : decode cX3_ends 89 = .ok (.goto 4, 3) := by decide +kernel
theorem dX3_ends_92 : decode cX3_ends 92 = .ok (.dload_n 3, 1) := by decide +kernel
theorem dX3_ends_93 : decode cX3_ends 93 = .ok (.dastore, 1) := by decide +kernel
theorem dX3_ends_94 : decode cX3_ends 94 = .ok (.aload_n 0, 1) := by decide +kernel
theorem dX3_ends_95 : decode cX3_ends 95 = .ok (.aload_n 0, 1) := by decide +kernel
theorem dX3_ends_96 : decode cX3_ends 96 = .ok (.getfield 29, 3) := by decide +kernel
theorem dX3_ends_99 : decode cX3_ends 99 = .ok (.iload_n 1, 1) := by decide +kernel
theorem dX3_ends_100 : decode cX3_ends 100 = .ok (.daload, 1) := by decide +kernel
theorem dX3_ends_101 : decode cX3_ends 101 = .ok (.aload_n 0, 1) := by decide +kernel
theorem dX3_ends_102 : decode cX3_ends 102 = .ok (.getfield 179, 3) := by decide +kernel
theorem dX3_ends_105 : decode cX3_ends 105 = .ok (.dcmp .l, 1) := by decide +kernel
theorem dX3_ends_106 : decode cX3_ends 106 = .ok (.ifCond .le 12, 3) := by decide +kernel
theorem dX3_ends_109 : decode cX3_ends 109 = .ok (.aload_n 0, 1) := by decide +kernel
theorem dX3_ends_110 : decode cX3_ends 110 = .ok (.getfield 29, 3) := by decide +kernel
theorem dX3_ends_113 : decode cX3_ends 113 = .ok (.iload_n 1, 1) := by decide +kernel
theorem dX3_ends_114 : decode cX3_ends 114 = .ok (.daload, 1) := by decide +kernel
theorem dX3_ends_115 : decode cX3_ends 115 = .ok (.goto 7, 3) := by decide +kernel
theorem dX3_ends_118 : decode cX3_ends 118 = .ok (.aload_n 0, 1) := by decide +kernel
theorem dX3_ends_119 : decode cX3_ends 119 = .ok (.getfield 179, 3) := by decide +kernel
theorem dX3_ends_122 : decode cX3_ends 122 = .ok (.putfield 179, 3) := by decide +kernel
theorem dX3_ends_125 : decode cX3_ends 125 = .ok (.goto 52, 3) := by decide +kernel
theorem dX3_ends_128 : decode cX3_ends 128 = .ok (.aload_n 0, 1) := by decide +kernel
theorem dX3_ends_129 : decode cX3_ends 129 = .ok (.getfield 29, 3) := by decide +kernel
theorem dX3_ends_132 : decode cX3_ends 132 = .ok (.iload_n 1, 1) := by decide +kernel
theorem dX3_ends_133 : decode cX3_ends 133 = .ok (.daload, 1) := by decide +kernel
theorem dX3_ends_134 : decode cX3_ends 134 = .ok (.dconst 0, 1) := by decide +kernel
theorem dX3_ends_135 : decode cX3_ends 135 = .ok (.dcmp .l, 1) := by decide +kernel
theorem dX3_ends_136 : decode cX3_ends 136 = .ok (.ifCond .ne 40, 3) := by decide +kernel
theorem dX3_ends_139 : decode cX3_ends 139 = .ok (.aload_n 0, 1) := by decide +kernel
theorem dX3_ends_140 : decode cX3_ends 140 = .ok (.iload_n 1, 1) := by decide +kernel
theorem dX3_ends_141 : decode cX3_ends 141 = .ok (.invokevirtual 120, 3) := by decide +kernel
theorem dX3_ends_144 : decode cX3_ends 144 = .ok (.ldc2_w 156, 3) := by decide +kernel
theorem dX3_ends_147 : decode cX3_ends 147 = .ok (.dcmp .l, 1) := by decide +kernel
theorem dX3_ends_148 : decode cX3_ends 148 = .ok (.ifCond .lt 28, 3) := by decide +kernel
theorem dX3_ends_151 : decode cX3_ends 151 = .ok (.aload_n 0, 1) := by decide +kernel
theorem dX3_ends_152 : decode cX3_ends 152 = .ok (.getfield 7, 3) := by decide +kernel
theorem dX3_ends_155 : decode cX3_ends 155 = .ok (.iload_n 1, 1) := by decide +kernel
theorem dX3_ends_156 : decode cX3_ends 156 = .ok (.iconst 3, 1) := by decide +kernel
theorem dX3_ends_157 : decode cX3_ends 157 = .ok (.iastore, 1) := by decide +kernel
theorem dX3_ends_158 : decode cX3_ends 158 = .ok (.aload_n 0, 1) := by decide +kernel
theorem dX3_ends_159 : decode cX3_ends 159 = .ok (.getfield 44, 3) := by decide +kernel
theorem dX3_ends_162 : decode cX3_ends 162 = .ok (.iload_n 2, 1) := by decide +kernel
theorem dX3_ends_163 : decode cX3_ends 163 = .ok (.aload_n 0, 1) := by decide +kernel
theorem dX3_ends_164 : decode cX3_ends 164 = .ok (.iload_n 1, 1) := by decide +kernel
theorem dX3_ends_165 : decode cX3_ends 165 = .ok (.invokevirtual 120, 3) := by decide +kernel
theorem dX3_ends_168 : decode cX3_ends 168 = .ok (.ldc2_w 156, 3) := by decide +kernel
theorem dX3_ends_171 : decode cX3_ends 171 = .ok (.dsub, 1) := by decide +kernel
theorem dX3_ends_172 : decode cX3_ends 172 = .ok (.dastore, 1) := by decide +kernel
theorem dX3_ends_173 : decode cX3_ends 173 = .ok (.goto 4, 3) := by decide +kernel
theorem dX3_ends_176 : decode cX3_ends 176 = .ok (.return_, 1) := by decide +kernel
theorem dX3_ends_177 : decode cX3_ends 177 = .ok (.aload_n 0, 1) := by decide +kernel
theorem dX3_ends_178 : decode cX3_ends 178 = .ok (.getfield 57, 3) := by decide +kernel
theorem dX3_ends_181 : decode cX3_ends 181 = .ok (.bipush 60, 2) := by decide +kernel
theorem dX3_ends_183 : decode cX3_ends 183 = .ok (.iload_n 2, 1) := by decide +kernel
theorem dX3_ends_184 : decode cX3_ends 184 = .ok (.imul, 1) := by decide +kernel
theorem dX3_ends_185 : decode cX3_ends 185 = .ok (.aload_n 0, 1) := by decide +kernel
theorem dX3_ends_186 : decode cX3_ends 186 = .ok (.getfield 60, 3) := by decide +kernel
theorem dX3_ends_189 : decode cX3_ends 189 = .ok (.iload_n 2, 1) := by decide +kernel
theorem dX3_ends_190 : decode cX3_ends 190 = .ok (.iaload, 1) := by decide +kernel
theorem dX3_ends_191 : decode cX3_ends 191 = .ok (.iadd, 1) := by decide +kernel
theorem dX3_ends_192 : decode cX3_ends 192 = .ok (.iload_n 1, 1) := by decide +kernel
theorem dX3_ends_193 : decode cX3_ends 193 = .ok (.iastore, 1) := by decide +kernel
theorem dX3_ends_194 : decode cX3_ends 194 = .ok (.aload_n 0, 1) := by decide +kernel
theorem dX3_ends_195 : decode cX3_ends 195 = .ok (.getfield 60, 3) := by decide +kernel
theorem dX3_ends_198 : decode cX3_ends 198 = .ok (.iload_n 2, 1) := by decide +kernel
theorem dX3_ends_199 : decode cX3_ends 199 = .ok (.dup2, 1) := by decide +kernel
theorem dX3_ends_200 : decode cX3_ends 200 = .ok (.iaload, 1) := by decide +kernel
theorem dX3_ends_201 : decode cX3_ends 201 = .ok (.iconst 1, 1) := by decide +kernel
theorem dX3_ends_202 : decode cX3_ends 202 = .ok (.iadd, 1) := by decide +kernel
theorem dX3_ends_203 : decode cX3_ends 203 = .ok (.iastore, 1) := by decide +kernel
theorem dX3_ends_204 : decode cX3_ends 204 = .ok (.aload_n 0, 1) := by decide +kernel
theorem dX3_ends_205 : decode cX3_ends 205 = .ok (.aload_n 0, 1) := by decide +kernel
theorem dX3_ends_206 : decode cX3_ends 206 = .ok (.getfield 7, 3) := by decide +kernel
theorem dX3_ends_209 : decode cX3_ends 209 = .ok (.iload_n 1, 1) := by decide +kernel
theorem dX3_ends_210 : decode cX3_ends 210 = .ok (.iaload, 1) := by decide +kernel
theorem dX3_ends_211 : decode cX3_ends 211 = .ok (.iload_n 1, 1) := by decide +kernel
theorem dX3_ends_212 : decode cX3_ends 212 = .ok (.iload_n 2, 1) := by decide +kernel
theorem dX3_ends_213 : decode cX3_ends 213 = .ok (.invokevirtual 172, 3) := by decide +kernel
theorem dX3_ends_216 : decode cX3_ends 216 = .ok (.return_, 1) := by decide +kernel
theorem dX3_pushes_0 : decode cX3_pushes 0 = .ok (.iconst (-1), 1) := by decide +kernel
theorem dX3_pushes_1 : decode cX3_pushes 1 = .ok (.istore_n 1, 1) := by decide +kernel
theorem dX3_pushes_2 : decode cX3_pushes 2 = .ok (.aload_n 0, 1) := by decide +kernel
theorem dX3_pushes_3 : decode cX3_pushes 3 = .ok (.getfield 89, 3) := by decide +kernel
theorem dX3_pushes_6 : decode cX3_pushes 6 = .ok (.dconst 0, 1) := by decide +kernel
theorem dX3_pushes_7 : decode cX3_pushes 7 = .ok (.dcmp .l, 1) := by decide +kernel
theorem dX3_pushes_8 : decode cX3_pushes 8 = .ok (.ifCond .le 7, 3) := by decide +kernel
theorem dX3_pushes_11 : decode cX3_pushes 11 = .ok (.iconst 1, 1) := by decide +kernel
theorem dX3_pushes_12 : decode cX3_pushes 12 = .ok (.goto 4, 3) := by decide +kernel
theorem dX3_pushes_15 : decode cX3_pushes 15 = .ok (.iconst 0, 1) := by decide +kernel
theorem dX3_pushes_16 : decode cX3_pushes 16 = .ok (.istore_n 2, 1) := by decide +kernel
theorem dX3_pushes_17 : decode cX3_pushes 17 = .ok (.aload_n 0, 1) := by decide +kernel
theorem dX3_pushes_18 : decode cX3_pushes 18 = .ok (.getfield 80, 3) := by decide +kernel
theorem dX3_pushes_21 : decode cX3_pushes 21 = .ok (.iconst 1, 1) := by decide +kernel
theorem dX3_pushes_22 : decode cX3_pushes 22 = .ok (.isub, 1) := by decide +kernel
theorem dX3_pushes_23 : decode cX3_pushes 23 = .ok (.istore_n 3, 1) := by decide +kernel
theorem dX3_pushes_24 : decode cX3_pushes 24 = .ok (.iload_n 3, 1) := by decide +kernel
theorem dX3_pushes_25 : decode cX3_pushes 25 = .ok (.ifCond .lt 56, 3) := by decide +kernel
theorem dX3_pushes_28 : decode cX3_pushes 28 = .ok (.aload_n 0, 1) := by decide +kernel
theorem dX3_pushes_29 : decode cX3_pushes 29 = .ok (.getfield 7, 3) := by decide +kernel
theorem dX3_pushes_32 : decode cX3_pushes 32 = .ok (.iload_n 3, 1) := by decide +kernel
theorem dX3_pushes_33 : decode cX3_pushes 33 = .ok (.iaload, 1) := by decide +kernel
theorem dX3_pushes_34 : decode cX3_pushes 34 = .ok (.ifCond .ne 7, 3) := by decide +kernel
theorem dX3_pushes_37 : decode cX3_pushes 37 = .ok (.iload_n 3, 1) := by decide +kernel
theorem dX3_pushes_38 : decode cX3_pushes 38 = .ok (.goto 4, 3) := by decide +kernel
theorem dX3_pushes_41 : decode cX3_pushes 41 = .ok (.iload_n 1, 1) := by decide +kernel
theorem dX3_pushes_42 : decode cX3_pushes 42 = .ok (.istore_n 1, 1) := by decide +kernel
theorem dX3_pushes_43 : decode cX3_pushes 43 = .ok (.iload_n 2, 1) := by decide +kernel
theorem dX3_pushes_44 : decode cX3_pushes 44 = .ok (.ifCond .eq 29, 3) := by decide +kernel
theorem dX3_pushes_47 : decode cX3_pushes 47 = .ok (.aload_n 0, 1) := by decide +kernel
theorem dX3_pushes_48 : decode cX3_pushes 48 = .ok (.getfield 7, 3) := by decide +kernel
theorem dX3_pushes_51 : decode cX3_pushes 51 = .ok (.iload_n 3, 1) := by decide +kernel
theorem dX3_pushes_52 : decode cX3_pushes 52 = .ok (.iaload, 1) := by decide +kernel
theorem dX3_pushes_53 : decode cX3_pushes 53 = .ok (.iconst 1, 1) := by decide +kernel
theorem dX3_pushes_54 : decode cX3_pushes 54 = .ok (.if_icmp .ne 15, 3) := by decide +kernel
theorem dX3_pushes_57 : decode cX3_pushes 57 = .ok (.aload_n 0, 1) := by decide +kernel
theorem dX3_pushes_58 : decode cX3_pushes 58 = .ok (.iload_n 3, 1) := by decide +kernel
theorem dX3_pushes_59 : decode cX3_pushes 59 = .ok (.invokevirtual 120, 3) := by decide +kernel
theorem dX3_pushes_62 : decode cX3_pushes 62 = .ok (.ldc2_w 123, 3) := by decide +kernel
theorem dX3_pushes_65 : decode cX3_pushes 65 = .ok (.dcmp .l, 1) := by decide +kernel
theorem dX3_pushes_66 : decode cX3_pushes 66 = .ok (.ifCond .lt 7, 3) := by decide +kernel
theorem dX3_pushes_69 : decode cX3_pushes 69 = .ok (.iconst 1, 1) := by decide +kernel
theorem dX3_pushes_70 : decode cX3_pushes 70 = .ok (.goto 4, 3) := by decide +kernel
theorem dX3_pushes_73 : decode cX3_pushes 73 = .ok (.iconst 0, 1) := by decide +kernel
theorem dX3_pushes_74 : decode cX3_pushes 74 = .ok (.istore_n 2, 1) := by decide +kernel
theorem dX3_pushes_75 : decode cX3_pushes 75 = .ok (.iinc 3 (-1), 3) := by decide +kernel
theorem dX3_pushes_78 : decode cX3_pushes 78 = .ok (.goto (-54), 3) := by decide +kernel
theorem dX3_pushes_81 : decode cX3_pushes 81 = .ok (.iload_n 2, 1) := by decide +kernel
theorem dX3_pushes_82 : decode cX3_pushes 82 = .ok (.ifCond .eq 32, 3) := by decide +kernel
theorem dX3_pushes_85 : decode cX3_pushes 85 = .ok (.iload_n 1, 1) := by decide +kernel
theorem dX3_pushes_86 : decode cX3_pushes 86 = .ok (.iconst (-1), 1) := by decide +kernel
theorem dX3_pushes_87 : decode cX3_pushes 87 = .ok (.if_icmp .eq 27, 3) := by decide +kernel
theorem dX3_pushes_90 : decode cX3_pushes 90 = .ok (.aload_n 0, 1) := by decide +kernel
theorem dX3_pushes_91 : decode cX3_pushes 91 = .ok (.getfield 7, 3) := by decide +kernel
theorem dX3_pushes_94 : decode cX3_pushes 94 = .ok (.iload_n 1, 1) := by decide +kernel
theorem dX3_pushes_95 : decode cX3_pushes 95 = .ok (.iconst 1, 1) := by decide +kernel
theorem dX3_pushes_96 : decode cX3_pushes 96 = .ok (.iastore, 1) := by decide +kernel
theorem dX3_pushes_97 : decode cX3_pushes 97 = .ok (.aload_n 0, 1) := by decide +kernel
theorem dX3_pushes_98 : decode cX3_pushes 98 = .ok (.getfield 26, 3) := by decide +kernel
theorem dX3_pushes_101 : decode cX3_pushes 101 = .ok (.iload_n 1, 1) := by decide +kernel
theorem dX3_pushes_102 : decode cX3_pushes 102 = .ok (.dconst 0, 1) := by decide +kernel
theorem dX3_pushes_103 : decode cX3_pushes 103 = .ok (.dastore, 1) := by decide +kernel
theorem dX3_pushes_104 : decode cX3_pushes 104 = .ok (.aload_n 0, 1) := by decide +kernel
theorem dX3_pushes_105 : decode cX3_pushes 105 = .ok (.getfield 29, 3) := by decide +kernel
theorem dX3_pushes_108 : decode cX3_pushes 108 = .ok (.iload_n 1, 1) := by decide +kernel
theorem dX3_pushes_109 : decode cX3_pushes 109 = .ok (.aload_n 0, 1) := by decide +kernel
theorem dX3_pushes_110 : decode cX3_pushes 110 = .ok (.getfield 89, 3) := by decide +kernel
theorem dX3_pushes_113 : decode cX3_pushes 113 = .ok (.dastore, 1) := by decide +kernel
theorem dX3_pushes_114 : decode cX3_pushes 114 = .ok (.return_, 1) := by decide +kernel
theorem dX3_tick_0 : decode cX3_tick 0 = .ok (.aload_n 0, 1) := by decide +kernel
theorem dX3_tick_1 : decode cX3_tick 1 = .ok (.iload_n 1, 1) := by decide +kernel
theorem dX3_tick_2 : decode cX3_tick 2 = .ok (.iconst 1, 1) := by decide +kernel
theorem dX3_tick_3 : decode cX3_tick 3 = .ok (.if_icmp .lt 10, 3) := by decide +kernel
theorem dX3_tick_6 : decode cX3_tick 6 = .ok (.iload_n 1, 1) := by decide +kernel
theorem dX3_tick_7 : decode cX3_tick 7 = .ok (.sipush 400, 3) := by decide +kernel
theorem dX3_tick_10 : decode cX3_tick 10 = .ok (.if_icmp .le 7, 3) := by decide +kernel
theorem dX3_tick_13 : decode cX3_tick 13 = .ok (.iconst 1, 1) := by decide +kernel
theorem dX3_tick_14 : decode cX3_tick 14 = .ok (.goto 4, 3) := by decide +kernel
theorem dX3_tick_17 : decode cX3_tick 17 = .ok (.iconst 0, 1) := by decide +kernel
theorem dX3_tick_18 : decode cX3_tick 18 = .ok (.invokevirtual 83, 3) := by decide +kernel
theorem dX3_tick_21 : decode cX3_tick 21 = .ok (.ifCond .eq 5, 3) := by decide +kernel
theorem dX3_tick_24 : decode cX3_tick 24 = .ok (.iconst 0, 1) := by decide +kernel
theorem dX3_tick_25 : decode cX3_tick 25 = .ok (.ireturn, 1) := by decide +kernel
theorem dX3_tick_26 : decode cX3_tick 26 = .ok (.aload_n 0, 1) := by decide +kernel
theorem dX3_tick_27 : decode cX3_tick 27 = .ok (.getfield 128, 3) := by decide +kernel
theorem dX3_tick_30 : decode cX3_tick 30 = .ok (.istore_n 2, 1) := by decide +kernel
theorem dX3_tick_31 : decode cX3_tick 31 = .ok (.iconst 0, 1) := by decide +kernel
theorem dX3_tick_32 : decode cX3_tick 32 = .ok (.istore_n 3, 1) := by decide +kernel
theorem dX3_tick_33 : decode cX3_tick 33 = .ok (.iload_n 3, 1) := by decide +kernel
theorem dX3_tick_34 : decode cX3_tick 34 = .ok (.iload_n 1, 1) := by decide +kernel
theorem dX3_tick_35 : decode cX3_tick 35 = .ok (.if_icmp .ge 132, 3) := by decide +kernel
theorem dX3_tick_38 : decode cX3_tick 38 = .ok (.aload_n 0, 1) := by decide +kernel
theorem dX3_tick_39 : decode cX3_tick 39 = .ok (.dup, 1) := by decide +kernel
theorem dX3_tick_40 : decode cX3_tick 40 = .ok (.getfield 131, 3) := by decide +kernel
theorem dX3_tick_43 : decode cX3_tick 43 = .ok (.iconst 1, 1) := by decide +kernel
theorem dX3_tick_44 : decode cX3_tick 44 = .ok (.iadd, 1) := by decide +kernel
theorem dX3_tick_45 : decode cX3_tick 45 = .ok (.putfield 131, 3) := by decide +kernel
theorem dX3_tick_48 : decode cX3_tick 48 = .ok (.aload_n 0, 1) := by decide +kernel
theorem dX3_tick_49 : decode cX3_tick 49 = .ok (.invokevirtual 182, 3) := by decide +kernel
theorem dX3_tick_52 : decode cX3_tick 52 = .ok (.iconst 0, 1) := by decide +kernel
theorem dX3_tick_53 : decode cX3_tick 53 = .ok (.istore 4, 2) := by decide +kernel
theorem dX3_tick_55 : decode cX3_tick 55 = .ok (.iload 4, 2) := by decide +kernel
theorem dX3_tick_57 : decode cX3_tick 57 = .ok (.aload_n 0, 1) := by decide +kernel
theorem dX3_tick_58 : decode cX3_tick 58 = .ok (.getfield 80, 3) := by decide +kernel
theorem dX3_tick_61 : decode cX3_tick 61 = .ok (.if_icmp .ge 26, 3) := by decide +kernel
theorem dX3_tick_64 : decode cX3_tick 64 = .ok (.aload_n 0, 1) := by decide +kernel
theorem dX3_tick_65 : decode cX3_tick 65 = .ok (.getfield 7, 3) := by decide +kernel
theorem dX3_tick_68 : decode cX3_tick 68 = .ok (.iload 4, 2) := by decide +kernel
theorem dX3_tick_70 : decode cX3_tick 70 = .ok (.iaload, 1) := by decide +kernel
theorem dX3_tick_71 : decode cX3_tick 71 = .ok (.iconst 1, 1) := by decide +kernel
theorem dX3_tick_72 : decode cX3_tick 72 = .ok (.if_icmp .ne 9, 3) := by decide +kernel
theorem dX3_tick_75 : decode cX3_tick 75 = .ok (.aload_n 0, 1) := by decide +kernel
theorem dX3_tick_76 : decode cX3_tick 76 = .ok (.iload 4, 2) := by decide +kernel
theorem dX3_tick_78 : decode cX3_tick 78 = .ok (.invokevirtual 185, 3) := by decide +kernel
theorem dX3_tick_81 : decode cX3_tick 81 = .ok (.iinc 4 1, 3) := by decide +kernel
theorem dX3_tick_84 : decode cX3_tick 84 = .ok (.goto (-29), 3) := by decide +kernel
theorem dX3_tick_87 : decode cX3_tick 87 = .ok (.iconst 0, 1) := by decide +kernel
theorem dX3_tick_88 : decode cX3_tick 88 = .ok (.istore 4, 2) := by decide +kernel
theorem dX3_tick_90 : decode cX3_tick 90 = .ok (.iload 4, 2) := by decide +kernel
theorem dX3_tick_92 : decode cX3_tick 92 = .ok (.aload_n 0, 1) := by decide +kernel
theorem dX3_tick_93 : decode cX3_tick 93 = .ok (.getfield 80, 3) := by decide +kernel
theorem dX3_tick_96 : decode cX3_tick 96 = .ok (.if_icmp .ge 26, 3) := by decide +kernel
theorem dX3_tick_99 : decode cX3_tick 99 = .ok (.aload_n 0, 1) := by decide +kernel
theorem dX3_tick_100 : decode cX3_tick 100 = .ok (.getfield 7, 3) := by decide +kernel
theorem dX3_tick_103 : decode cX3_tick 103 = .ok (.iload 4, 2) := by decide +kernel
theorem dX3_tick_105 : decode cX3_tick 105 = .ok (.iaload, 1) := by decide +kernel
theorem dX3_tick_106 : decode cX3_tick 106 = .ok (.iconst 1, 1) := by decide +kernel
theorem dX3_tick_107 : decode cX3_tick 107 = .ok (.if_icmp .ne 9, 3) := by decide +kernel
theorem dX3_tick_110 : decode cX3_tick 110 = .ok (.aload_n 0, 1) := by decide +kernel
theorem dX3_tick_111 : decode cX3_tick 111 = .ok (.iload 4, 2) := by decide +kernel
theorem dX3_tick_113 : decode cX3_tick 113 = .ok (.invokevirtual 189, 3) := by decide +kernel
theorem dX3_tick_116 : decode cX3_tick 116 = .ok (.iinc 4 1, 3) := by decide +kernel
theorem dX3_tick_119 : decode cX3_tick 119 = .ok (.goto (-29), 3) := by decide +kernel
theorem dX3_tick_122 : decode cX3_tick 122 = .ok (.iconst 0, 1) := by decide +kernel
theorem dX3_tick_123 : decode cX3_tick 123 = .ok (.istore 4, 2) := by decide +kernel
theorem dX3_tick_125 : decode cX3_tick 125 = .ok (.iload 4, 2) := by decide +kernel
theorem dX3_tick_127 : decode cX3_tick 127 = .ok (.aload_n 0, 1) := by decide +kernel
theorem dX3_tick_128 : decode cX3_tick 128 = .ok (.getfield 80, 3) := by decide +kernel
theorem dX3_tick_131 : decode cX3_tick 131 = .ok (.if_icmp .ge 26, 3) := by decide +kernel
theorem dX3_tick_134 : decode cX3_tick 134 = .ok (.aload_n 0, 1) := by decide +kernel
theorem dX3_tick_135 : decode cX3_tick 135 = .ok (.getfield 7, 3) := by decide +kernel
theorem dX3_tick_138 : decode cX3_tick 138 = .ok (.iload 4, 2) := by decide +kernel
theorem dX3_tick_140 : decode cX3_tick 140 = .ok (.iaload, 1) := by decide +kernel
theorem dX3_tick_141 : decode cX3_tick 141 = .ok (.iconst 1, 1) := by decide +kernel
theorem dX3_tick_142 : decode cX3_tick 142 = .ok (.if_icmp .ne 9, 3) := by decide +kernel
theorem dX3_tick_145 : decode cX3_tick 145 = .ok (.aload_n 0, 1) := by decide +kernel
theorem dX3_tick_146 : decode cX3_tick 146 = .ok (.iload 4, 2) := by decide +kernel
theorem dX3_tick_148 : decode cX3_tick 148 = .ok (.invokevirtual 192, 3) := by decide +kernel
theorem dX3_tick_151 : decode cX3_tick 151 = .ok (.iinc 4 1, 3) := by decide +kernel
theorem dX3_tick_154 : decode cX3_tick 154 = .ok (.goto (-29), 3) := by decide +kernel
theorem dX3_tick_157 : decode cX3_tick 157 = .ok (.aload_n 0, 1) := by decide +kernel
theorem dX3_tick_158 : decode cX3_tick 158 = .ok (.invokevirtual 195, 3) := by decide +kernel
theorem dX3_tick_161 : decode cX3_tick 161 = .ok (.iinc 3 1, 3) := by decide +kernel
theorem dX3_tick_164 : decode cX3_tick 164 = .ok (.goto (-131), 3) := by decide +kernel
theorem dX3_tick_167 : decode cX3_tick 167 = .ok (.aload_n 0, 1) := by decide +kernel
theorem dX3_tick_168 : decode cX3_tick 168 = .ok (.getfield 128, 3) := by decide +kernel
theorem dX3_tick_171 : decode cX3_tick 171 = .ok (.iload_n 2, 1) := by decide +kernel
theorem dX3_tick_172 : decode cX3_tick 172 = .ok (.isub, 1) := by decide +kernel
theorem dX3_tick_173 : decode cX3_tick 173 = .ok (.ireturn, 1) := by decide +kernel
theorem dX3_isCut_0 : decode cX3_isCut 0 = .ok (.iload_n 1, 1) := by decide +kernel
theorem dX3_isCut_1 : decode cX3_isCut 1 = .ok (.ifCond .lt 15, 3) := by decide +kernel
theorem dX3_isCut_4 : decode cX3_isCut 4 = .ok (.iload_n 1, 1) := by decide +kernel
theorem dX3_isCut_5 : decode cX3_isCut 5 = .ok (.aload_n 0, 1) := by decide +kernel
theorem dX3_isCut_6 : decode cX3_isCut 6 = .ok (.getfield 80, 3) := by decide +kernel
theorem dX3_isCut_9 : decode cX3_isCut 9 = .ok (.if_icmp .ge 7, 3) := by decide +kernel
theorem dX3_isCut_12 : decode cX3_isCut 12 = .ok (.iconst 1, 1) := by decide +kernel
theorem dX3_isCut_13 : decode cX3_isCut 13 = .ok (.goto 4, 3) := by decide +kernel
theorem dX3_isCut_16 : decode cX3_isCut 16 = .ok (.iconst 0, 1) := by decide +kernel
theorem dX3_isCut_17 : decode cX3_isCut 17 = .ok (.ireturn, 1) := by decide +kernel
theorem dX3_place_0 : decode cX3_place 0 = .ok (.aload_n 0, 1) := by decide +kernel
theorem dX3_place_1 : decode cX3_place 1 = .ok (.aload_n 0, 1) := by decide +kernel
theorem dX3_place_2 : decode cX3_place 2 = .ok (.iload_n 1, 1) := by decide +kernel
theorem dX3_place_3 : decode cX3_place 3 = .ok (.invokevirtual 198, 3) := by decide +kernel
theorem dX3_place_6 : decode cX3_place 6 = .ok (.ifCond .eq 7, 3) := by decide +kernel
theorem dX3_place_9 : decode cX3_place 9 = .ok (.iconst 0, 1) := by decide +kernel
theorem dX3_place_10 : decode cX3_place 10 = .ok (.goto 4, 3) := by decide +kernel
theorem dX3_place_13 : decode cX3_place 13 = .ok (.iconst 1, 1) := by decide +kernel
theorem dX3_place_14 : decode cX3_place 14 = .ok (.invokevirtual 83, 3) := by decide +kernel
theorem dX3_place_17 : decode cX3_place 17 = .ok (.ifCond .eq 7, 3) := by decide +kernel
theorem dX3_place_20 : decode cX3_place 20 = .ok (.dconst 0, 1) := by decide +kernel
theorem dX3_place_21 : decode cX3_place 21 = .ok (.goto 9, 3) := by decide +kernel
theorem dX3_place_24 : decode cX3_place 24 = .ok (.aload_n 0, 1) := by decide +kernel
theorem dX3_place_25 : decode cX3_place 25 = .ok (.getfield 26, 3) := by decide +kernel
theorem dX3_place_28 : decode cX3_place 28 = .ok (.iload_n 1, 1) := by decide +kernel
theorem dX3_place_29 : decode cX3_place 29 = .ok (.daload, 1) := by decide +kernel
theorem dX3_place_30 : decode cX3_place 30 = .ok (.dreturn, 1) := by decide +kernel
theorem dX3_speed_0 : decode cX3_speed 0 = .ok (.aload_n 0, 1) := by decide +kernel
theorem dX3_speed_1 : decode cX3_speed 1 = .ok (.aload_n 0, 1) := by decide +kernel
theorem dX3_speed_2 : decode cX3_speed 2 = .ok (.iload_n 1, 1) := by decide +kernel
theorem dX3_speed_3 : decode cX3_speed 3 = .ok (.invokevirtual 198, 3) := by decide +kernel
theorem dX3_speed_6 : decode cX3_speed 6 = .ok (.ifCond .eq 7, 3) := by decide +kernel
theorem dX3_speed_9 : decode cX3_speed 9 = .ok (.iconst 0, 1) := by decide +kernel
theorem dX3_speed_10 : decode cX3_speed 10 = .ok (.goto 4, 3) := by decide +kernel
theorem dX3_speed_13 : decode cX3_speed 13 = .ok (.iconst 1, 1) := by decide +kernel
theorem dX3_speed_14 : decode cX3_speed 14 = .ok (.invokevirtual 83, 3) := by decide +kernel
theorem dX3_speed_17 : decode cX3_speed 17 = .ok (.ifCond .eq 7, 3) := by decide +kernel
theorem dX3_speed_20 : decode cX3_speed 20 = .ok (.dconst 0, 1) := by decide +kernel
theorem dX3_speed_21 : decode cX3_speed 21 = .ok (.goto 9, 3) := by decide +kernel
theorem dX3_speed_24 : decode cX3_speed 24 = .ok (.aload_n 0, 1) := by decide +kernel
theorem dX3_speed_25 : decode cX3_speed 25 = .ok (.getfield 29, 3) := by decide +kernel
theorem dX3_speed_28 : decode cX3_speed 28 = .ok (.iload_n 1, 1) := by decide +kernel
theorem dX3_speed_29 : decode cX3_speed 29 = .ok (.daload, 1) := by decide +kernel
theorem dX3_speed_30 : decode cX3_speed 30 = .ok (.dreturn, 1) := by decide +kernel
theorem dX3_told_0 : decode cX3_told 0 = .ok (.aload_n 0, 1) := by decide +kernel
theorem dX3_told_1 : decode cX3_told 1 = .ok (.aload_n 0, 1) := by decide +kernel
theorem dX3_told_2 : decode cX3_told 2 = .ok (.iload_n 1, 1) := by decide +kernel
theorem dX3_told_3 : decode cX3_told 3 = .ok (.invokevirtual 198, 3) := by decide +kernel
theorem dX3_told_6 : decode cX3_told 6 = .ok (.ifCond .ne 7, 3) := by decide +kernel
theorem dX3_told_9 : decode cX3_told 9 = .ok (.iconst 1, 1) := by decide +kernel
theorem dX3_told_10 : decode cX3_told 10 = .ok (.goto 17, 3) := by decide +kernel
theorem dX3_told_13 : decode cX3_told 13 = .ok (.iload_n 2, 1) := by decide +kernel
theorem dX3_told_14 : decode cX3_told 14 = .ok (.ifCond .lt 8, 3) := by decide +kernel
theorem dX3_told_17 : decode cX3_told 17 = .ok (.iload_n 2, 1) := by decide +kernel
theorem dX3_told_18 : decode cX3_told 18 = .ok (.iconst 3, 1) := by decide +kernel
theorem dX3_told_19 : decode cX3_told 19 = .ok (.if_icmp .le 7, 3) := by decide +kernel
theorem dX3_told_22 : decode cX3_told 22 = .ok (.iconst 2, 1) := by decide +kernel
theorem dX3_told_23 : decode cX3_told 23 = .ok (.goto 4, 3) := by decide +kernel
theorem dX3_told_26 : decode cX3_told 26 = .ok (.iconst 0, 1) := by decide +kernel
theorem dX3_told_27 : decode cX3_told 27 = .ok (.invokevirtual 83, 3) := by decide +kernel
theorem dX3_told_30 : decode cX3_told 30 = .ok (.ifCond .eq 5, 3) := by decide +kernel
theorem dX3_told_33 : decode cX3_told 33 = .ok (.iconst 0, 1) := by decide +kernel
theorem dX3_told_34 : decode cX3_told 34 = .ok (.ireturn, 1) := by decide +kernel
theorem dX3_told_35 : decode cX3_told 35 = .ok (.iload_n 2, 1) := by decide +kernel
theorem dX3_told_36 : decode cX3_told 36 = .ok (.ifCond .ne 12, 3) := by decide +kernel
theorem dX3_told_39 : decode cX3_told 39 = .ok (.aload_n 0, 1) := by decide +kernel
theorem dX3_told_40 : decode cX3_told 40 = .ok (.getfield 7, 3) := by decide +kernel
theorem dX3_told_43 : decode cX3_told 43 = .ok (.iload_n 1, 1) := by decide +kernel
theorem dX3_told_44 : decode cX3_told 44 = .ok (.iaload, 1) := by decide +kernel
theorem dX3_told_45 : decode cX3_told 45 = .ok (.goto 51, 3) := by decide +kernel
theorem dX3_told_48 : decode cX3_told 48 = .ok (.iload_n 2, 1) := by decide +kernel
theorem dX3_told_49 : decode cX3_told 49 = .ok (.iconst 1, 1) := by decide +kernel
theorem dX3_told_50 : decode cX3_told 50 = .ok (.if_icmp .ne 26, 3) := by decide +kernel
theorem dX3_told_53 : decode cX3_told 53 = .ok (.aload_n 0, 1) := by decide +kernel
theorem dX3_told_54 : decode cX3_told 54 = .ok (.getfield 32, 3) := by decide +kernel
theorem dX3_told_57 : decode cX3_told 57 = .ok (.iload_n 1, 1) := by decide +kernel
theorem dX3_told_58 : decode cX3_told 58 = .ok (.iaload, 1) := by decide +kernel
theorem dX3_told_59 : decode cX3_told 59 = .ok (.iconst 3, 1) := by decide +kernel
theorem dX3_told_60 : decode cX3_told 60 = .ok (.if_icmp .ne 12, 3) := by decide +kernel
theorem dX3_told_63 : decode cX3_told 63 = .ok (.aload_n 0, 1) := by decide +kernel
theorem dX3_told_64 : decode cX3_told 64 = .ok (.getfield 35, 3) := by decide +kernel
theorem dX3_told_67 : decode cX3_told 67 = .ok (.iload_n 1, 1) := by decide +kernel
theorem dX3_told_68 : decode cX3_told 68 = .ok (.iaload, 1) := by decide +kernel
theorem dX3_told_69 : decode cX3_told 69 = .ok (.goto 27, 3) := by decide +kernel
theorem dX3_told_72 : decode cX3_told 72 = .ok (.iconst (-1), 1) := by decide +kernel
theorem dX3_told_73 : decode cX3_told 73 = .ok (.goto 23, 3) := by decide +kernel
theorem dX3_told_76 : decode cX3_told 76 = .ok (.iload_n 2, 1) := by decide +kernel
theorem dX3_told_77 : decode cX3_told 77 = .ok (.iconst 2, 1) := by decide +kernel
theorem dX3_told_78 : decode cX3_told 78 = .ok (.if_icmp .ne 12, 3) := by decide +kernel
theorem dX3_told_81 : decode cX3_told 81 = .ok (.aload_n 0, 1) := by decide +kernel
theorem dX3_told_82 : decode cX3_told 82 = .ok (.getfield 32, 3) := by decide +kernel
theorem dX3_told_85 : decode cX3_told 85 = .ok (.iload_n 1, 1) := by decide +kernel
theorem dX3_told_86 : decode cX3_told 86 = .ok (.iaload, 1) := by decide +kernel
theorem dX3_told_87 : decode cX3_told 87 = .ok (.goto 9, 3) := by decide +kernel
theorem dX3_told_90 : decode cX3_told 90 = .ok (.aload_n 0, 1) := by decide +kernel
theorem dX3_told_91 : decode cX3_told 91 = .ok (.getfield 38, 3) := by decide +kernel
theorem dX3_told_94 : decode cX3_told 94 = .ok (.iload_n 1, 1) := by decide +kernel
theorem dX3_told_95 : decode cX3_told 95 = .ok (.iaload, 1) := by decide +kernel
theorem dX3_told_96 : decode cX3_told 96 = .ok (.ireturn, 1) := by decide +kernel
theorem dX3_point_0 : decode cX3_point 0 = .ok (.aload_n 0, 1) := by decide +kernel
theorem dX3_point_1 : decode cX3_point 1 = .ok (.iload_n 1, 1) := by decide +kernel
theorem dX3_point_2 : decode cX3_point 2 = .ok (.ifCond .lt 9, 3) := by decide +kernel
theorem dX3_point_5 : decode cX3_point 5 = .ok (.iload_n 1, 1) := by decide +kernel
theorem dX3_point_6 : decode cX3_point 6 = .ok (.bipush 7, 2) := by decide +kernel
theorem dX3_point_8 : decode cX3_point 8 = .ok (.if_icmp .lt 7, 3) := by decide +kernel
theorem dX3_point_11 : decode cX3_point 11 = .ok (.iconst 1, 1) := by decide +kernel
theorem dX3_point_12 : decode cX3_point 12 = .ok (.goto 17, 3) := by decide +kernel
theorem dX3_point_15 : decode cX3_point 15 = .ok (.iload_n 2, 1) := by decide +kernel
theorem dX3_point_16 : decode cX3_point 16 = .ok (.ifCond .lt 8, 3) := by decide +kernel
theorem dX3_point_19 : decode cX3_point 19 = .ok (.iload_n 2, 1) := by decide +kernel
theorem dX3_point_20 : decode cX3_point 20 = .ok (.iconst 2, 1) := by decide +kernel
theorem dX3_point_21 : decode cX3_point 21 = .ok (.if_icmp .le 7, 3) := by decide +kernel
theorem dX3_point_24 : decode cX3_point 24 = .ok (.iconst 2, 1) := by decide +kernel
theorem dX3_point_25 : decode cX3_point 25 = .ok (.goto 4, 3) := by decide +kernel
theorem dX3_point_28 : decode cX3_point 28 = .ok (.iconst 0, 1) := by decide +kernel
theorem dX3_point_29 : decode cX3_point 29 = .ok (.invokevirtual 83, 3) := by decide +kernel
theorem dX3_point_32 : decode cX3_point 32 = .ok (.ifCond .eq 5, 3) := by decide +kernel
theorem dX3_point_35 : decode cX3_point 35 = .ok (.iconst 0, 1) := by decide +kernel
theorem dX3_point_36 : decode cX3_point 36 = .ok (.ireturn, 1) := by decide +kernel
theorem dX3_point_37 : decode cX3_point 37 = .ok (.iload_n 2, 1) := by decide +kernel
theorem dX3_point_38 : decode cX3_point 38 = .ok (.ifCond .ne 12, 3) := by decide +kernel
theorem dX3_point_41 : decode cX3_point 41 = .ok (.aload_n 0, 1) := by decide +kernel
theorem dX3_point_42 : decode cX3_point 42 = .ok (.getfield 47, 3) := by decide +kernel
theorem dX3_point_45 : decode cX3_point 45 = .ok (.iload_n 1, 1) := by decide +kernel
theorem dX3_point_46 : decode cX3_point 46 = .ok (.iaload, 1) := by decide +kernel
theorem dX3_point_47 : decode cX3_point 47 = .ok (.goto 30, 3) := by decide +kernel
theorem dX3_point_50 : decode cX3_point 50 = .ok (.iload_n 2, 1) := by decide +kernel
theorem dX3_point_51 : decode cX3_point 51 = .ok (.iconst 1, 1) := by decide +kernel
theorem dX3_point_52 : decode cX3_point 52 = .ok (.if_icmp .ne 12, 3) := by decide +kernel
theorem dX3_point_55 : decode cX3_point 55 = .ok (.aload_n 0, 1) := by decide +kernel
theorem dX3_point_56 : decode cX3_point 56 = .ok (.getfield 50, 3) := by decide +kernel
theorem dX3_point_59 : decode cX3_point 59 = .ok (.iload_n 1, 1) := by decide +kernel
theorem dX3_point_60 : decode cX3_point 60 = .ok (.iaload, 1) := by decide +kernel
theorem dX3_point_61 : decode cX3_point 61 = .ok (.goto 16, 3) := by decide +kernel
theorem dX3_point_64 : decode cX3_point 64 = .ok (.aload_n 0, 1) := by decide +kernel
theorem dX3_point_65 : decode cX3_point 65 = .ok (.iload_n 1, 1) := by decide +kernel
theorem dX3_point_66 : decode cX3_point 66 = .ok (.invokevirtual 134, 3) := by decide +kernel
theorem dX3_point_69 : decode cX3_point 69 = .ok (.ifCond .eq 7, 3) := by decide +kernel
theorem dX3_point_72 : decode cX3_point 72 = .ok (.iconst 1, 1) := by decide +kernel
theorem dX3_point_73 : decode cX3_point 73 = .ok (.goto 4, 3) := by decide +kernel
theorem dX3_point_76 : decode cX3_point 76 = .ok (.iconst 0, 1) := by decide +kernel
theorem dX3_point_77 : decode cX3_point 77 = .ok (.ireturn, 1) := by decide +kernel
theorem dX3_siding_0 : decode cX3_siding 0 = .ok (.aload_n 0, 1) := by decide +kernel
theorem dX3_siding_1 : decode cX3_siding 1 = .ok (.iload_n 1, 1) := by decide +kernel
theorem dX3_siding_2 : decode cX3_siding 2 = .ok (.ifCond .lt 9, 3) := by decide +kernel
theorem dX3_siding_5 : decode cX3_siding 5 = .ok (.iload_n 1, 1) := by decide +kernel
theorem dX3_siding_6 : decode cX3_siding 6 = .ok (.bipush 8, 2) := by decide +kernel
theorem dX3_siding_8 : decode cX3_siding 8 = .ok (.if_icmp .lt 7, 3) := by decide +kernel
theorem dX3_siding_11 : decode cX3_siding 11 = .ok (.iconst 1, 1) := by decide +kernel
theorem dX3_siding_12 : decode cX3_siding 12 = .ok (.goto 4, 3) := by decide +kernel
theorem dX3_siding_15 : decode cX3_siding 15 = .ok (.iconst 0, 1) := by decide +kernel
theorem dX3_siding_16 : decode cX3_siding 16 = .ok (.invokevirtual 83, 3) := by decide +kernel
theorem dX3_siding_19 : decode cX3_siding 19 = .ok (.ifCond .eq 5, 3) := by decide +kernel
theorem dX3_siding_22 : decode cX3_siding 22 = .ok (.iconst 0, 1) := by decide +kernel
theorem dX3_siding_23 : decode cX3_siding 23 = .ok (.ireturn, 1) := by decide +kernel
theorem dX3_siding_24 : decode cX3_siding 24 = .ok (.iload_n 2, 1) := by decide +kernel
theorem dX3_siding_25 : decode cX3_siding 25 = .ok (.ifCond .lt 27, 3) := by decide +kernel
theorem dX3_siding_28 : decode cX3_siding 28 = .ok (.iload_n 2, 1) := by decide +kernel
theorem dX3_siding_29 : decode cX3_siding 29 = .ok (.aload_n 0, 1) := by decide +kernel
theorem dX3_siding_30 : decode cX3_siding 30 = .ok (.getfield 60, 3) := by decide +kernel
theorem dX3_siding_33 : decode cX3_siding 33 = .ok (.iload_n 1, 1) := by decide +kernel
theorem dX3_siding_34 : decode cX3_siding 34 = .ok (.iaload, 1) := by decide +kernel
theorem dX3_siding_35 : decode cX3_siding 35 = .ok (.if_icmp .ge 17, 3) := by decide +kernel
theorem dX3_siding_38 : decode cX3_siding 38 = .ok (.aload_n 0, 1) := by decide +kernel
theorem dX3_siding_39 : decode cX3_siding 39 = .ok (.getfield 57, 3) := by decide +kernel
theorem dX3_siding_42 : decode cX3_siding 42 = .ok (.bipush 60, 2) := by decide +kernel
theorem dX3_siding_44 : decode cX3_siding 44 = .ok (.iload_n 1, 1) := by decide +kernel
theorem dX3_siding_45 : decode cX3_siding 45 = .ok (.imul, 1) := by decide +kernel
theorem dX3_siding_46 : decode cX3_siding 46 = .ok (.iload_n 2, 1) := by decide +kernel
theorem dX3_siding_47 : decode cX3_siding 47 = .ok (.iadd, 1) := by decide +kernel
theorem dX3_siding_48 : decode cX3_siding 48 = .ok (.iaload, 1) := by decide +kernel
theorem dX3_siding_49 : decode cX3_siding 49 = .ok (.goto 4, 3) := by decide +kernel
theorem dX3_siding_52 : decode cX3_siding 52 = .ok (.iconst (-1), 1) := by decide +kernel
theorem dX3_siding_53 : decode cX3_siding 53 = .ok (.ireturn, 1) := by decide +kernel
theorem dX3_event_0 : decode cX3_event 0 = .ok (.aload_n 0, 1) := by decide +kernel
theorem dX3_event_1 : decode cX3_event 1 = .ok (.iload_n 1, 1) := by decide +kernel
theorem dX3_event_2 : decode cX3_event 2 = .ok (.ifCond .lt 18, 3) := by decide +kernel
theorem dX3_event_5 : decode cX3_event 5 = .ok (.iload_n 1, 1) := by decide +kernel
theorem dX3_event_6 : decode cX3_event 6 = .ok (.sipush 200, 3) := by decide +kernel
theorem dX3_event_9 : decode cX3_event 9 = .ok (.if_icmp .ge 11, 3) := by decide +kernel
theorem dX3_event_12 : decode cX3_event 12 = .ok (.iload_n 1, 1) := by decide +kernel
theorem dX3_event_13 : decode cX3_event 13 = .ok (.aload_n 0, 1) := by decide +kernel
theorem dX3_event_14 : decode cX3_event 14 = .ok (.getfield 128, 3) := by decide +kernel
theorem dX3_event_17 : decode cX3_event 17 = .ok (.if_icmp .lt 7, 3) := by decide +kernel
theorem dX3_event_20 : decode cX3_event 20 = .ok (.iconst 1, 1) := by decide +kernel
theorem dX3_event_21 : decode cX3_event 21 = .ok (.goto 17, 3) := by decide +kernel
theorem dX3_event_24 : decode cX3_event 24 = .ok (.iload_n 2, 1) := by decide +kernel
theorem dX3_event_25 : decode cX3_event 25 = .ok (.ifCond .lt 8, 3) := by decide +kernel
theorem dX3_event_28 : decode cX3_event 28 = .ok (.iload_n 2, 1) := by decide +kernel
theorem dX3_event_29 : decode cX3_event 29 = .ok (.iconst 3, 1) := by decide +kernel
theorem dX3_event_30 : decode cX3_event 30 = .ok (.if_icmp .le 7, 3) := by decide +kernel
theorem dX3_event_33 : decode cX3_event 33 = .ok (.iconst 2, 1) := by decide +kernel
theorem dX3_event_34 : decode cX3_event 34 = .ok (.goto 4, 3) := by decide +kernel
theorem dX3_event_37 : decode cX3_event 37 = .ok (.iconst 0, 1) := by decide +kernel
theorem dX3_event_38 : decode cX3_event 38 = .ok (.invokevirtual 83, 3) := by decide +kernel
theorem dX3_event_41 : decode cX3_event 41 = .ok (.ifCond .eq 5, 3) := by decide +kernel
theorem dX3_event_44 : decode cX3_event 44 = .ok (.iconst 0, 1) := by decide +kernel
theorem dX3_event_45 : decode cX3_event 45 = .ok (.ireturn, 1) := by decide +kernel
theorem dX3_event_46 : decode cX3_event 46 = .ok (.aload_n 0, 1) := by decide +kernel
theorem dX3_event_47 : decode cX3_event 47 = .ok (.getfield 63, 3) := by decide +kernel
theorem dX3_event_50 : decode cX3_event 50 = .ok (.iconst 4, 1) := by decide +kernel
theorem dX3_event_51 : decode cX3_event 51 = .ok (.aload_n 0, 1) := by decide +kernel
theorem dX3_event_52 : decode cX3_event 52 = .ok (.getfield 128, 3) := by decide +kernel
theorem dX3_event_55 : decode cX3_event 55 = .ok (.iconst 1, 1) := by decide +kernel
theorem dX3_event_56 : decode cX3_event 56 = .ok (.isub, 1) := by decide +kernel
theorem dX3_event_57 : decode cX3_event 57 = .ok (.iload_n 1, 1) := by decide +kernel
theorem dX3_event_58 : decode cX3_event 58 = .ok (.isub, 1) := by decide +kernel
theorem dX3_event_59 : decode cX3_event 59 = .ok (.sipush 200, 3) := by decide +kernel
theorem dX3_event_62 : decode cX3_event 62 = .ok (.irem, 1) := by decide +kernel
theorem dX3_event_63 : decode cX3_event 63 = .ok (.imul, 1) := by decide +kernel
theorem dX3_event_64 : decode cX3_event 64 = .ok (.iload_n 2, 1) := by decide +kernel
theorem dX3_event_65 : decode cX3_event 65 = .ok (.iadd, 1) := by decide +kernel
theorem dX3_event_66 : decode cX3_event 66 = .ok (.iaload, 1) := by decide +kernel
theorem dX3_event_67 : decode cX3_event 67 = .ok (.ireturn, 1) := by decide +kernel
theorem dX3_about_0 : decode cX3_about 0 = .ok (.aload_n 0, 1) := by decide +kernel
theorem dX3_about_1 : decode cX3_about 1 = .ok (.iload_n 1, 1) := by decide +kernel
theorem dX3_about_2 : decode cX3_about 2 = .ok (.ifCond .lt 9, 3) := by decide +kernel
theorem dX3_about_5 : decode cX3_about 5 = .ok (.iload_n 1, 1) := by decide +kernel
theorem dX3_about_6 : decode cX3_about 6 = .ok (.bipush 6, 2) := by decide +kernel
theorem dX3_about_8 : decode cX3_about 8 = .ok (.if_icmp .le 7, 3) := by decide +kernel
theorem dX3_about_11 : decode cX3_about 11 = .ok (.iconst 1, 1) := by decide +kernel
theorem dX3_about_12 : decode cX3_about 12 = .ok (.goto 4, 3) := by decide +kernel
theorem dX3_about_15 : decode cX3_about 15 = .ok (.iconst 0, 1) := by decide +kernel
theorem dX3_about_16 : decode cX3_about 16 = .ok (.invokevirtual 83, 3) := by decide +kernel
theorem dX3_about_19 : decode cX3_about 19 = .ok (.ifCond .eq 5, 3) := by decide +kernel
theorem dX3_about_22 : decode cX3_about 22 = .ok (.iconst 0, 1) := by decide +kernel
theorem dX3_about_23 : decode cX3_about 23 = .ok (.ireturn, 1) := by decide +kernel
theorem dX3_about_24 : decode cX3_about 24 = .ok (.iconst 0, 1) := by decide +kernel
theorem dX3_about_25 : decode cX3_about 25 = .ok (.istore_n 2, 1) := by decide +kernel
theorem dX3_about_26 : decode cX3_about 26 = .ok (.iconst 0, 1) := by decide +kernel
theorem dX3_about_27 : decode cX3_about 27 = .ok (.istore_n 3, 1) := by decide +kernel
theorem dX3_about_28 : decode cX3_about 28 = .ok (.iload_n 3, 1) := by decide +kernel
theorem dX3_about_29 : decode cX3_about 29 = .ok (.aload_n 0, 1) := by decide +kernel
theorem dX3_about_30 : decode cX3_about 30 = .ok (.getfield 80, 3) := by decide +kernel
theorem dX3_about_33 : decode cX3_about 33 = .ok (.if_icmp .ge 38, 3) := by decide +kernel
theorem dX3_about_36 : decode cX3_about 36 = .ok (.iload_n 2, 1) := by decide +kernel
theorem dX3_about_37 : decode cX3_about 37 = .ok (.iload_n 1, 1) := by decide +kernel
theorem dX3_about_38 : decode cX3_about 38 = .ok (.ifCond .le 24, 3) := by decide +kernel
theorem dX3_about_41 : decode cX3_about 41 = .ok (.iload_n 1, 1) := by decide +kernel
theorem dX3_about_42 : decode cX3_about 42 = .ok (.iconst 5, 1) := by decide +kernel
theorem dX3_about_43 : decode cX3_about 43 = .ok (.if_icmp .ge 19, 3) := by decide +kernel
theorem dX3_about_46 : decode cX3_about 46 = .ok (.aload_n 0, 1) := by decide +kernel
theorem dX3_about_47 : decode cX3_about 47 = .ok (.getfield 7, 3) := by decide +kernel
theorem dX3_about_50 : decode cX3_about 50 = .ok (.iload_n 3, 1) := by decide +kernel
theorem dX3_about_51 : decode cX3_about 51 = .ok (.iaload, 1) := by decide +kernel
theorem dX3_about_52 : decode cX3_about 52 = .ok (.iload_n 1, 1) := by decide +kernel
theorem dX3_about_53 : decode cX3_about 53 = .ok (.iconst 1, 1) := by decide +kernel
theorem dX3_about_54 : decode cX3_about 54 = .ok (.isub, 1) := by decide +kernel
theorem dX3_about_55 : decode cX3_about 55 = .ok (.if_icmp .ne 7, 3) := by decide +kernel
theorem dX3_about_58 : decode cX3_about 58 = .ok (.iconst 1, 1) := by decide +kernel
theorem dX3_about_59 : decode cX3_about 59 = .ok (.goto 4, 3) := by decide +kernel
theorem dX3_about_62 : decode cX3_about 62 = .ok (.iconst 0, 1) := by decide +kernel
theorem dX3_about_63 : decode cX3_about 63 = .ok (.iadd, 1) := by decide +kernel
theorem dX3_about_64 : decode cX3_about 64 = .ok (.istore_n 2, 1) := by decide +kernel
theorem dX3_about_65 : decode cX3_about 65 = .ok (.iinc 3 1, 3) := by decide +kernel
theorem dX3_about_68 : decode cX3_about 68 = .ok (.goto (-40), 3) := by decide +kernel
theorem dX3_about_71 : decode cX3_about 71 = .ok (.iload_n 1, 1) := by decide +kernel
theorem dX3_about_72 : decode cX3_about 72 = .ok (.ifCond .ne 10, 3) := by decide +kernel
theorem dX3_about_75 : decode cX3_about 75 = .ok (.aload_n 0, 1) := by decide +kernel
theorem dX3_about_76 : decode cX3_about 76 = .ok (.getfield 80, 3) := by decide +kernel
theorem dX3_about_79 : decode cX3_about 79 = .ok (.goto 29, 3) := by decide +kernel
theorem dX3_about_82 : decode cX3_about 82 = .ok (.iload_n 1, 1) := by decide +kernel
theorem dX3_about_83 : decode cX3_about 83 = .ok (.iconst 5, 1) := by decide +kernel
theorem dX3_about_84 : decode cX3_about 84 = .ok (.if_icmp .ne 10, 3) := by decide +kernel
theorem dX3_about_87 : decode cX3_about 87 = .ok (.aload_n 0, 1) := by decide +kernel
theorem dX3_about_88 : decode cX3_about 88 = .ok (.getfield 128, 3) := by decide +kernel
theorem dX3_about_91 : decode cX3_about 91 = .ok (.goto 17, 3) := by decide +kernel
theorem dX3_about_94 : decode cX3_about 94 = .ok (.iload_n 1, 1) := by decide +kernel
theorem dX3_about_95 : decode cX3_about 95 = .ok (.bipush 6, 2) := by decide +kernel
theorem dX3_about_97 : decode cX3_about 97 = .ok (.if_icmp .ne 10, 3) := by decide +kernel
theorem dX3_about_100 : decode cX3_about 100 = .ok (.aload_n 0, 1) := by decide +kernel
theorem dX3_about_101 : decode cX3_about 101 = .ok (.getfield 131, 3) := by decide +kernel
theorem dX3_about_104 : decode cX3_about 104 = .ok (.goto 4, 3) := by decide +kernel
theorem dX3_about_107 : decode cX3_about 107 = .ok (.iload_n 2, 1) := by decide +kernel
theorem dX3_about_108 : decode cX3_about 108 = .ok (.ireturn, 1) := by decide +kernel
theorem dX3_fastest_0 : decode cX3_fastest 0 = .ok (.aload_n 0, 1) := by decide +kernel
theorem dX3_fastest_1 : decode cX3_fastest 1 = .ok (.iconst 0, 1) := by decide +kernel
theorem dX3_fastest_2 : decode cX3_fastest 2 = .ok (.putfield 70, 3) := by decide +kernel
theorem dX3_fastest_5 : decode cX3_fastest 5 = .ok (.aload_n 0, 1) := by decide +kernel
theorem dX3_fastest_6 : decode cX3_fastest 6 = .ok (.getfield 179, 3) := by decide +kernel
theorem dX3_fastest_9 : decode cX3_fastest 9 = .ok (.dreturn, 1) := by decide +kernel
