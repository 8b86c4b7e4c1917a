theorem dX10_mostIt_28 : decode cX10_mostIt 28 = .ok (.iaload, 1) := by decide +kernel
theorem dX10_mostIt_29 : decode cX10_mostIt 29 = .ok (.if_icmp .gt 11, 3) := by decide +kernel
theorem dX10_mostIt_32 : decode cX10_mostIt 32 = .ok (.aload_n 0, 1) := by decide +kernel
theorem dX10_mostIt_33 : decode cX10_mostIt 33 = .ok (.iload_n 1, 1) := by decide +kernel
theorem dX10_mostIt_34 : decode cX10_mostIt 34 = .ok (.invokevirtual 102, 3) := by decide +kernel
theorem dX10_mostIt_37 : decode cX10_mostIt 37 = .ok (.goto (-35), 3) := by decide +kernel
theorem dX10_mostIt_40 : decode cX10_mostIt 40 = .ok (.iinc 1 1, 3) := by decide +kernel
theorem dX10_mostIt_43 : decode cX10_mostIt 43 = .ok (.goto (-41), 3) := by decide +kernel
theorem dX10_mostIt_46 : decode cX10_mostIt 46 = .ok (.aload_n 0, 1) := by decide +kernel
theorem dX10_mostIt_47 : decode cX10_mostIt 47 = .ok (.invokevirtual 178, 3) := by decide +kernel
theorem dX10_mostIt_50 : decode cX10_mostIt 50 = .ok (.istore_n 2, 1) := by decide +kernel
theorem dX10_mostIt_51 : decode cX10_mostIt 51 = .ok (.iconst 1, 1) := by decide +kernel
theorem dX10_mostIt_52 : decode cX10_mostIt 52 = .ok (.aload_n 0, 1) := by decide +kernel
theorem dX10_mostIt_53 : decode cX10_mostIt 53 = .ok (.getfield 9, 3) := by decide +kernel
theorem dX10_mostIt_56 : decode cX10_mostIt 56 = .ok (.iconst 0, 1) := by decide +kernel
theorem dX10_mostIt_57 : decode cX10_mostIt 57 = .ok (.iaload, 1) := by decide +kernel
theorem dX10_mostIt_58 : decode cX10_mostIt 58 = .ok (.ishl, 1) := by decide +kernel
theorem dX10_mostIt_59 : decode cX10_mostIt 59 = .ok (.iconst 1, 1) := by decide +kernel
theorem dX10_mostIt_60 : decode cX10_mostIt 60 = .ok (.isub, 1) := by decide +kernel
theorem dX10_mostIt_61 : decode cX10_mostIt 61 = .ok (.istore_n 3, 1) := by decide +kernel
theorem dX10_mostIt_62 : decode cX10_mostIt 62 = .ok (.iconst 1, 1) := by decide +kernel
theorem dX10_mostIt_63 : decode cX10_mostIt 63 = .ok (.aload_n 0, 1) := by decide +kernel
theorem dX10_mostIt_64 : decode cX10_mostIt 64 = .ok (.getfield 9, 3) := by decide +kernel
theorem dX10_mostIt_67 : decode cX10_mostIt 67 = .ok (.iconst 4, 1) := by decide +kernel
theorem dX10_mostIt_68 : decode cX10_mostIt 68 = .ok (.iaload, 1) := by decide +kernel
theorem dX10_mostIt_69 : decode cX10_mostIt 69 = .ok (.ishl, 1) := by decide +kernel
theorem dX10_mostIt_70 : decode cX10_mostIt 70 = .ok (.iconst 1, 1) := by decide +kernel
theorem dX10_mostIt_71 : decode cX10_mostIt 71 = .ok (.isub, 1) := by decide +kernel
theorem dX10_mostIt_72 : decode cX10_mostIt 72 = .ok (.istore 4, 2) := by decide +kernel
theorem dX10_mostIt_74 : decode cX10_mostIt 74 = .ok (.iconst 0, 1) := by decide +kernel
theorem dX10_mostIt_75 : decode cX10_mostIt 75 = .ok (.istore 5, 2) := by decide +kernel
theorem dX10_mostIt_77 : decode cX10_mostIt 77 = .ok (.iconst 0, 1) := by decide +kernel
theorem dX10_mostIt_78 : decode cX10_mostIt 78 = .ok (.istore 6, 2) := by decide +kernel
theorem dX10_mostIt_80 : decode cX10_mostIt 80 = .ok (.iload 6, 2) := by decide +kernel
theorem dX10_mostIt_82 : decode cX10_mostIt 82 = .ok (.aload_n 0, 1) := by decide +kernel
theorem dX10_mostIt_83 : decode cX10_mostIt 83 = .ok (.getfield 9, 3) := by decide +kernel
theorem dX10_mostIt_86 : decode cX10_mostIt 86 = .ok (.iconst 4, 1) := by decide +kernel
theorem dX10_mostIt_87 : decode cX10_mostIt 87 = .ok (.iaload, 1) := by decide +kernel
theorem dX10_mostIt_88 : decode cX10_mostIt 88 = .ok (.if_icmp .ge 149, 3) := by decide +kernel
theorem dX10_mostIt_91 : decode cX10_mostIt 91 = .ok (.iload 4, 2) := by decide +kernel
theorem dX10_mostIt_93 : decode cX10_mostIt 93 = .ok (.iconst 1, 1) := by decide +kernel
theorem dX10_mostIt_94 : decode cX10_mostIt 94 = .ok (.iload 6, 2) := by decide +kernel
theorem dX10_mostIt_96 : decode cX10_mostIt 96 = .ok (.ishl, 1) := by decide +kernel
theorem dX10_mostIt_97 : decode cX10_mostIt 97 = .ok (.iconst (-1), 1) := by decide +kernel
theorem dX10_mostIt_98 : decode cX10_mostIt 98 = .ok (.ixor, 1) := by decide +kernel
theorem dX10_mostIt_99 : decode cX10_mostIt 99 = .ok (.iand, 1) := by decide +kernel
theorem dX10_mostIt_100 : decode cX10_mostIt 100 = .ok (.istore 4, 2) := by decide +kernel
theorem dX10_mostIt_102 : decode cX10_mostIt 102 = .ok (.aload_n 0, 1) := by decide +kernel
theorem dX10_mostIt_103 : decode cX10_mostIt 103 = .ok (.getfield 35, 3) := by decide +kernel
theorem dX10_mostIt_106 : decode cX10_mostIt 106 = .ok (.iload 6, 2) := by decide +kernel
theorem dX10_mostIt_108 : decode cX10_mostIt 108 = .ok (.iconst (-1), 1) := by decide +kernel
theorem dX10_mostIt_109 : decode cX10_mostIt 109 = .ok (.iastore, 1) := by decide +kernel
theorem dX10_mostIt_110 : decode cX10_mostIt 110 = .ok (.iconst 0, 1) := by decide +kernel
theorem dX10_mostIt_111 : decode cX10_mostIt 111 = .ok (.istore 7, 2) := by decide +kernel
theorem dX10_mostIt_113 : decode cX10_mostIt 113 = .ok (.iload 7, 2) := by decide +kernel
theorem dX10_mostIt_115 : decode cX10_mostIt 115 = .ok (.aload_n 0, 1) := by decide +kernel
theorem dX10_mostIt_116 : decode cX10_mostIt 116 = .ok (.getfield 9, 3) := by decide +kernel
theorem dX10_mostIt_119 : decode cX10_mostIt 119 = .ok (.iconst 0, 1) := by decide +kernel
theorem dX10_mostIt_120 : decode cX10_mostIt 120 = .ok (.iaload, 1) := by decide +kernel
theorem dX10_mostIt_121 : decode cX10_mostIt 121 = .ok (.if_icmp .ge 82, 3) := by decide +kernel
theorem dX10_mostIt_124 : decode cX10_mostIt 124 = .ok (.aload_n 0, 1) := by decide +kernel
theorem dX10_mostIt_125 : decode cX10_mostIt 125 = .ok (.getfield 35, 3) := by decide +kernel
theorem dX10_mostIt_128 : decode cX10_mostIt 128 = .ok (.iload 6, 2) := by decide +kernel
theorem dX10_mostIt_130 : decode cX10_mostIt 130 = .ok (.iaload, 1) := by decide +kernel
theorem dX10_mostIt_131 : decode cX10_mostIt 131 = .ok (.iconst (-1), 1) := by decide +kernel
theorem dX10_mostIt_132 : decode cX10_mostIt 132 = .ok (.if_icmp .ne 71, 3) := by decide +kernel
theorem dX10_mostIt_135 : decode cX10_mostIt 135 = .ok (.aload_n 0, 1) := by decide +kernel
theorem dX10_mostIt_136 : decode cX10_mostIt 136 = .ok (.getfield 32, 3) := by decide +kernel
theorem dX10_mostIt_139 : decode cX10_mostIt 139 = .ok (.iload 6, 2) := by decide +kernel
theorem dX10_mostIt_141 : decode cX10_mostIt 141 = .ok (.iaload, 1) := by decide +kernel
theorem dX10_mostIt_142 : decode cX10_mostIt 142 = .ok (.iload_n 3, 1) := by decide +kernel
theorem dX10_mostIt_143 : decode cX10_mostIt 143 = .ok (.iand, 1) := by decide +kernel
theorem dX10_mostIt_144 : decode cX10_mostIt 144 = .ok (.iload 7, 2) := by decide +kernel
theorem dX10_mostIt_146 : decode cX10_mostIt 146 = .ok (.ishr, 1) := by decide +kernel
theorem dX10_mostIt_147 : decode cX10_mostIt 147 = .ok (.iconst 1, 1) := by decide +kernel
theorem dX10_mostIt_148 : decode cX10_mostIt 148 = .ok (.iand, 1) := by decide +kernel
theorem dX10_mostIt_149 : decode cX10_mostIt 149 = .ok (.iconst 1, 1) := by decide +kernel
theorem dX10_mostIt_150 : decode cX10_mostIt 150 = .ok (.if_icmp .ne 7, 3) := by decide +kernel
theorem dX10_mostIt_153 : decode cX10_mostIt 153 = .ok (.iconst 1, 1) := by decide +kernel
theorem dX10_mostIt_154 : decode cX10_mostIt 154 = .ok (.goto 4, 3) := by decide +kernel
theorem dX10_mostIt_157 : decode cX10_mostIt 157 = .ok (.iconst 0, 1) := by decide +kernel
theorem dX10_mostIt_158 : decode cX10_mostIt 158 = .ok (.istore 8, 2) := by decide +kernel
theorem dX10_mostIt_160 : decode cX10_mostIt 160 = .ok (.iload 8, 2) := by decide +kernel
theorem dX10_mostIt_162 : decode cX10_mostIt 162 = .ok (.ifCond .eq 35, 3) := by decide +kernel
theorem dX10_mostIt_165 : decode cX10_mostIt 165 = .ok (.iload 5, 2) := by decide +kernel
theorem dX10_mostIt_167 : decode cX10_mostIt 167 = .ok (.iconst 1, 1) := by decide +kernel
theorem dX10_mostIt_168 : decode cX10_mostIt 168 = .ok (.iadd, 1) := by decide +kernel
theorem dX10_mostIt_169 : decode cX10_mostIt 169 = .ok (.aload_n 0, 1) := by decide +kernel
theorem dX10_mostIt_170 : decode cX10_mostIt 170 = .ok (.iload 4, 2) := by decide +kernel
theorem dX10_mostIt_172 : decode cX10_mostIt 172 = .ok (.iload_n 3, 1) := by decide +kernel
theorem dX10_mostIt_173 : decode cX10_mostIt 173 = .ok (.iconst 1, 1) := by decide +kernel
theorem dX10_mostIt_174 : decode cX10_mostIt 174 = .ok (.iload 7, 2) := by decide +kernel
theorem dX10_mostIt_176 : decode cX10_mostIt 176 = .ok (.ishl, 1) := by decide +kernel
theorem dX10_mostIt_177 : decode cX10_mostIt 177 = .ok (.iconst (-1), 1) := by decide +kernel
theorem dX10_mostIt_178 : decode cX10_mostIt 178 = .ok (.ixor, 1) := by decide +kernel
theorem dX10_mostIt_179 : decode cX10_mostIt 179 = .ok (.iand, 1) := by decide +kernel
theorem dX10_mostIt_180 : decode cX10_mostIt 180 = .ok (.invokevirtual 115, 3) := by decide +kernel
theorem dX10_mostIt_183 : decode cX10_mostIt 183 = .ok (.iadd, 1) := by decide +kernel
theorem dX10_mostIt_184 : decode cX10_mostIt 184 = .ok (.iload_n 2, 1) := by decide +kernel
theorem dX10_mostIt_185 : decode cX10_mostIt 185 = .ok (.if_icmp .ne 12, 3) := by decide +kernel
theorem dX10_mostIt_188 : decode cX10_mostIt 188 = .ok (.aload_n 0, 1) := by decide +kernel
theorem dX10_mostIt_189 : decode cX10_mostIt 189 = .ok (.getfield 35, 3) := by decide +kernel
theorem dX10_mostIt_192 : decode cX10_mostIt 192 = .ok (.iload 6, 2) := by decide +kernel
theorem dX10_mostIt_194 : decode cX10_mostIt 194 = .ok (.iload 7, 2) := by decide +kernel
theorem dX10_mostIt_196 : decode cX10_mostIt 196 = .ok (.iastore, 1) := by decide +kernel
theorem dX10_mostIt_197 : decode cX10_mostIt 197 = .ok (.iinc 7 1, 3) := by decide +kernel
theorem dX10_mostIt_200 : decode cX10_mostIt 200 = .ok (.goto (-87), 3) := by decide +kernel
theorem dX10_mostIt_203 : decode cX10_mostIt 203 = .ok (.aload_n 0, 1) := by decide +kernel
theorem dX10_mostIt_204 : decode cX10_mostIt 204 = .ok (.getfield 35, 3) := by decide +kernel
theorem dX10_mostIt_207 : decode cX10_mostIt 207 = .ok (.iload 6, 2) := by decide +kernel
theorem dX10_mostIt_209 : decode cX10_mostIt 209 = .ok (.iaload, 1) := by decide +kernel
theorem dX10_mostIt_210 : decode cX10_mostIt 210 = .ok (.iconst (-1), 1) := by decide +kernel
theorem dX10_mostIt_211 : decode cX10_mostIt 211 = .ok (.if_icmp .eq 20, 3) := by decide +kernel
theorem dX10_mostIt_214 : decode cX10_mostIt 214 = .ok (.iload_n 3, 1) := by decide +kernel
theorem dX10_mostIt_215 : decode cX10_mostIt 215 = .ok (.iconst 1, 1) := by decide +kernel
theorem dX10_mostIt_216 : decode cX10_mostIt 216 = .ok (.aload_n 0, 1) := by decide +kernel
theorem dX10_mostIt_217 : decode cX10_mostIt 217 = .ok (.getfield 35, 3) := by decide +kernel
theorem dX10_mostIt_220 : decode cX10_mostIt 220 = .ok (.iload 6, 2) := by decide +kernel
theorem dX10_mostIt_222 : decode cX10_mostIt 222 = .ok (.iaload, 1) := by decide +kernel
theorem dX10_mostIt_223 : decode cX10_mostIt 223 = .ok (.ishl, 1) := by decide +kernel
theorem dX10_mostIt_224 : decode cX10_mostIt 224 = .ok (.iconst (-1), 1) := by decide +kernel
theorem dX10_mostIt_225 : decode cX10_mostIt 225 = .ok (.ixor, 1) := by decide +kernel
theorem dX10_mostIt_226 : decode cX10_mostIt 226 = .ok (.iand, 1) := by decide +kernel
theorem dX10_mostIt_227 : decode cX10_mostIt 227 = .ok (.istore_n 3, 1) := by decide +kernel
theorem dX10_mostIt_228 : decode cX10_mostIt 228 = .ok (.iinc 5 1, 3) := by decide +kernel
theorem dX10_mostIt_231 : decode cX10_mostIt 231 = .ok (.iinc 6 1, 3) := by decide +kernel
theorem dX10_mostIt_234 : decode cX10_mostIt 234 = .ok (.goto (-154), 3) := by decide +kernel
theorem dX10_mostIt_237 : decode cX10_mostIt 237 = .ok (.aload_n 0, 1) := by decide +kernel
theorem dX10_mostIt_238 : decode cX10_mostIt 238 = .ok (.invokevirtual 182, 3) := by decide +kernel
theorem dX10_mostIt_241 : decode cX10_mostIt 241 = .ok (.iload 5, 2) := by decide +kernel
theorem dX10_mostIt_243 : decode cX10_mostIt 243 = .ok (.ireturn, 1) := by decide +kernel
theorem dX10_grantsGiven_0 : decode cX10_grantsGiven 0 = .ok (.iconst 0, 1) := by decide +kernel
theorem dX10_grantsGiven_1 : decode cX10_grantsGiven 1 = .ok (.istore_n 1, 1) := by decide +kernel
theorem dX10_grantsGiven_2 : decode cX10_grantsGiven 2 = .ok (.aload_n 0, 1) := by decide +kernel
theorem dX10_grantsGiven_3 : decode cX10_grantsGiven 3 = .ok (.getfield 9, 3) := by decide +kernel
theorem dX10_grantsGiven_6 : decode cX10_grantsGiven 6 = .ok (.iconst 4, 1) := by decide +kernel
theorem dX10_grantsGiven_7 : decode cX10_grantsGiven 7 = .ok (.iaload, 1) := by decide +kernel
theorem dX10_grantsGiven_8 : decode cX10_grantsGiven 8 = .ok (.istore_n 2, 1) := by decide +kernel
theorem dX10_grantsGiven_9 : decode cX10_grantsGiven 9 = .ok (.iconst 0, 1) := by decide +kernel
theorem dX10_grantsGiven_10 : decode cX10_grantsGiven 10 = .ok (.istore_n 3, 1) := by decide +kernel
theorem dX10_grantsGiven_11 : decode cX10_grantsGiven 11 = .ok (.iload_n 3, 1) := by decide +kernel
theorem dX10_grantsGiven_12 : decode cX10_grantsGiven 12 = .ok (.iload_n 2, 1) := by decide +kernel
theorem dX10_grantsGiven_13 : decode cX10_grantsGiven 13 = .ok (.if_icmp .ge 35, 3) := by decide +kernel
theorem dX10_grantsGiven_16 : decode cX10_grantsGiven 16 = .ok (.aload_n 0, 1) := by decide +kernel
theorem dX10_grantsGiven_17 : decode cX10_grantsGiven 17 = .ok (.getfield 35, 3) := by decide +kernel
theorem dX10_grantsGiven_20 : decode cX10_grantsGiven 20 = .ok (.iload_n 3, 1) := by decide +kernel
theorem dX10_grantsGiven_21 : decode cX10_grantsGiven 21 = .ok (.iaload, 1) := by decide +kernel
theorem dX10_grantsGiven_22 : decode cX10_grantsGiven 22 = .ok (.iconst (-1), 1) := by decide +kernel
theorem dX10_grantsGiven_23 : decode cX10_grantsGiven 23 = .ok (.if_icmp .eq 19, 3) := by decide +kernel
theorem dX10_grantsGiven_26 : decode cX10_grantsGiven 26 = .ok (.aload_n 0, 1) := by decide +kernel
theorem dX10_grantsGiven_27 : decode cX10_grantsGiven 27 = .ok (.iload_n 3, 1) := by decide +kernel
theorem dX10_grantsGiven_28 : decode cX10_grantsGiven 28 = .ok (.iload_n 1, 1) := by decide +kernel
theorem dX10_grantsGiven_29 : decode cX10_grantsGiven 29 = .ok (.isub, 1) := by decide +kernel
theorem dX10_grantsGiven_30 : decode cX10_grantsGiven 30 = .ok (.aload_n 0, 1) := by decide +kernel
theorem dX10_grantsGiven_31 : decode cX10_grantsGiven 31 = .ok (.getfield 35, 3) := by decide +kernel
theorem dX10_grantsGiven_34 : decode cX10_grantsGiven 34 = .ok (.iload_n 3, 1) := by decide +kernel
theorem dX10_grantsGiven_35 : decode cX10_grantsGiven 35 = .ok (.iaload, 1) := by decide +kernel
theorem dX10_grantsGiven_36 : decode cX10_grantsGiven 36 = .ok (.invokevirtual 171, 3) := by decide +kernel
theorem dX10_grantsGiven_39 : decode cX10_grantsGiven 39 = .ok (.iinc 1 1, 3) := by decide +kernel
theorem dX10_grantsGiven_42 : decode cX10_grantsGiven 42 = .ok (.iinc 3 1, 3) := by decide +kernel
theorem dX10_grantsGiven_45 : decode cX10_grantsGiven 45 = .ok (.goto (-34), 3) := by decide +kernel
theorem dX10_grantsGiven_48 : decode cX10_grantsGiven 48 = .ok (.return_, 1) := by decide +kernel
theorem dX10_grantMost_0 : decode cX10_grantMost 0 = .ok (.aload_n 0, 1) := by decide +kernel
theorem dX10_grantMost_1 : decode cX10_grantMost 1 = .ok (.invokevirtual 129, 3) := by decide +kernel
theorem dX10_grantMost_4 : decode cX10_grantMost 4 = .ok (.aload_n 0, 1) := by decide +kernel
theorem dX10_grantMost_5 : decode cX10_grantMost 5 = .ok (.aload_n 0, 1) := by decide +kernel
theorem dX10_grantMost_6 : decode cX10_grantMost 6 = .ok (.invokevirtual 185, 3) := by decide +kernel
theorem dX10_grantMost_9 : decode cX10_grantMost 9 = .ok (.invokevirtual 135, 3) := by decide +kernel
theorem dX10_grantMost_12 : decode cX10_grantMost 12 = .ok (.ireturn, 1) := by decide +kernel
theorem dX10_backIt_0 : decode cX10_backIt 0 = .ok (.aload_n 0, 1) := by decide +kernel
theorem dX10_backIt_1 : decode cX10_backIt 1 = .ok (.iload_n 1, 1) := by decide +kernel
theorem dX10_backIt_2 : decode cX10_backIt 2 = .ok (.invokevirtual 138, 3) := by decide +kernel
theorem dX10_backIt_5 : decode cX10_backIt 5 = .ok (.ifCond .eq 10, 3) := by decide +kernel
theorem dX10_backIt_8 : decode cX10_backIt 8 = .ok (.iload_n 3, 1) := by decide +kernel
theorem dX10_backIt_9 : decode cX10_backIt 9 = .ok (.invokestatic 123, 3) := by decide +kernel
theorem dX10_backIt_12 : decode cX10_backIt 12 = .ok (.ifCond .ne 9, 3) := by decide +kernel
theorem dX10_backIt_15 : decode cX10_backIt 15 = .ok (.aload_n 0, 1) := by decide +kernel
theorem dX10_backIt_16 : decode cX10_backIt 16 = .ok (.iconst 1, 1) := by decide +kernel
theorem dX10_backIt_17 : decode cX10_backIt 17 = .ok (.invokevirtual 120, 3) := by decide +kernel
theorem dX10_backIt_20 : decode cX10_backIt 20 = .ok (.ireturn, 1) := by decide +kernel
theorem dX10_backIt_21 : decode cX10_backIt 21 = .ok (.iload_n 2, 1) := by decide +kernel
theorem dX10_backIt_22 : decode cX10_backIt 22 = .ok (.i2l, 1) := by decide +kernel
theorem dX10_backIt_23 : decode cX10_backIt 23 = .ok (.lconst 0, 1) := by decide +kernel
theorem dX10_backIt_24 : decode cX10_backIt 24 = .ok (.ldc2_w 188, 3) := by decide +kernel
theorem dX10_backIt_27 : decode cX10_backIt 27 = .ok (.invokestatic 60, 3) := by decide +kernel
theorem dX10_backIt_30 : decode cX10_backIt 30 = .ok (.ifCond .ne 9, 3) := by decide +kernel
theorem dX10_backIt_33 : decode cX10_backIt 33 = .ok (.aload_n 0, 1) := by decide +kernel
theorem dX10_backIt_34 : decode cX10_backIt 34 = .ok (.iconst 2, 1) := by decide +kernel
theorem dX10_backIt_35 : decode cX10_backIt 35 = .ok (.invokevirtual 120, 3) := by decide +kernel
theorem dX10_backIt_38 : decode cX10_backIt 38 = .ok (.ireturn, 1) := by decide +kernel
theorem dX10_backIt_39 : decode cX10_backIt 39 = .ok (.iload_n 1, 1) := by decide +kernel
theorem dX10_backIt_40 : decode cX10_backIt 40 = .ok (.invokestatic 68, 3) := by decide +kernel
theorem dX10_backIt_43 : decode cX10_backIt 43 = .ok (.istore 4, 2) := by decide +kernel
theorem dX10_backIt_45 : decode cX10_backIt 45 = .ok (.aload_n 0, 1) := by decide +kernel
theorem dX10_backIt_46 : decode cX10_backIt 46 = .ok (.getfield 9, 3) := by decide +kernel
theorem dX10_backIt_49 : decode cX10_backIt 49 = .ok (.iload 4, 2) := by decide +kernel
theorem dX10_backIt_51 : decode cX10_backIt 51 = .ok (.iconst 2, 1) := by decide +kernel
theorem dX10_backIt_52 : decode cX10_backIt 52 = .ok (.iadd, 1) := by decide +kernel
theorem dX10_backIt_53 : decode cX10_backIt 53 = .ok (.iaload, 1) := by decide +kernel
theorem dX10_backIt_54 : decode cX10_backIt 54 = .ok (.iconst (-1), 1) := by decide +kernel
theorem dX10_backIt_55 : decode cX10_backIt 55 = .ok (.if_icmp .ne 12, 3) := by decide +kernel
theorem dX10_backIt_58 : decode cX10_backIt 58 = .ok (.aload_n 0, 1) := by decide +kernel
theorem dX10_backIt_59 : decode cX10_backIt 59 = .ok (.iload_n 3, 1) := by decide +kernel
theorem dX10_backIt_60 : decode cX10_backIt 60 = .ok (.invokevirtual 126, 3) := by decide +kernel
theorem dX10_backIt_63 : decode cX10_backIt 63 = .ok (.iconst (-1), 1) := by decide +kernel
theorem dX10_backIt_64 : decode cX10_backIt 64 = .ok (.if_icmp .ne 9, 3) := by decide +kernel
theorem dX10_backIt_67 : decode cX10_backIt 67 = .ok (.aload_n 0, 1) := by decide +kernel
theorem dX10_backIt_68 : decode cX10_backIt 68 = .ok (.iconst 3, 1) := by decide +kernel
theorem dX10_backIt_69 : decode cX10_backIt 69 = .ok (.invokevirtual 120, 3) := by decide +kernel
theorem dX10_backIt_72 : decode cX10_backIt 72 = .ok (.ireturn, 1) := by decide +kernel
theorem dX10_backIt_73 : decode cX10_backIt 73 = .ok (.aload_n 0, 1) := by decide +kernel
theorem dX10_backIt_74 : decode cX10_backIt 74 = .ok (.iload_n 3, 1) := by decide +kernel
theorem dX10_backIt_75 : decode cX10_backIt 75 = .ok (.invokevirtual 126, 3) := by decide +kernel
theorem dX10_backIt_78 : decode cX10_backIt 78 = .ok (.istore 5, 2) := by decide +kernel
theorem dX10_backIt_80 : decode cX10_backIt 80 = .ok (.aload_n 0, 1) := by decide +kernel
theorem dX10_backIt_81 : decode cX10_backIt 81 = .ok (.getfield 9, 3) := by decide +kernel
theorem dX10_backIt_84 : decode cX10_backIt 84 = .ok (.iconst 2, 1) := by decide +kernel
theorem dX10_backIt_85 : decode cX10_backIt 85 = .ok (.dup2, 1) := by decide +kernel
theorem dX10_backIt_86 : decode cX10_backIt 86 = .ok (.iaload, 1) := by decide +kernel
theorem dX10_backIt_87 : decode cX10_backIt 87 = .ok (.iconst 2, 1) := by decide +kernel
theorem dX10_backIt_88 : decode cX10_backIt 88 = .ok (.iconst 0, 1) := by decide +kernel
theorem dX10_backIt_89 : decode cX10_backIt 89 = .ok (.aload_n 0, 1) := by decide +kernel
theorem dX10_backIt_90 : decode cX10_backIt 90 = .ok (.getfield 9, 3) := by decide +kernel
theorem dX10_backIt_93 : decode cX10_backIt 93 = .ok (.iconst 1, 1) := by decide +kernel
theorem dX10_backIt_94 : decode cX10_backIt 94 = .ok (.iaload, 1) := by decide +kernel
theorem dX10_backIt_95 : decode cX10_backIt 95 = .ok (.aload_n 0, 1) := by decide +kernel
theorem dX10_backIt_96 : decode cX10_backIt 96 = .ok (.getfield 9, 3) := by decide +kernel
theorem dX10_backIt_99 : decode cX10_backIt 99 = .ok (.iload 4, 2) := by decide +kernel
theorem dX10_backIt_101 : decode cX10_backIt 101 = .ok (.iconst 5, 1) := by decide +kernel
theorem dX10_backIt_102 : decode cX10_backIt 102 = .ok (.iadd, 1) := by decide +kernel
theorem dX10_backIt_103 : decode cX10_backIt 103 = .ok (.iaload, 1) := by decide +kernel
theorem dX10_backIt_104 : decode cX10_backIt 104 = .ok (.isub, 1) := by decide +kernel
theorem dX10_backIt_105 : decode cX10_backIt 105 = .ok (.invokestatic 190, 3) := by decide +kernel
theorem dX10_backIt_108 : decode cX10_backIt 108 = .ok (.imul, 1) := by decide +kernel
theorem dX10_backIt_109 : decode cX10_backIt 109 = .ok (.iadd, 1) := by decide +kernel
theorem dX10_backIt_110 : decode cX10_backIt 110 = .ok (.iastore, 1) := by decide +kernel
theorem dX10_backIt_111 : decode cX10_backIt 111 = .ok (.aload_n 0, 1) := by decide +kernel
theorem dX10_backIt_112 : decode cX10_backIt 112 = .ok (.getfield 9, 3) := by decide +kernel
theorem dX10_backIt_115 : decode cX10_backIt 115 = .ok (.iload 4, 2) := by decide +kernel
theorem dX10_backIt_117 : decode cX10_backIt 117 = .ok (.iconst 1, 1) := by decide +kernel
theorem dX10_backIt_118 : decode cX10_backIt 118 = .ok (.iadd, 1) := by decide +kernel
theorem dX10_backIt_119 : decode cX10_backIt 119 = .ok (.bipush 100, 2) := by decide +kernel
theorem dX10_backIt_121 : decode cX10_backIt 121 = .ok (.aload_n 0, 1) := by decide +kernel
theorem dX10_backIt_122 : decode cX10_backIt 122 = .ok (.getfield 9, 3) := by decide +kernel
theorem dX10_backIt_125 : decode cX10_backIt 125 = .ok (.iload 4, 2) := by decide +kernel
theorem dX10_backIt_127 : decode cX10_backIt 127 = .ok (.iconst 1, 1) := by decide +kernel
theorem dX10_backIt_128 : decode cX10_backIt 128 = .ok (.iadd, 1) := by decide +kernel
theorem dX10_backIt_129 : decode cX10_backIt 129 = .ok (.iaload, 1) := by decide +kernel
theorem dX10_backIt_130 : decode cX10_backIt 130 = .ok (.iload_n 2, 1) := by decide +kernel
theorem dX10_backIt_131 : decode cX10_backIt 131 = .ok (.bipush 10, 2) := by decide +kernel
theorem dX10_backIt_133 : decode cX10_backIt 133 = .ok (.idiv, 1) := by decide +kernel
theorem dX10_backIt_134 : decode cX10_backIt 134 = .ok (.iadd, 1) := by decide +kernel
theorem dX10_backIt_135 : decode cX10_backIt 135 = .ok (.invokestatic 109, 3) := by decide +kernel
theorem dX10_backIt_138 : decode cX10_backIt 138 = .ok (.iastore, 1) := by decide +kernel
theorem dX10_backIt_139 : decode cX10_backIt 139 = .ok (.aload_n 0, 1) := by decide +kernel
theorem dX10_backIt_140 : decode cX10_backIt 140 = .ok (.getfield 9, 3) := by decide +kernel
theorem dX10_backIt_143 : decode cX10_backIt 143 = .ok (.iload 4, 2) := by decide +kernel
theorem dX10_backIt_145 : decode cX10_backIt 145 = .ok (.iconst 2, 1) := by decide +kernel
theorem dX10_backIt_146 : decode cX10_backIt 146 = .ok (.iadd, 1) := by decide +kernel
theorem dX10_backIt_147 : decode cX10_backIt 147 = .ok (.iload_n 3, 1) := by decide +kernel
theorem dX10_backIt_148 : decode cX10_backIt 148 = .ok (.iastore, 1) := by decide +kernel
theorem dX10_backIt_149 : decode cX10_backIt 149 = .ok (.aload_n 0, 1) := by decide +kernel
theorem dX10_backIt_150 : decode cX10_backIt 150 = .ok (.getfield 9, 3) := by decide +kernel
theorem dX10_backIt_153 : decode cX10_backIt 153 = .ok (.iload 4, 2) := by decide +kernel
theorem dX10_backIt_155 : decode cX10_backIt 155 = .ok (.iconst 3, 1) := by decide +kernel
theorem dX10_backIt_156 : decode cX10_backIt 156 = .ok (.iadd, 1) := by decide +kernel
theorem dX10_backIt_157 : decode cX10_backIt 157 = .ok (.iload 5, 2) := by decide +kernel
theorem dX10_backIt_159 : decode cX10_backIt 159 = .ok (.iastore, 1) := by decide +kernel
theorem dX10_backIt_160 : decode cX10_backIt 160 = .ok (.aload_n 0, 1) := by decide +kernel
theorem dX10_backIt_161 : decode cX10_backIt 161 = .ok (.getfield 9, 3) := by decide +kernel
theorem dX10_backIt_164 : decode cX10_backIt 164 = .ok (.iload 4, 2) := by decide +kernel
theorem dX10_backIt_166 : decode cX10_backIt 166 = .ok (.iconst 4, 1) := by decide +kernel
theorem dX10_backIt_167 : decode cX10_backIt 167 = .ok (.iadd, 1) := by decide +kernel
theorem dX10_backIt_168 : decode cX10_backIt 168 = .ok (.iconst 0, 1) := by decide +kernel
theorem dX10_backIt_169 : decode cX10_backIt 169 = .ok (.iastore, 1) := by decide +kernel
theorem dX10_backIt_170 : decode cX10_backIt 170 = .ok (.aload_n 0, 1) := by decide +kernel
theorem dX10_backIt_171 : decode cX10_backIt 171 = .ok (.getfield 9, 3) := by decide +kernel
theorem dX10_backIt_174 : decode cX10_backIt 174 = .ok (.iload 4, 2) := by decide +kernel
theorem dX10_backIt_176 : decode cX10_backIt 176 = .ok (.iconst 5, 1) := by decide +kernel
theorem dX10_backIt_177 : decode cX10_backIt 177 = .ok (.iadd, 1) := by decide +kernel
theorem dX10_backIt_178 : decode cX10_backIt 178 = .ok (.iconst 0, 1) := by decide +kernel
theorem dX10_backIt_179 : decode cX10_backIt 179 = .ok (.iastore, 1) := by decide +kernel
theorem dX10_backIt_180 : decode cX10_backIt 180 = .ok (.aload_n 0, 1) := by decide +kernel
theorem dX10_backIt_181 : decode cX10_backIt 181 = .ok (.getfield 9, 3) := by decide +kernel
theorem dX10_backIt_184 : decode cX10_backIt 184 = .ok (.iload 4, 2) := by decide +kernel
theorem dX10_backIt_186 : decode cX10_backIt 186 = .ok (.iconst 1, 1) := by decide +kernel
theorem dX10_backIt_187 : decode cX10_backIt 187 = .ok (.iadd, 1) := by decide +kernel
theorem dX10_backIt_188 : decode cX10_backIt 188 = .ok (.iaload, 1) := by decide +kernel
theorem dX10_backIt_189 : decode cX10_backIt 189 = .ok (.ireturn, 1) := by decide +kernel
theorem dX10_giveBack_0 : decode cX10_giveBack 0 = .ok (.aload_n 0, 1) := by decide +kernel
theorem dX10_giveBack_1 : decode cX10_giveBack 1 = .ok (.invokevirtual 129, 3) := by decide +kernel
theorem dX10_giveBack_4 : decode cX10_giveBack 4 = .ok (.aload_n 0, 1) := by decide +kernel
theorem dX10_giveBack_5 : decode cX10_giveBack 5 = .ok (.aload_n 0, 1) := by decide +kernel
theorem dX10_giveBack_6 : decode cX10_giveBack 6 = .ok (.iload_n 1, 1) := by decide +kernel
theorem dX10_giveBack_7 : decode cX10_giveBack 7 = .ok (.iload_n 2, 1) := by decide +kernel
theorem dX10_giveBack_8 : decode cX10_giveBack 8 = .ok (.iload_n 3, 1) := by decide +kernel
theorem dX10_giveBack_9 : decode cX10_giveBack 9 = .ok (.invokevirtual 193, 3) := by decide +kernel
theorem dX10_giveBack_12 : decode cX10_giveBack 12 = .ok (.invokevirtual 135, 3) := by decide +kernel
theorem dX10_giveBack_15 : decode cX10_giveBack 15 = .ok (.ireturn, 1) := by decide +kernel
theorem dX10_faceIt_0 : decode cX10_faceIt 0 = .ok (.aload_n 0, 1) := by decide +kernel
theorem dX10_faceIt_1 : decode cX10_faceIt 1 = .ok (.iload_n 1, 1) := by decide +kernel
theorem dX10_faceIt_2 : decode cX10_faceIt 2 = .ok (.invokevirtual 138, 3) := by decide +kernel
theorem dX10_faceIt_5 : decode cX10_faceIt 5 = .ok (.ifCond .ne 9, 3) := by decide +kernel
theorem dX10_faceIt_8 : decode cX10_faceIt 8 = .ok (.aload_n 0, 1) := by decide +kernel
theorem dX10_faceIt_9 : decode cX10_faceIt 9 = .ok (.iconst 1, 1) := by decide +kernel
theorem dX10_faceIt_10 : decode cX10_faceIt 10 = .ok (.invokevirtual 120, 3) := by decide +kernel
theorem dX10_faceIt_13 : decode cX10_faceIt 13 = .ok (.ireturn, 1) := by decide +kernel
theorem dX10_faceIt_14 : decode cX10_faceIt 14 = .ok (.iload_n 1, 1) := by decide +kernel
theorem dX10_faceIt_15 : decode cX10_faceIt 15 = .ok (.invokestatic 68, 3) := by decide +kernel
theorem dX10_faceIt_18 : decode cX10_faceIt 18 = .ok (.istore_n 2, 1) := by decide +kernel
theorem dX10_faceIt_19 : decode cX10_faceIt 19 = .ok (.aload_n 0, 1) := by decide +kernel
theorem dX10_faceIt_20 : decode cX10_faceIt 20 = .ok (.getfield 9, 3) := by decide +kernel
theorem dX10_faceIt_23 : decode cX10_faceIt 23 = .ok (.iload_n 2, 1) := by decide +kernel
theorem dX10_faceIt_24 : decode cX10_faceIt 24 = .ok (.iconst 2, 1) := by decide +kernel
theorem dX10_faceIt_25 : decode cX10_faceIt 25 = .ok (.iadd, 1) := by decide +kernel
theorem dX10_faceIt_26 : decode cX10_faceIt 26 = .ok (.iaload, 1) := by decide +kernel
theorem dX10_faceIt_27 : decode cX10_faceIt 27 = .ok (.iconst (-1), 1) := by decide +kernel
theorem dX10_faceIt_28 : decode cX10_faceIt 28 = .ok (.if_icmp .ne 9, 3) := by decide +kernel
theorem dX10_faceIt_31 : decode cX10_faceIt 31 = .ok (.aload_n 0, 1) := by decide +kernel
theorem dX10_faceIt_32 : decode cX10_faceIt 32 = .ok (.iconst 2, 1) := by decide +kernel
theorem dX10_faceIt_33 : decode cX10_faceIt 33 = .ok (.invokevirtual 120, 3) := by decide +kernel
theorem dX10_faceIt_36 : decode cX10_faceIt 36 = .ok (.ireturn, 1) := by decide +kernel
theorem dX10_faceIt_37 : decode cX10_faceIt 37 = .ok (.aload_n 0, 1) := by decide +kernel
theorem dX10_faceIt_38 : decode cX10_faceIt 38 = .ok (.getfield 9, 3) := by decide +kernel
theorem dX10_faceIt_41 : decode cX10_faceIt 41 = .ok (.iload_n 2, 1) := by decide +kernel
theorem dX10_faceIt_42 : decode cX10_faceIt 42 = .ok (.iconst 1, 1) := by decide +kernel
theorem dX10_faceIt_43 : decode cX10_faceIt 43 = .ok (.iadd, 1) := by decide +kernel
theorem dX10_faceIt_44 : decode cX10_faceIt 44 = .ok (.iaload, 1) := by decide +kernel
theorem dX10_faceIt_45 : decode cX10_faceIt 45 = .ok (.iconst 4, 1) := by decide +kernel
theorem dX10_faceIt_46 : decode cX10_faceIt 46 = .ok (.iadd, 1) := by decide +kernel
theorem dX10_faceIt_47 : decode cX10_faceIt 47 = .ok (.iconst 5, 1) := by decide +kernel
theorem dX10_faceIt_48 : decode cX10_faceIt 48 = .ok (.idiv, 1) := by decide +kernel
theorem dX10_faceIt_49 : decode cX10_faceIt 49 = .ok (.istore_n 3, 1) := by decide +kernel
theorem dX10_faceIt_50 : decode cX10_faceIt 50 = .ok (.iload_n 3, 1) := by decide +kernel
theorem dX10_faceIt_51 : decode cX10_faceIt 51 = .ok (.aload_n 0, 1) := by decide +kernel
theorem dX10_faceIt_52 : decode cX10_faceIt 52 = .ok (.getfield 9, 3) := by decide +kernel
theorem dX10_faceIt_55 : decode cX10_faceIt 55 = .ok (.iconst 2, 1) := by decide +kernel
theorem dX10_faceIt_56 : decode cX10_faceIt 56 = .ok (.iaload, 1) := by decide +kernel
theorem dX10_faceIt_57 : decode cX10_faceIt 57 = .ok (.if_icmp .le 9, 3) := by decide +kernel
theorem dX10_faceIt_60 : decode cX10_faceIt 60 = .ok (.aload_n 0, 1) := by decide +kernel
theorem dX10_faceIt_61 : decode cX10_faceIt 61 = .ok (.iconst 3, 1) := by decide +kernel
theorem dX10_faceIt_62 : decode cX10_faceIt 62 = .ok (.invokevirtual 120, 3) := by decide +kernel
theorem dX10_faceIt_65 : decode cX10_faceIt 65 = .ok (.ireturn, 1) := by decide +kernel
theorem dX10_faceIt_66 : decode cX10_faceIt 66 = .ok (.aload_n 0, 1) := by decide +kernel
theorem dX10_faceIt_67 : decode cX10_faceIt 67 = .ok (.getfield 9, 3) := by decide +kernel
theorem dX10_faceIt_70 : decode cX10_faceIt 70 = .ok (.iconst 2, 1) := by decide +kernel
theorem dX10_faceIt_71 : decode cX10_faceIt 71 = .ok (.dup2, 1) := by decide +kernel
theorem dX10_faceIt_72 : decode cX10_faceIt 72 = .ok (.iaload, 1) := by decide +kernel
theorem dX10_faceIt_73 : decode cX10_faceIt 73 = .ok (.iload_n 3, 1) := by decide +kernel
theorem dX10_faceIt_74 : decode cX10_faceIt 74 = .ok (.isub, 1) := by decide +kernel
theorem dX10_faceIt_75 : decode cX10_faceIt 75 = .ok (.iastore, 1) := by decide +kernel
theorem dX10_faceIt_76 : decode cX10_faceIt 76 = .ok (.aload_n 0, 1) := by decide +kernel
theorem dX10_faceIt_77 : decode cX10_faceIt 77 = .ok (.getfield 9, 3) := by decide +kernel
theorem dX10_faceIt_80 : decode cX10_faceIt 80 = .ok (.iload_n 2, 1) := by decide +kernel
theorem dX10_faceIt_81 : decode cX10_faceIt 81 = .ok (.iconst 1, 1) := by decide +kernel
theorem dX10_faceIt_82 : decode cX10_faceIt 82 = .ok (.iadd, 1) := by decide +kernel
theorem dX10_faceIt_83 : decode cX10_faceIt 83 = .ok (.iconst 0, 1) := by decide +kernel
theorem dX10_faceIt_84 : decode cX10_faceIt 84 = .ok (.iastore, 1) := by decide +kernel
theorem dX10_faceIt_85 : decode cX10_faceIt 85 = .ok (.iload_n 3, 1) := by decide +kernel
theorem dX10_faceIt_86 : decode cX10_faceIt 86 = .ok (.ireturn, 1) := by decide +kernel
theorem dX10_renewFace_0 : decode cX10_renewFace 0 = .ok (.aload_n 0, 1) := by decide +kernel
theorem dX10_renewFace_1 : decode cX10_renewFace 1 = .ok (.invokevirtual 129, 3) := by decide +kernel
theorem dX10_renewFace_4 : decode cX10_renewFace 4 = .ok (.aload_n 0, 1) := by decide +kernel
theorem dX10_renewFace_5 : decode cX10_renewFace 5 = .ok (.aload_n 0, 1) := by decide +kernel
theorem dX10_renewFace_6 : decode cX10_renewFace 6 = .ok (.iload_n 1, 1) := by decide +kernel
theorem dX10_renewFace_7 : decode cX10_renewFace 7 = .ok (.invokevirtual 196, 3) := by decide +kernel
theorem dX10_renewFace_10 : decode cX10_renewFace 10 = .ok (.invokevirtual 135, 3) := by decide +kernel
theorem dX10_renewFace_13 : decode cX10_renewFace 13 = .ok (.ireturn, 1) := by decide +kernel
theorem dX10_passesDay_0 : decode cX10_passesDay 0 = .ok (.aload_n 0, 1) := by decide +kernel
theorem dX10_passesDay_1 : decode cX10_passesDay 1 = .ok (.getfield 9, 3) := by decide +kernel
theorem dX10_passesDay_4 : decode cX10_passesDay 4 = .ok (.iconst 1, 1) := by decide +kernel
theorem dX10_passesDay_5 : decode cX10_passesDay 5 = .ok (.dup2, 1) := by decide +kernel
theorem dX10_passesDay_6 : decode cX10_passesDay 6 = .ok (.iaload, 1) := by decide +kernel
theorem dX10_passesDay_7 : decode cX10_passesDay 7 = .ok (.iconst 1, 1) := by decide +kernel
theorem dX10_passesDay_8 : decode cX10_passesDay 8 = .ok (.iadd, 1) := by decide +kernel
theorem dX10_passesDay_9 : decode cX10_passesDay 9 = .ok (.iastore, 1) := by decide +kernel
theorem dX10_passesDay_10 : decode cX10_passesDay 10 = .ok (.iconst 0, 1) := by decide +kernel
theorem dX10_passesDay_11 : decode cX10_passesDay 11 = .ok (.istore_n 1, 1) := by decide +kernel
theorem dX10_passesDay_12 : decode cX10_passesDay 12 = .ok (.iconst 0, 1) := by decide +kernel
theorem dX10_passesDay_13 : decode cX10_passesDay 13 = .ok (.istore_n 2, 1) := by decide +kernel
theorem dX10_passesDay_14 : decode cX10_passesDay 14 = .ok (.iload_n 2, 1) := by decide +kernel
theorem dX10_passesDay_15 : decode cX10_passesDay 15 = .ok (.aload_n 0, 1) := by decide +kernel
theorem dX10_passesDay_16 : decode cX10_passesDay 16 = .ok (.getfield 9, 3) := by decide +kernel
theorem dX10_passesDay_19 : decode cX10_passesDay 19 = .ok (.iconst 5, 1) := by decide +kernel
theorem dX10_passesDay_20 : decode cX10_passesDay 20 = .ok (.iaload, 1) := by decide +kernel
theorem dX10_passesDay_21 : decode cX10_passesDay 21 = .ok (.if_icmp .ge 145, 3) := by decide +kernel
theorem dX10_passesDay_24 : decode cX10_passesDay 24 = .ok (.iload_n 2, 1) := by decide +kernel
theorem dX10_passesDay_25 : decode cX10_passesDay 25 = .ok (.invokestatic 86, 3) := by decide +kernel
theorem dX10_passesDay_28 : decode cX10_passesDay 28 = .ok (.istore_n 3, 1) := by decide +kernel
theorem dX10_passesDay_29 : decode cX10_passesDay 29 = .ok (.aload_n 0, 1) := by decide +kernel
theorem dX10_passesDay_30 : decode cX10_passesDay 30 = .ok (.getfield 9, 3) := by decide +kernel
theorem dX10_passesDay_33 : decode cX10_passesDay 33 = .ok (.iload_n 3, 1) := by decide +kernel
theorem dX10_passesDay_34 : decode cX10_passesDay 34 = .ok (.iconst 2, 1) := by decide +kernel
theorem dX10_passesDay_35 : decode cX10_passesDay 35 = .ok (.iadd, 1) := by decide +kernel
theorem dX10_passesDay_36 : decode cX10_passesDay 36 = .ok (.iaload, 1) := by decide +kernel
theorem dX10_passesDay_37 : decode cX10_passesDay 37 = .ok (.aload_n 0, 1) := by decide +kernel
theorem dX10_passesDay_38 : decode cX10_passesDay 38 = .ok (.getfield 9, 3) := by decide +kernel
theorem dX10_passesDay_41 : decode cX10_passesDay 41 = .ok (.iconst 1, 1) := by decide +kernel
theorem dX10_passesDay_42 : decode cX10_passesDay 42 = .ok (.iaload, 1) := by decide +kernel
theorem dX10_passesDay_43 : decode cX10_passesDay 43 = .ok (.if_icmp .ne 117, 3) := by decide +kernel
theorem dX10_passesDay_46 : decode cX10_passesDay 46 = .ok (.aload_n 0, 1) := by decide +kernel
theorem dX10_passesDay_47 : decode cX10_passesDay 47 = .ok (.getfield 9, 3) := by decide +kernel
theorem dX10_passesDay_50 : decode cX10_passesDay 50 = .ok (.iload_n 3, 1) := by decide +kernel
theorem dX10_passesDay_51 : decode cX10_passesDay 51 = .ok (.iaload, 1) := by decide +kernel
theorem dX10_passesDay_52 : decode cX10_passesDay 52 = .ok (.invokestatic 68, 3) := by decide +kernel
theorem dX10_passesDay_55 : decode cX10_passesDay 55 = .ok (.istore 4, 2) := by decide +kernel
theorem dX10_passesDay_57 : decode cX10_passesDay 57 = .ok (.aload_n 0, 1) := by decide +kernel
theorem dX10_passesDay_58 : decode cX10_passesDay 58 = .ok (.getfield 9, 3) := by decide +kernel
theorem dX10_passesDay_61 : decode cX10_passesDay 61 = .ok (.iload 4, 2) := by decide +kernel
theorem dX10_passesDay_63 : decode cX10_passesDay 63 = .ok (.iconst 2, 1) := by decide +kernel
theorem dX10_passesDay_64 : decode cX10_passesDay 64 = .ok (.iadd, 1) := by decide +kernel
theorem dX10_passesDay_65 : decode cX10_passesDay 65 = .ok (.iaload, 1) := by decide +kernel
theorem dX10_passesDay_66 : decode cX10_passesDay 66 = .ok (.iconst (-1), 1) := by decide +kernel
theorem dX10_passesDay_67 : decode cX10_passesDay 67 = .ok (.if_icmp .ne 17, 3) := by decide +kernel
theorem dX10_passesDay_70 : decode cX10_passesDay 70 = .ok (.aload_n 0, 1) := by decide +kernel
theorem dX10_passesDay_71 : decode cX10_passesDay 71 = .ok (.getfield 9, 3) := by decide +kernel
theorem dX10_passesDay_74 : decode cX10_passesDay 74 = .ok (.bipush 6, 2) := by decide +kernel
theorem dX10_passesDay_76 : decode cX10_passesDay 76 = .ok (.dup2, 1) := by decide +kernel
theorem dX10_passesDay_77 : decode cX10_passesDay 77 = .ok (.iaload, 1) := by decide +kernel
theorem dX10_passesDay_78 : decode cX10_passesDay 78 = .ok (.iconst 1, 1) := by decide +kernel
theorem dX10_passesDay_79 : decode cX10_passesDay 79 = .ok (.iadd, 1) := by decide +kernel
theorem dX10_passesDay_80 : decode cX10_passesDay 80 = .ok (.iastore, 1) := by decide +kernel
theorem dX10_passesDay_81 : decode cX10_passesDay 81 = .ok (.goto 71, 3) := by decide +kernel
theorem dX10_passesDay_84 : decode cX10_passesDay 84 = .ok (.aload_n 0, 1) := by decide +kernel
theorem dX10_passesDay_85 : decode cX10_passesDay 85 = .ok (.getfield 9, 3) := by decide +kernel
theorem dX10_passesDay_88 : decode cX10_passesDay 88 = .ok (.iload 4, 2) := by decide +kernel
theorem dX10_passesDay_90 : decode cX10_passesDay 90 = .ok (.iconst 2, 1) := by decide +kernel
theorem dX10_passesDay_91 : decode cX10_passesDay 91 = .ok (.iadd, 1) := by decide +kernel
theorem dX10_passesDay_92 : decode cX10_passesDay 92 = .ok (.iconst (-1), 1) := by decide +kernel
theorem dX10_passesDay_93 : decode cX10_passesDay 93 = .ok (.iastore, 1) := by decide +kernel
theorem dX10_passesDay_94 : decode cX10_passesDay 94 = .ok (.aload_n 0, 1) := by decide +kernel
theorem dX10_passesDay_95 : decode cX10_passesDay 95 = .ok (.getfield 9, 3) := by decide +kernel
theorem dX10_passesDay_98 : decode cX10_passesDay 98 = .ok (.iload 4, 2) := by decide +kernel
theorem dX10_passesDay_100 : decode cX10_passesDay 100 = .ok (.iconst 3, 1) := by decide +kernel
theorem dX10_passesDay_101 : decode cX10_passesDay 101 = .ok (.iadd, 1) := by decide +kernel
theorem dX10_passesDay_102 : decode cX10_passesDay 102 = .ok (.iconst (-1), 1) := by decide +kernel
theorem dX10_passesDay_103 : decode cX10_passesDay 103 = .ok (.iastore, 1) := by decide +kernel
theorem dX10_passesDay_104 : decode cX10_passesDay 104 = .ok (.aload_n 0, 1) := by decide +kernel
theorem dX10_passesDay_105 : decode cX10_passesDay 105 = .ok (.getfield 9, 3) := by decide +kernel
theorem dX10_passesDay_108 : decode cX10_passesDay 108 = .ok (.iload 4, 2) := by decide +kernel
theorem dX10_passesDay_110 : decode cX10_passesDay 110 = .ok (.iconst 4, 1) := by decide +kernel
theorem dX10_passesDay_111 : decode cX10_passesDay 111 = .ok (.iadd, 1) := by decide +kernel
theorem dX10_passesDay_112 : decode cX10_passesDay 112 = .ok (.aload_n 0, 1) := by decide +kernel
theorem dX10_passesDay_113 : decode cX10_passesDay 113 = .ok (.getfield 9, 3) := by decide +kernel
theorem dX10_passesDay_116 : decode cX10_passesDay 116 = .ok (.iload_n 3, 1) := by decide +kernel
theorem dX10_passesDay_117 : decode cX10_passesDay 117 = .ok (.iconst 1, 1) := by decide +kernel
theorem dX10_passesDay_118 : decode cX10_passesDay 118 = .ok (.iadd, 1) := by decide +kernel
theorem dX10_passesDay_119 : decode cX10_passesDay 119 = .ok (.iaload, 1) := by decide +kernel
theorem dX10_passesDay_120 : decode cX10_passesDay 120 = .ok (.iastore, 1) := by decide +kernel
theorem dX10_passesDay_121 : decode cX10_passesDay 121 = .ok (.aload_n 0, 1) := by decide +kernel
theorem dX10_passesDay_122 : decode cX10_passesDay 122 = .ok (.getfield 9, 3) := by decide +kernel
theorem dX10_passesDay_125 : decode cX10_passesDay 125 = .ok (.iload 4, 2) := by decide +kernel
theorem dX10_passesDay_127 : decode cX10_passesDay 127 = .ok (.iconst 5, 1) := by decide +kernel
theorem dX10_passesDay_128 : decode cX10_passesDay 128 = .ok (.iadd, 1) := by decide +kernel
theorem dX10_passesDay_129 : decode cX10_passesDay 129 = .ok (.aload_n 0, 1) := by decide +kernel
theorem dX10_passesDay_130 : decode cX10_passesDay 130 = .ok (.getfield 9, 3) := by decide +kernel
theorem dX10_passesDay_133 : decode cX10_passesDay 133 = .ok (.iload_n 3, 1) := by decide +kernel
theorem dX10_passesDay_134 : decode cX10_passesDay 134 = .ok (.iconst 3, 1) := by decide +kernel
theorem dX10_passesDay_135 : decode cX10_passesDay 135 = .ok (.iadd, 1) := by decide +kernel
theorem dX10_passesDay_136 : decode cX10_passesDay 136 = .ok (.iaload, 1) := by decide +kernel
theorem dX10_passesDay_137 : decode cX10_passesDay 137 = .ok (.iastore, 1) := by decide +kernel
theorem dX10_passesDay_138 : decode cX10_passesDay 138 = .ok (.aload_n 0, 1) := by decide +kernel
theorem dX10_passesDay_139 : decode cX10_passesDay 139 = .ok (.getfield 9, 3) := by decide +kernel
theorem dX10_passesDay_142 : decode cX10_passesDay 142 = .ok (.bipush 7, 2) := by decide +kernel
theorem dX10_passesDay_144 : decode cX10_passesDay 144 = .ok (.dup2, 1) := by decide +kernel
theorem dX10_passesDay_145 : decode cX10_passesDay 145 = .ok (.iaload, 1) := by decide +kernel
theorem dX10_passesDay_146 : decode cX10_passesDay 146 = .ok (.iconst 1, 1) := by decide +kernel
theorem dX10_passesDay_147 : decode cX10_passesDay 147 = .ok (.iadd, 1) := by decide +kernel
theorem dX10_passesDay_148 : decode cX10_passesDay 148 = .ok (.iastore, 1) := by decide +kernel
theorem dX10_passesDay_149 : decode cX10_passesDay 149 = .ok (.iinc 1 1, 3) := by decide +kernel
theorem dX10_passesDay_152 : decode cX10_passesDay 152 = .ok (.aload_n 0, 1) := by decide +kernel
theorem dX10_passesDay_153 : decode cX10_passesDay 153 = .ok (.iload_n 2, 1) := by decide +kernel
theorem dX10_passesDay_154 : decode cX10_passesDay 154 = .ok (.invokevirtual 199, 3) := by decide +kernel
theorem dX10_passesDay_157 : decode cX10_passesDay 157 = .ok (.goto 6, 3) := by decide +kernel
theorem dX10_passesDay_160 : decode cX10_passesDay 160 = .ok (.iinc 2 1, 3) := by decide +kernel
theorem dX10_passesDay_163 : decode cX10_passesDay 163 = .ok (.goto (-149), 3) := by decide +kernel
theorem dX10_passesDay_166 : decode cX10_passesDay 166 = .ok (.iload_n 1, 1) := by decide +kernel
theorem dX10_passesDay_167 : decode cX10_passesDay 167 = .ok (.ireturn, 1) := by decide +kernel
theorem dX10_daysIt_0 : decode cX10_daysIt 0 = .ok (.iload_n 1, 1) := by decide +kernel
theorem dX10_daysIt_1 : decode cX10_daysIt 1 = .ok (.i2l, 1) := by decide +kernel
theorem dX10_daysIt_2 : decode cX10_daysIt 2 = .ok (.lconst 1, 1) := by decide +kernel
theorem dX10_daysIt_3 : decode cX10_daysIt 3 = .ok (.ldc2_w 202, 3) := by decide +kernel
theorem dX10_daysIt_6 : decode cX10_daysIt 6 = .ok (.invokestatic 60, 3) := by decide +kernel
theorem dX10_daysIt_9 : decode cX10_daysIt 9 = .ok (.ifCond .ne 9, 3) := by decide +kernel
theorem dX10_daysIt_12 : decode cX10_daysIt 12 = .ok (.aload_n 0, 1) := by decide +kernel
theorem dX10_daysIt_13 : decode cX10_daysIt 13 = .ok (.iconst 1, 1) := by decide +kernel
theorem dX10_daysIt_14 : decode cX10_daysIt 14 = .ok (.invokevirtual 120, 3) := by decide +kernel
theorem dX10_daysIt_17 : decode cX10_daysIt 17 = .ok (.ireturn, 1) := by decide +kernel
theorem dX10_daysIt_18 : decode cX10_daysIt 18 = .ok (.iconst 0, 1) := by decide +kernel
theorem dX10_daysIt_19 : decode cX10_daysIt 19 = .ok (.istore_n 2, 1) := by decide +kernel
theorem dX10_daysIt_20 : decode cX10_daysIt 20 = .ok (.iconst 0, 1) := by decide +kernel
theorem dX10_daysIt_21 : decode cX10_daysIt 21 = .ok (.istore_n 3, 1) := by decide +kernel
theorem dX10_daysIt_22 : decode cX10_daysIt 22 = .ok (.iload_n 3, 1) := by decide +kernel
theorem dX10_daysIt_23 : decode cX10_daysIt 23 = .ok (.iload_n 1, 1) := by decide +kernel
theorem dX10_daysIt_24 : decode cX10_daysIt 24 = .ok (.if_icmp .ge 16, 3) := by decide +kernel
theorem dX10_daysIt_27 : decode cX10_daysIt 27 = .ok (.iload_n 2, 1) := by decide +kernel
theorem dX10_daysIt_28 : decode cX10_daysIt 28 = .ok (.aload_n 0, 1) := by decide +kernel
theorem dX10_daysIt_29 : decode cX10_daysIt 29 = .ok (.invokevirtual 204, 3) := by decide +kernel
theorem dX10_daysIt_32 : decode cX10_daysIt 32 = .ok (.iadd, 1) := by decide +kernel
theorem dX10_daysIt_33 : decode cX10_daysIt 33 = .ok (.istore_n 2, 1) := by decide +kernel
theorem dX10_daysIt_34 : decode cX10_daysIt 34 = .ok (.iinc 3 1, 3) := by decide +kernel
theorem dX10_daysIt_37 : decode cX10_daysIt 37 = .ok (.goto (-15), 3) := by decide +kernel
theorem dX10_daysIt_40 : decode cX10_daysIt 40 = .ok (.iload_n 2, 1) := by decide +kernel
theorem dX10_daysIt_41 : decode cX10_daysIt 41 = .ok (.ireturn, 1) := by decide +kernel
theorem dX10_passDays_0 : decode cX10_passDays 0 = .ok (.aload_n 0, 1) := by decide +kernel
theorem dX10_passDays_1 : decode cX10_passDays 1 = .ok (.invokevirtual 129, 3) := by decide +kernel
theorem dX10_passDays_4 : decode cX10_passDays 4 = .ok (.aload_n 0, 1) := by decide +kernel
theorem dX10_passDays_5 : decode cX10_passDays 5 = .ok (.aload_n 0, 1) := by decide +kernel
theorem dX10_passDays_6 : decode cX10_passDays 6 = .ok (.iload_n 1, 1) := by decide +kernel
theorem dX10_passDays_7 : decode cX10_passDays 7 = .ok (.invokevirtual 207, 3) := by decide +kernel
theorem dX10_passDays_10 : decode cX10_passDays 10 = .ok (.invokevirtual 135, 3) := by decide +kernel
theorem dX10_passDays_13 : decode cX10_passDays 13 = .ok (.ireturn, 1) := by decide +kernel
theorem dX10_total_0 : decode cX10_total 0 = .ok (.aload_n 0, 1) := by decide +kernel
theorem dX10_total_1 : decode cX10_total 1 = .ok (.iconst 0, 1) := by decide +kernel
theorem dX10_total_2 : decode cX10_total 2 = .ok (.putfield 54, 3) := by decide +kernel
theorem dX10_total_5 : decode cX10_total 5 = .ok (.aload_n 0, 1) := by decide +kernel
theorem dX10_total_6 : decode cX10_total 6 = .ok (.getfield 9, 3) := by decide +kernel
theorem dX10_total_9 : decode cX10_total 9 = .ok (.iload_n 1, 1) := by decide +kernel
theorem dX10_total_10 : decode cX10_total 10 = .ok (.iaload, 1) := by decide +kernel
theorem dX10_total_11 : decode cX10_total 11 = .ok (.ireturn, 1) := by decide +kernel
theorem dX10_hammerCount_0 : decode cX10_hammerCount 0 = .ok (.aload_n 0, 1) := by decide +kernel
theorem dX10_hammerCount_1 : decode cX10_hammerCount 1 = .ok (.iconst 0, 1) := by decide +kernel
theorem dX10_hammerCount_2 : decode cX10_hammerCount 2 = .ok (.invokevirtual 210, 3) := by decide +kernel
theorem dX10_hammerCount_5 : decode cX10_hammerCount 5 = .ok (.ireturn, 1) := by decide +kernel
theorem dX10_ofHammer_0 : decode cX10_ofHammer 0 = .ok (.aload_n 0, 1) := by decide +kernel
theorem dX10_ofHammer_1 : decode cX10_ofHammer 1 = .ok (.iconst 0, 1) := by decide +kernel
theorem dX10_ofHammer_2 : decode cX10_ofHammer 2 = .ok (.putfield 54, 3) := by decide +kernel
theorem dX10_ofHammer_5 : decode cX10_ofHammer 5 = .ok (.aload_n 0, 1) := by decide +kernel
theorem dX10_ofHammer_6 : decode cX10_ofHammer 6 = .ok (.iload_n 1, 1) := by decide +kernel
theorem dX10_ofHammer_7 : decode cX10_ofHammer 7 = .ok (.invokevirtual 138, 3) := by decide +kernel
theorem dX10_ofHammer_10 : decode cX10_ofHammer 10 = .ok (.ifCond .eq 17, 3) := by decide +kernel
theorem dX10_ofHammer_13 : decode cX10_ofHammer 13 = .ok (.aload_n 0, 1) := by decide +kernel
theorem dX10_ofHammer_14 : decode cX10_ofHammer 14 = .ok (.getfield 9, 3) := by decide +kernel
theorem dX10_ofHammer_17 : decode cX10_ofHammer 17 = .ok (.iload_n 1, 1) := by decide +kernel
theorem dX10_ofHammer_18 : decode cX10_ofHammer 18 = .ok (.invokestatic 68, 3) := by decide +kernel
theorem dX10_ofHammer_21 : decode cX10_ofHammer 21 = .ok (.iload_n 2, 1) := by decide +kernel
theorem dX10_ofHammer_22 : decode cX10_ofHammer 22 = .ok (.iadd, 1) := by decide +kernel
theorem dX10_ofHammer_23 : decode cX10_ofHammer 23 = .ok (.iaload, 1) := by decide +kernel
theorem dX10_ofHammer_24 : decode cX10_ofHammer 24 = .ok (.goto 8, 3) := by decide +kernel
theorem dX10_ofHammer_27 : decode cX10_ofHammer 27 = .ok (.aload_n 0, 1) := by decide +kernel
theorem dX10_ofHammer_28 : decode cX10_ofHammer 28 = .ok (.iconst 1, 1) := by decide +kernel
theorem dX10_ofHammer_29 : decode cX10_ofHammer 29 = .ok (.invokevirtual 120, 3) := by decide +kernel
theorem dX10_ofHammer_32 : decode cX10_ofHammer 32 = .ok (.ireturn, 1) := by decide +kernel
theorem dX10_pitch_0 : decode cX10_pitch 0 = .ok (.aload_n 0, 1) := by decide +kernel
theorem dX10_pitch_1 : decode cX10_pitch 1 = .ok (.iload_n 1, 1) := by decide +kernel
theorem dX10_pitch_2 : decode cX10_pitch 2 = .ok (.iconst 0, 1) := by decide +kernel
theorem dX10_pitch_3 : decode cX10_pitch 3 = .ok (.invokevirtual 213, 3) := by decide +kernel
theorem dX10_pitch_6 : decode cX10_pitch 6 = .ok (.ireturn, 1) := by decide +kernel
theorem dX10_wear_0 : decode cX10_wear 0 = .ok (.aload_n 0, 1) := by decide +kernel
theorem dX10_wear_1 : decode cX10_wear 1 = .ok (.iload_n 1, 1) := by decide +kernel
theorem dX10_wear_2 : decode cX10_wear 2 = .ok (.iconst 1, 1) := by decide +kernel
theorem dX10_wear_3 : decode cX10_wear 3 = .ok (.invokevirtual 213, 3) := by decide +kernel
theorem dX10_wear_6 : decode cX10_wear 6 = .ok (.ireturn, 1) := by decide +kernel
theorem dX10_isLent_0 : decode cX10_isLent 0 = .ok (.aload_n 0, 1) := by decide +kernel
theorem dX10_isLent_1 : decode cX10_isLent 1 = .ok (.iload_n 1, 1) := by decide +kernel
theorem dX10_isLent_2 : decode cX10_isLent 2 = .ok (.iconst 2, 1) := by decide +kernel
theorem dX10_isLent_3 : decode cX10_isLent 3 = .ok (.invokevirtual 213, 3) := by decide +kernel
theorem dX10_isLent_6 : decode cX10_isLent 6 = .ok (.istore_n 2, 1) := by decide +kernel
theorem dX10_isLent_7 : decode cX10_isLent 7 = .ok (.aload_n 0, 1) := by decide +kernel
theorem dX10_isLent_8 : decode cX10_isLent 8 = .ok (.getfield 54, 3) := by decide +kernel
theorem dX10_isLent_11 : decode cX10_isLent 11 = .ok (.ifCond .ne 12, 3) := by decide +kernel
theorem dX10_isLent_14 : decode cX10_isLent 14 = .ok (.iload_n 2, 1) := by decide +kernel
theorem dX10_isLent_15 : decode cX10_isLent 15 = .ok (.iconst (-1), 1) := by decide +kernel
theorem dX10_isLent_16 : decode cX10_isLent 16 = .ok (.if_icmp .ne 7, 3) := by decide +kernel
theorem dX10_isLent_19 : decode cX10_isLent 19 = .ok (.iconst 1, 1) := by decide +kernel
theorem dX10_isLent_20 : decode cX10_isLent 20 = .ok (.goto 4, 3) := by decide +kernel
theorem dX10_isLent_23 : decode cX10_isLent 23 = .ok (.iconst 0, 1) := by decide +kernel
theorem dX10_isLent_24 : decode cX10_isLent 24 = .ok (.ireturn, 1) := by decide +kernel
theorem dX10_ofHammerIf_0 : decode cX10_ofHammerIf 0 = .ok (.aload_n 0, 1) := by decide +kernel
theorem dX10_ofHammerIf_1 : decode cX10_ofHammerIf 1 = .ok (.iload_n 1, 1) := by decide +kernel
theorem dX10_ofHammerIf_2 : decode cX10_ofHammerIf 2 = .ok (.iconst 2, 1) := by decide +kernel
theorem dX10_ofHammerIf_3 : decode cX10_ofHammerIf 3 = .ok (.invokevirtual 213, 3) := by decide +kernel
theorem dX10_ofHammerIf_6 : decode cX10_ofHammerIf 6 = .ok (.istore 4, 2) := by decide +kernel
theorem dX10_ofHammerIf_8 : decode cX10_ofHammerIf 8 = .ok (.aload_n 0, 1) := by decide +kernel
theorem dX10_ofHammerIf_9 : decode cX10_ofHammerIf 9 = .ok (.getfield 54, 3) := by decide +kernel
theorem dX10_ofHammerIf_12 : decode cX10_ofHammerIf 12 = .ok (.ifCond .le 5, 3) := by decide +kernel
theorem dX10_ofHammerIf_15 : decode cX10_ofHammerIf 15 = .ok (.iconst (-1), 1) := by decide +kernel
theorem dX10_ofHammerIf_16 : decode cX10_ofHammerIf 16 = .ok (.ireturn, 1) := by decide +kernel
theorem dX10_ofHammerIf_17 : decode cX10_ofHammerIf 17 = .ok (.iload 4, 2) := by decide +kernel
theorem dX10_ofHammerIf_19 : decode cX10_ofHammerIf 19 = .ok (.iconst (-1), 1) := by decide +kernel
theorem dX10_ofHammerIf_20 : decode cX10_ofHammerIf 20 = .ok (.if_icmp .ne 7, 3) := by decide +kernel
theorem dX10_ofHammerIf_23 : decode cX10_ofHammerIf 23 = .ok (.iconst 1, 1) := by decide +kernel
theorem dX10_ofHammerIf_24 : decode cX10_ofHammerIf 24 = .ok (.goto 4, 3) := by decide +kernel
theorem dX10_ofHammerIf_27 : decode cX10_ofHammerIf 27 = .ok (.iconst 0, 1) := by decide +kernel
theorem dX10_ofHammerIf_28 : decode cX10_ofHammerIf 28 = .ok (.iload_n 2, 1) := by decide +kernel
theorem dX10_ofHammerIf_29 : decode cX10_ofHammerIf 29 = .ok (.if_icmp .ne 17, 3) := by decide +kernel
theorem dX10_ofHammerIf_32 : decode cX10_ofHammerIf 32 = .ok (.aload_n 0, 1) := by decide +kernel
theorem dX10_ofHammerIf_33 : decode cX10_ofHammerIf 33 = .ok (.getfield 9, 3) := by decide +kernel
theorem dX10_ofHammerIf_36 : decode cX10_ofHammerIf 36 = .ok (.iload_n 1, 1) := by decide +kernel
theorem dX10_ofHammerIf_37 : decode cX10_ofHammerIf 37 = .ok (.invokestatic 68, 3) := by decide +kernel
theorem dX10_ofHammerIf_40 : decode cX10_ofHammerIf 40 = .ok (.iload_n 3, 1) := by decide +kernel
theorem dX10_ofHammerIf_41 : decode cX10_ofHammerIf 41 = .ok (.iadd, 1) := by decide +kernel
theorem dX10_ofHammerIf_42 : decode cX10_ofHammerIf 42 = .ok (.iaload, 1) := by decide +kernel
theorem dX10_ofHammerIf_43 : decode cX10_ofHammerIf 43 = .ok (.goto 8, 3) := by decide +kernel
theorem dX10_ofHammerIf_46 : decode cX10_ofHammerIf 46 = .ok (.aload_n 0, 1) := by decide +kernel
theorem dX10_ofHammerIf_47 : decode cX10_ofHammerIf 47 = .ok (.iconst 2, 1) := by decide +kernel
theorem dX10_ofHammerIf_48 : decode cX10_ofHammerIf 48 = .ok (.invokevirtual 120, 3) := by decide +kernel
theorem dX10_ofHammerIf_51 : decode cX10_ofHammerIf 51 = .ok (.ireturn, 1) := by decide +kernel
theorem dX10_borrower_0 : decode cX10_borrower 0 = .ok (.aload_n 0, 1) := by decide +kernel
theorem dX10_borrower_1 : decode cX10_borrower 1 = .ok (.iload_n 1, 1) := by decide +kernel
theorem dX10_borrower_2 : decode cX10_borrower 2 = .ok (.iconst 1, 1) := by decide +kernel
theorem dX10_borrower_3 : decode cX10_borrower 3 = .ok (.iconst 4, 1) := by decide +kernel
theorem dX10_borrower_4 : decode cX10_borrower 4 = .ok (.invokevirtual 216, 3) := by decide +kernel
theorem dX10_borrower_7 : decode cX10_borrower 7 = .ok (.ireturn, 1) := by decide +kernel
theorem dX10_dueDay_0 : decode cX10_dueDay 0 = .ok (.aload_n 0, 1) := by decide +kernel
theorem dX10_dueDay_1 : decode cX10_dueDay 1 = .ok (.iload_n 1, 1) := by decide +kernel
theorem dX10_dueDay_2 : decode cX10_dueDay 2 = .ok (.iconst 1, 1) := by decide +kernel
theorem dX10_dueDay_3 : decode cX10_dueDay 3 = .ok (.iconst 5, 1) := by decide +kernel
theorem dX10_dueDay_4 : decode cX10_dueDay 4 = .ok (.invokevirtual 216, 3) := by decide +kernel
theorem dX10_dueDay_7 : decode cX10_dueDay 7 = .ok (.ireturn, 1) := by decide +kernel
theorem dX10_rackOf_0 : decode cX10_rackOf 0 = .ok (.aload_n 0, 1) := by decide +kernel
theorem dX10_rackOf_1 : decode cX10_rackOf 1 = .ok (.iload_n 1, 1) := by decide +kernel
theorem dX10_rackOf_2 : decode cX10_rackOf 2 = .ok (.iconst 0, 1) := by decide +kernel
theorem dX10_rackOf_3 : decode cX10_rackOf 3 = .ok (.iconst 2, 1) := by decide +kernel
theorem dX10_rackOf_4 : decode cX10_rackOf 4 = .ok (.invokevirtual 216, 3) := by decide +kernel
theorem dX10_rackOf_7 : decode cX10_rackOf 7 = .ok (.ireturn, 1) := by decide +kernel
theorem dX10_placeOf_0 : decode cX10_placeOf 0 = .ok (.aload_n 0, 1) := by decide +kernel
theorem dX10_placeOf_1 : decode cX10_placeOf 1 = .ok (.iload_n 1, 1) := by decide +kernel
theorem dX10_placeOf_2 : decode cX10_placeOf 2 = .ok (.iconst 0, 1) := by decide +kernel
theorem dX10_placeOf_3 : decode cX10_placeOf 3 = .ok (.iconst 3, 1) := by decide +kernel
theorem dX10_placeOf_4 : decode cX10_placeOf 4 = .ok (.invokevirtual 216, 3) := by decide +kernel
theorem dX10_placeOf_7 : decode cX10_placeOf 7 = .ok (.ireturn, 1) := by decide +kernel
theorem dX10_hammerAt_0 : decode cX10_hammerAt 0 = .ok (.aload_n 0, 1) := by decide +kernel
theorem dX10_hammerAt_1 : decode cX10_hammerAt 1 = .ok (.iconst 0, 1) := by decide +kernel
theorem dX10_hammerAt_2 : decode cX10_hammerAt 2 = .ok (.putfield 54, 3) := by decide +kernel
theorem dX10_hammerAt_5 : decode cX10_hammerAt 5 = .ok (.iload_n 1, 1) := by decide +kernel
theorem dX10_hammerAt_6 : decode cX10_hammerAt 6 = .ok (.invokestatic 123, 3) := by decide +kernel
theorem dX10_hammerAt_9 : decode cX10_hammerAt 9 = .ok (.ifCond .eq 10, 3) := by decide +kernel
theorem dX10_hammerAt_12 : decode cX10_hammerAt 12 = .ok (.iload_n 2, 1) := by decide +kernel
theorem dX10_hammerAt_13 : decode cX10_hammerAt 13 = .ok (.invokestatic 144, 3) := by decide +kernel
theorem dX10_hammerAt_16 : decode cX10_hammerAt 16 = .ok (.ifCond .ne 9, 3) := by decide +kernel
theorem dX10_hammerAt_19 : decode cX10_hammerAt 19 = .ok (.aload_n 0, 1) := by decide +kernel
theorem dX10_hammerAt_20 : decode cX10_hammerAt 20 = .ok (.iconst 1, 1) := by decide +kernel
theorem dX10_hammerAt_21 : decode cX10_hammerAt 21 = .ok (.invokevirtual 120, 3) := by decide +kernel
theorem dX10_hammerAt_24 : decode cX10_hammerAt 24 = .ok (.ireturn, 1) := by decide +kernel
theorem dX10_hammerAt_25 : decode cX10_hammerAt 25 = .ok (.aload_n 0, 1) := by decide +kernel
theorem dX10_hammerAt_26 : decode cX10_hammerAt 26 = .ok (.iload_n 1, 1) := by decide +kernel
theorem dX10_hammerAt_27 : decode cX10_hammerAt 27 = .ok (.iload_n 2, 1) := by decide +kernel
theorem dX10_hammerAt_28 : decode cX10_hammerAt 28 = .ok (.invokevirtual 72, 3) := by decide +kernel
theorem dX10_hammerAt_31 : decode cX10_hammerAt 31 = .ok (.istore_n 3, 1) := by decide +kernel
theorem dX10_hammerAt_32 : decode cX10_hammerAt 32 = .ok (.iload_n 3, 1) := by decide +kernel
theorem dX10_hammerAt_33 : decode cX10_hammerAt 33 = .ok (.iconst (-1), 1) := by decide +kernel
theorem dX10_hammerAt_34 : decode cX10_hammerAt 34 = .ok (.if_icmp .ne 11, 3) := by decide +kernel
theorem dX10_hammerAt_37 : decode cX10_hammerAt 37 = .ok (.aload_n 0, 1) := by decide +kernel
theorem dX10_hammerAt_38 : decode cX10_hammerAt 38 = .ok (.iconst 2, 1) := by decide +kernel
theorem dX10_hammerAt_39 : decode cX10_hammerAt 39 = .ok (.invokevirtual 120, 3) := by decide +kernel
theorem dX10_hammerAt_42 : decode cX10_hammerAt 42 = .ok (.goto 4, 3) := by decide +kernel
theorem dX10_hammerAt_45 : decode cX10_hammerAt 45 = .ok (.iload_n 3, 1) := by decide +kernel
theorem dX10_hammerAt_46 : decode cX10_hammerAt 46 = .ok (.ireturn, 1) := by decide +kernel
theorem dX10_bookings_0 : decode cX10_bookings 0 = .ok (.aload_n 0, 1) := by decide +kernel
theorem dX10_bookings_1 : decode cX10_bookings 1 = .ok (.iconst 0, 1) := by decide +kernel
theorem dX10_bookings_2 : decode cX10_bookings 2 = .ok (.putfield 54, 3) := by decide +kernel
theorem dX10_bookings_5 : decode cX10_bookings 5 = .ok (.aload_n 0, 1) := by decide +kernel
theorem dX10_bookings_6 : decode cX10_bookings 6 = .ok (.iload_n 1, 1) := by decide +kernel
theorem dX10_bookings_7 : decode cX10_bookings 7 = .ok (.invokevirtual 138, 3) := by decide +kernel
theorem dX10_bookings_10 : decode cX10_bookings 10 = .ok (.ifCond .ne 9, 3) := by decide +kernel
theorem dX10_bookings_13 : decode cX10_bookings 13 = .ok (.aload_n 0, 1) := by decide +kernel
theorem dX10_bookings_14 : decode cX10_bookings 14 = .ok (.iconst 1, 1) := by decide +kernel
theorem dX10_bookings_15 : decode cX10_bookings 15 = .ok (.invokevirtual 120, 3) := by decide +kernel
theorem dX10_bookings_18 : decode cX10_bookings 18 = .ok (.ireturn, 1) := by decide +kernel
theorem dX10_bookings_19 : decode cX10_bookings 19 = .ok (.iconst 0, 1) := by decide +kernel
theorem dX10_bookings_20 : decode cX10_bookings 20 = .ok (.istore_n 2, 1) := by decide +kernel
theorem dX10_bookings_21 : decode cX10_bookings 21 = .ok (.iconst 0, 1) := by decide +kernel
theorem dX10_bookings_22 : decode cX10_bookings 22 = .ok (.istore_n 3, 1) := by decide +kernel
theorem dX10_bookings_23 : decode cX10_bookings 23 = .ok (.iload_n 3, 1) := by decide +kernel
theorem dX10_bookings_24 : decode cX10_bookings 24 = .ok (.aload_n 0, 1) := by decide +kernel
theorem dX10_bookings_25 : decode cX10_bookings 25 = .ok (.getfield 9, 3) := by decide +kernel
theorem dX10_bookings_28 : decode cX10_bookings 28 = .ok (.iconst 5, 1) := by decide +kernel
theorem dX10_bookings_29 : decode cX10_bookings 29 = .ok (.iaload, 1) := by decide +kernel
theorem dX10_bookings_30 : decode cX10_bookings 30 = .ok (.if_icmp .ge 30, 3) := by decide +kernel
theorem dX10_bookings_33 : decode cX10_bookings 33 = .ok (.iload_n 2, 1) := by decide +kernel
theorem dX10_bookings_34 : decode cX10_bookings 34 = .ok (.aload_n 0, 1) := by decide +kernel
theorem dX10_bookings_35 : decode cX10_bookings 35 = .ok (.getfield 9, 3) := by decide +kernel
theorem dX10_bookings_38 : decode cX10_bookings 38 = .ok (.iload_n 3, 1) := by decide +kernel
theorem dX10_bookings_39 : decode cX10_bookings 39 = .ok (.invokestatic 86, 3) := by decide +kernel
theorem dX10_bookings_42 : decode cX10_bookings 42 = .ok (.iaload, 1) := by decide +kernel
theorem dX10_bookings_43 : decode cX10_bookings 43 = .ok (.iload_n 1, 1) := by decide +kernel
theorem dX10_bookings_44 : decode cX10_bookings 44 = .ok (.if_icmp .ne 7, 3) := by decide +kernel
theorem dX10_bookings_47 : decode cX10_bookings 47 = .ok (.iconst 1, 1) := by decide +kernel
theorem dX10_bookings_48 : decode cX10_bookings 48 = .ok (.goto 4, 3) := by decide +kernel
theorem dX10_bookings_51 : decode cX10_bookings 51 = .ok (.iconst 0, 1) := by decide +kernel
theorem dX10_bookings_52 : decode cX10_bookings 52 = .ok (.iadd, 1) := by decide +kernel
theorem dX10_bookings_53 : decode cX10_bookings 53 = .ok (.istore_n 2, 1) := by decide +kernel
theorem dX10_bookings_54 : decode cX10_bookings 54 = .ok (.iinc 3 1, 3) := by decide +kernel
theorem dX10_bookings_57 : decode cX10_bookings 57 = .ok (.goto (-34), 3) := by decide +kernel
theorem dX10_bookings_60 : decode cX10_bookings 60 = .ok (.iload_n 2, 1) := by decide +kernel
theorem dX10_bookings_61 : decode cX10_bookings 61 = .ok (.ireturn, 1) := by decide +kernel
theorem dX10_isBooked_0 : decode cX10_isBooked 0 = .ok (.aload_n 0, 1) := by decide +kernel
theorem dX10_isBooked_1 : decode cX10_isBooked 1 = .ok (.iconst 0, 1) := by decide +kernel
theorem dX10_isBooked_2 : decode cX10_isBooked 2 = .ok (.putfield 54, 3) := by decide +kernel
theorem dX10_isBooked_5 : decode cX10_isBooked 5 = .ok (.aload_n 0, 1) := by decide +kernel
theorem dX10_isBooked_6 : decode cX10_isBooked 6 = .ok (.iload_n 1, 1) := by decide +kernel
theorem dX10_isBooked_7 : decode cX10_isBooked 7 = .ok (.invokevirtual 138, 3) := by decide +kernel
theorem dX10_isBooked_10 : decode cX10_isBooked 10 = .ok (.ifCond .ne 11, 3) := by decide +kernel
theorem dX10_isBooked_13 : decode cX10_isBooked 13 = .ok (.aload_n 0, 1) := by decide +kernel
theorem dX10_isBooked_14 : decode cX10_isBooked 14 = .ok (.iconst 1, 1) := by decide +kernel
theorem dX10_isBooked_15 : decode cX10_isBooked 15 = .ok (.invokevirtual 120, 3) := by decide +kernel
theorem dX10_isBooked_18 : decode cX10_isBooked 18 = .ok (.pop, 1) := by decide +kernel
theorem dX10_isBooked_19 : decode cX10_isBooked 19 = .ok (.iconst 0, 1) := by decide +kernel
theorem dX10_isBooked_20 : decode cX10_isBooked 20 = .ok (.ireturn, 1) := by decide +kernel
theorem dX10_isBooked_21 : decode cX10_isBooked 21 = .ok (.aload_n 0, 1) := by decide +kernel
theorem dX10_isBooked_22 : decode cX10_isBooked 22 = .ok (.iload_n 1, 1) := by decide +kernel
theorem dX10_isBooked_23 : decode cX10_isBooked 23 = .ok (.iload_n 2, 1) := by decide +kernel
theorem dX10_isBooked_24 : decode cX10_isBooked 24 = .ok (.iload_n 2, 1) := by decide +kernel
theorem dX10_isBooked_25 : decode cX10_isBooked 25 = .ok (.invokevirtual 94, 3) := by decide +kernel
theorem dX10_isBooked_28 : decode cX10_isBooked 28 = .ok (.ifCond .ne 7, 3) := by decide +kernel
theorem dX10_isBooked_31 : decode cX10_isBooked 31 = .ok (.iconst 1, 1) := by decide +kernel
theorem dX10_isBooked_32 : decode cX10_isBooked 32 = .ok (.goto 4, 3) := by decide +kernel
theorem dX10_isBooked_35 : decode cX10_isBooked 35 = .ok (.iconst 0, 1) := by decide +kernel
theorem dX10_isBooked_36 : decode cX10_isBooked 36 = .ok (.ireturn, 1) := by decide +kernel
theorem dX10_requestCount_0 : decode cX10_requestCount 0 = .ok (.aload_n 0, 1) := by decide +kernel
theorem dX10_requestCount_1 : decode cX10_requestCount 1 = .ok (.iconst 4, 1) := by decide +kernel
theorem dX10_requestCount_2 : decode cX10_requestCount 2 = .ok (.invokevirtual 210, 3) := by decide +kernel
theorem dX10_requestCount_5 : decode cX10_requestCount 5 = .ok (.ireturn, 1) := by decide +kernel
theorem dX10_requestAt_0 : decode cX10_requestAt 0 = .ok (.aload_n 0, 1) := by decide +kernel
theorem dX10_requestAt_1 : decode cX10_requestAt 1 = .ok (.iconst 0, 1) := by decide +kernel
theorem dX10_requestAt_2 : decode cX10_requestAt 2 = .ok (.putfield 54, 3) := by decide +kernel
theorem dX10_requestAt_5 : decode cX10_requestAt 5 = .ok (.iload_n 1, 1) := by decide +kernel
theorem dX10_requestAt_6 : decode cX10_requestAt 6 = .ok (.i2l, 1) := by decide +kernel
theorem dX10_requestAt_7 : decode cX10_requestAt 7 = .ok (.lconst 0, 1) := by decide +kernel
theorem dX10_requestAt_8 : decode cX10_requestAt 8 = .ok (.aload_n 0, 1) := by decide +kernel
theorem dX10_requestAt_9 : decode cX10_requestAt 9 = .ok (.getfield 9, 3) := by decide +kernel
theorem dX10_requestAt_12 : decode cX10_requestAt 12 = .ok (.iconst 4, 1) := by decide +kernel
theorem dX10_requestAt_13 : decode cX10_requestAt 13 = .ok (.iaload, 1) := by decide +kernel
theorem dX10_requestAt_14 : decode cX10_requestAt 14 = .ok (.iconst 1, 1) := by decide +kernel
theorem dX10_requestAt_15 : decode cX10_requestAt 15 = .ok (.isub, 1) := by decide +kernel
theorem dX10_requestAt_16 : decode cX10_requestAt 16 = .ok (.i2l, 1) := by decide +kernel
theorem dX10_requestAt_17 : decode cX10_requestAt 17 = .ok (.invokestatic 60, 3) := by decide +kernel
theorem dX10_requestAt_20 : decode cX10_requestAt 20 = .ok (.ifCond .eq 15, 3) := by decide +kernel
theorem dX10_requestAt_23 : decode cX10_requestAt 23 = .ok (.aload_n 0, 1) := by decide +kernel
theorem dX10_requestAt_24 : decode cX10_requestAt 24 = .ok (.getfield 9, 3) := by decide +kernel
theorem dX10_requestAt_27 : decode cX10_requestAt 27 = .ok (.iload_n 1, 1) := by decide +kernel
theorem dX10_requestAt_28 : decode cX10_requestAt 28 = .ok (.invokestatic 83, 3) := by decide +kernel
theorem dX10_requestAt_31 : decode cX10_requestAt 31 = .ok (.iaload, 1) := by decide +kernel
theorem dX10_requestAt_32 : decode cX10_requestAt 32 = .ok (.goto 8, 3) := by decide +kernel
theorem dX10_requestAt_35 : decode cX10_requestAt 35 = .ok (.aload_n 0, 1) := by decide +kernel
theorem dX10_requestAt_36 : decode cX10_requestAt 36 = .ok (.iconst 1, 1) := by decide +kernel
theorem dX10_requestAt_37 : decode cX10_requestAt 37 = .ok (.invokevirtual 120, 3) := by decide +kernel
theorem dX10_requestAt_40 : decode cX10_requestAt 40 = .ok (.ireturn, 1) := by decide +kernel
theorem dX10_fits_0 : decode cX10_fits 0 = .ok (.aload_n 0, 1) := by decide +kernel
theorem dX10_fits_1 : decode cX10_fits 1 = .ok (.iconst 0, 1) := by decide +kernel
theorem dX10_fits_2 : decode cX10_fits 2 = .ok (.putfield 54, 3) := by decide +kernel
theorem dX10_fits_5 : decode cX10_fits 5 = .ok (.aload_n 0, 1) := by decide +kernel
theorem dX10_fits_6 : decode cX10_fits 6 = .ok (.iload_n 1, 1) := by decide +kernel
theorem dX10_fits_7 : decode cX10_fits 7 = .ok (.invokevirtual 162, 3) := by decide +kernel
theorem dX10_fits_10 : decode cX10_fits 10 = .ok (.iconst (-1), 1) := by decide +kernel
theorem dX10_fits_11 : decode cX10_fits 11 = .ok (.if_icmp .ne 12, 3) := by decide +kernel
theorem dX10_fits_14 : decode cX10_fits 14 = .ok (.aload_n 0, 1) := by decide +kernel
theorem dX10_fits_15 : decode cX10_fits 15 = .ok (.iconst 1, 1) := by decide +kernel
theorem dX10_fits_16 : decode cX10_fits 16 = .ok (.invokevirtual 120, 3) := by decide +kernel
theorem dX10_fits_19 : decode cX10_fits 19 = .ok (.pop, 1) := by decide +kernel
theorem dX10_fits_20 : decode cX10_fits 20 = .ok (.goto 17, 3) := by decide +kernel
theorem dX10_fits_23 : decode cX10_fits 23 = .ok (.aload_n 0, 1) := by decide +kernel
theorem dX10_fits_24 : decode cX10_fits 24 = .ok (.iload_n 2, 1) := by decide +kernel
theorem dX10_fits_25 : decode cX10_fits 25 = .ok (.invokevirtual 138, 3) := by decide +kernel
theorem dX10_fits_28 : decode cX10_fits 28 = .ok (.ifCond .ne 9, 3) := by decide +kernel
theorem dX10_fits_31 : decode cX10_fits 31 = .ok (.aload_n 0, 1) := by decide +kernel
theorem dX10_fits_32 : decode cX10_fits 32 = .ok (.iconst 2, 1) := by decide +kernel
theorem dX10_fits_33 : decode cX10_fits 33 = .ok (.invokevirtual 120, 3) := by decide +kernel
theorem dX10_fits_36 : decode cX10_fits 36 = .ok (.pop, 1) := by decide +kernel
theorem dX10_fits_37 : decode cX10_fits 37 = .ok (.aload_n 0, 1) := by decide +kernel
theorem dX10_fits_38 : decode cX10_fits 38 = .ok (.getfield 54, 3) := by decide +kernel
theorem dX10_fits_41 : decode cX10_fits 41 = .ok (.ifCond .ne 20, 3) := by decide +kernel
theorem dX10_fits_44 : decode cX10_fits 44 = .ok (.aload_n 0, 1) := by decide +kernel
theorem dX10_fits_45 : decode cX10_fits 45 = .ok (.aload_n 0, 1) := by decide +kernel
theorem dX10_fits_46 : decode cX10_fits 46 = .ok (.iload_n 1, 1) := by decide +kernel
theorem dX10_fits_47 : decode cX10_fits 47 = .ok (.invokevirtual 162, 3) := by decide +kernel
theorem dX10_fits_50 : decode cX10_fits 50 = .ok (.iload_n 2, 1) := by decide +kernel
theorem dX10_fits_51 : decode cX10_fits 51 = .ok (.invokevirtual 98, 3) := by decide +kernel
theorem dX10_fits_54 : decode cX10_fits 54 = .ok (.ifCond .eq 7, 3) := by decide +kernel
theorem dX10_fits_57 : decode cX10_fits 57 = .ok (.iconst 1, 1) := by decide +kernel
theorem dX10_fits_58 : decode cX10_fits 58 = .ok (.goto 4, 3) := by decide +kernel
theorem dX10_fits_61 : decode cX10_fits 61 = .ok (.iconst 0, 1) := by decide +kernel
theorem dX10_fits_62 : decode cX10_fits 62 = .ok (.ireturn, 1) := by decide +kernel
theorem dX10_bestHammer_0 : decode cX10_bestHammer 0 = .ok (.aload_n 0, 1) := by decide +kernel
theorem dX10_bestHammer_1 : decode cX10_bestHammer 1 = .ok (.iconst 0, 1) := by decide +kernel
theorem dX10_bestHammer_2 : decode cX10_bestHammer 2 = .ok (.putfield 54, 3) := by decide +kernel
theorem dX10_bestHammer_5 : decode cX10_bestHammer 5 = .ok (.aload_n 0, 1) := by decide +kernel
theorem dX10_bestHammer_6 : decode cX10_bestHammer 6 = .ok (.iload_n 1, 1) := by decide +kernel
theorem dX10_bestHammer_7 : decode cX10_bestHammer 7 = .ok (.invokevirtual 162, 3) := by decide +kernel
theorem dX10_bestHammer_10 : decode cX10_bestHammer 10 = .ok (.istore_n 2, 1) := by decide +kernel
theorem dX10_bestHammer_11 : decode cX10_bestHammer 11 = .ok (.iload_n 2, 1) := by decide +kernel
theorem dX10_bestHammer_12 : decode cX10_bestHammer 12 = .ok (.iconst (-1), 1) := by decide +kernel
theorem dX10_bestHammer_13 : decode cX10_bestHammer 13 = .ok (.if_icmp .ne 7, 3) := by decide +kernel
theorem dX10_bestHammer_16 : decode cX10_bestHammer 16 = .ok (.iconst (-1), 1) := by decide +kernel
theorem dX10_bestHammer_17 : decode cX10_bestHammer 17 = .ok (.goto 8, 3) := by decide +kernel
theorem dX10_bestHammer_20 : decode cX10_bestHammer 20 = .ok (.aload_n 0, 1) := by decide +kernel
theorem dX10_bestHammer_21 : decode cX10_bestHammer 21 = .ok (.iload_n 2, 1) := by decide +kernel
theorem dX10_bestHammer_22 : decode cX10_bestHammer 22 = .ok (.invokevirtual 168, 3) := by decide +kernel
theorem dX10_bestHammer_25 : decode cX10_bestHammer 25 = .ok (.istore_n 3, 1) := by decide +kernel
theorem dX10_bestHammer_26 : decode cX10_bestHammer 26 = .ok (.iload_n 3, 1) := by decide +kernel
theorem dX10_bestHammer_27 : decode cX10_bestHammer 27 = .ok (.iconst (-1), 1) := by decide +kernel
theorem dX10_bestHammer_28 : decode cX10_bestHammer 28 = .ok (.if_icmp .ne 11, 3) := by decide +kernel
theorem dX10_bestHammer_31 : decode cX10_bestHammer 31 = .ok (.aload_n 0, 1) := by decide +kernel
theorem dX10_bestHammer_32 : decode cX10_bestHammer 32 = .ok (.iconst 1, 1) := by decide +kernel
theorem dX10_bestHammer_33 : decode cX10_bestHammer 33 = .ok (.invokevirtual 120, 3) := by decide +kernel
theorem dX10_bestHammer_36 : decode cX10_bestHammer 36 = .ok (.goto 4, 3) := by decide +kernel
theorem dX10_bestHammer_39 : decode cX10_bestHammer 39 = .ok (.iload_n 3, 1) := by decide +kernel
theorem dX10_bestHammer_40 : decode cX10_bestHammer 40 = .ok (.ireturn, 1) := by decide +kernel
theorem dX10_mostGrants_0 : decode cX10_mostGrants 0 = .ok (.aload_n 0, 1) := by decide +kernel
theorem dX10_mostGrants_1 : decode cX10_mostGrants 1 = .ok (.iconst 0, 1) := by decide +kernel
theorem dX10_mostGrants_2 : decode cX10_mostGrants 2 = .ok (.putfield 54, 3) := by decide +kernel
theorem dX10_mostGrants_5 : decode cX10_mostGrants 5 = .ok (.aload_n 0, 1) := by decide +kernel
theorem dX10_mostGrants_6 : decode cX10_mostGrants 6 = .ok (.invokevirtual 178, 3) := by decide +kernel
theorem dX10_mostGrants_9 : decode cX10_mostGrants 9 = .ok (.ireturn, 1) := by decide +kernel
theorem dX10_mostGrantsBySets_0 : decode cX10_mostGrantsBySets 0 = .ok (.aload_n 0, 1) := by decide +kernel
theorem dX10_mostGrantsBySets_1 : decode cX10_mostGrantsBySets 1 = .ok (.invokevirtual 220, 3) := by decide +kernel
theorem dX10_mostGrantsBySets_4 : decode cX10_mostGrantsBySets 4 = .ok (.ireturn, 1) := by decide +kernel
theorem dX10_loud_0 : decode cX10_loud 0 = .ok (.iload_n 1, 1) := by decide +kernel
theorem dX10_loud_1 : decode cX10_loud 1 = .ok (.iload_n 0, 1) := by decide +kernel
theorem dX10_loud_2 : decode cX10_loud 2 = .ok (.isub, 1) := by decide +kernel
theorem dX10_loud_3 : decode cX10_loud 3 = .ok (.istore_n 2, 1) := by decide +kernel
theorem dX10_loud_4 : decode cX10_loud 4 = .ok (.iload_n 2, 1) := by decide +kernel
theorem dX10_loud_5 : decode cX10_loud 5 = .ok (.ifCond .ne 8, 3) := by decide +kernel
theorem dX10_loud_8 : decode cX10_loud 8 = .ok (.bipush 8, 2) := by decide +kernel
theorem dX10_loud_10 : decode cX10_loud 10 = .ok (.goto 34, 3) := by decide +kernel
theorem dX10_loud_13 : decode cX10_loud 13 = .ok (.iload_n 2, 1) := by decide +kernel
theorem dX10_loud_14 : decode cX10_loud 14 = .ok (.bipush 12, 2) := by decide +kernel
theorem dX10_loud_16 : decode cX10_loud 16 = .ok (.if_icmp .ne 7, 3) := by decide +kernel
theorem dX10_loud_19 : decode cX10_loud 19 = .ok (.iconst 4, 1) := by decide +kernel
theorem dX10_loud_20 : decode cX10_loud 20 = .ok (.goto 24, 3) := by decide +kernel
theorem dX10_loud_23 : decode cX10_loud 23 = .ok (.iload_n 2, 1) := by decide +kernel
theorem dX10_loud_24 : decode cX10_loud 24 = .ok (.bipush 19, 2) := by decide +kernel
theorem dX10_loud_26 : decode cX10_loud 26 = .ok (.if_icmp .ne 7, 3) := by decide +kernel
theorem dX10_loud_29 : decode cX10_loud 29 = .ok (.iconst 2, 1) := by decide +kernel
theorem dX10_loud_30 : decode cX10_loud 30 = .ok (.goto 14, 3) := by decide +kernel
theorem dX10_loud_33 : decode cX10_loud 33 = .ok (.iload_n 2, 1) := by decide +kernel
theorem dX10_loud_34 : decode cX10_loud 34 = .ok (.bipush 24, 2) := by decide +kernel
theorem dX10_loud_36 : decode cX10_loud 36 = .ok (.if_icmp .ne 7, 3) := by decide +kernel
theorem dX10_loud_39 : decode cX10_loud 39 = .ok (.iconst 1, 1) := by decide +kernel
theorem dX10_loud_40 : decode cX10_loud 40 = .ok (.goto 4, 3) := by decide +kernel
theorem dX10_loud_43 : decode cX10_loud 43 = .ok (.iconst 0, 1) := by decide +kernel
theorem dX10_loud_44 : decode cX10_loud 44 = .ok (.ireturn, 1) := by decide +kernel
theorem dX10_loudIn_0 : decode cX10_loudIn 0 = .ok (.iconst 0, 1) := by decide +kernel
theorem dX10_loudIn_1 : decode cX10_loudIn 1 = .ok (.istore_n 3, 1) := by decide +kernel
theorem dX10_loudIn_2 : decode cX10_loudIn 2 = .ok (.iconst 0, 1) := by decide +kernel
theorem dX10_loudIn_3 : decode cX10_loudIn 3 = .ok (.istore 4, 2) := by decide +kernel
theorem dX10_loudIn_5 : decode cX10_loudIn 5 = .ok (.iload 4, 2) := by decide +kernel
theorem dX10_loudIn_7 : decode cX10_loudIn 7 = .ok (.aload_n 0, 1) := by decide +kernel
theorem dX10_loudIn_8 : decode cX10_loudIn 8 = .ok (.getfield 9, 3) := by decide +kernel
theorem dX10_loudIn_11 : decode cX10_loudIn 11 = .ok (.iconst 0, 1) := by decide +kernel
theorem dX10_loudIn_12 : decode cX10_loudIn 12 = .ok (.iaload, 1) := by decide +kernel
theorem dX10_loudIn_13 : decode cX10_loudIn 13 = .ok (.if_icmp .ge 46, 3) := by decide +kernel
theorem dX10_loudIn_16 : decode cX10_loudIn 16 = .ok (.iload_n 3, 1) := by decide +kernel
theorem dX10_loudIn_17 : decode cX10_loudIn 17 = .ok (.aload_n 0, 1) := by decide +kernel
theorem dX10_loudIn_18 : decode cX10_loudIn 18 = .ok (.getfield 9, 3) := by decide +kernel
theorem dX10_loudIn_21 : decode cX10_loudIn 21 = .ok (.iload 4, 2) := by decide +kernel
theorem dX10_loudIn_23 : decode cX10_loudIn 23 = .ok (.invokestatic 68, 3) := by decide +kernel
theorem dX10_loudIn_26 : decode cX10_loudIn 26 = .ok (.iconst 2, 1) := by decide +kernel
theorem dX10_loudIn_27 : decode cX10_loudIn 27 = .ok (.iadd, 1) := by decide +kernel
theorem dX10_loudIn_28 : decode cX10_loudIn 28 = .ok (.iaload, 1) := by decide +kernel
theorem dX10_loudIn_29 : decode cX10_loudIn 29 = .ok (.iload_n 1, 1) := by decide +kernel
theorem dX10_loudIn_30 : decode cX10_loudIn 30 = .ok (.if_icmp .ne 20, 3) := by decide +kernel
theorem dX10_loudIn_33 : decode cX10_loudIn 33 = .ok (.aload_n 0, 1) := by decide +kernel
theorem dX10_loudIn_34 : decode cX10_loudIn 34 = .ok (.getfield 9, 3) := by decide +kernel
theorem dX10_loudIn_37 : decode cX10_loudIn 37 = .ok (.iload 4, 2) := by decide +kernel
theorem dX10_loudIn_39 : decode cX10_loudIn 39 = .ok (.invokestatic 68, 3) := by decide +kernel
theorem dX10_loudIn_42 : decode cX10_loudIn 42 = .ok (.iaload, 1) := by decide +kernel
theorem dX10_loudIn_43 : decode cX10_loudIn 43 = .ok (.iload_n 2, 1) := by decide +kernel
theorem dX10_loudIn_44 : decode cX10_loudIn 44 = .ok (.invokestatic 223, 3) := by decide +kernel
theorem dX10_loudIn_47 : decode cX10_loudIn 47 = .ok (.goto 4, 3) := by decide +kernel
theorem dX10_loudIn_50 : decode cX10_loudIn 50 = .ok (.iconst 0, 1) := by decide +kernel
theorem dX10_loudIn_51 : decode cX10_loudIn 51 = .ok (.iadd, 1) := by decide +kernel
theorem dX10_loudIn_52 : decode cX10_loudIn 52 = .ok (.istore_n 3, 1) := by decide +kernel
theorem dX10_loudIn_53 : decode cX10_loudIn 53 = .ok (.iinc 4 1, 3) := by decide +kernel
theorem dX10_loudIn_56 : decode cX10_loudIn 56 = .ok (.goto (-51), 3) := by decide +kernel
theorem dX10_loudIn_59 : decode cX10_loudIn 59 = .ok (.iload_n 3, 1) := by decide +kernel
theorem dX10_loudIn_60 : decode cX10_loudIn 60 = .ok (.ireturn, 1) := by decide +kernel
theorem dX10_loudness_0 : decode cX10_loudness 0 = .ok (.aload_n 0, 1) := by decide +kernel
theorem dX10_loudness_1 : decode cX10_loudness 1 = .ok (.iconst 0, 1) := by decide +kernel
theorem dX10_loudness_2 : decode cX10_loudness 2 = .ok (.putfield 54, 3) := by decide +kernel
theorem dX10_loudness_5 : decode cX10_loudness 5 = .ok (.iload_n 1, 1) := by decide +kernel
theorem dX10_loudness_6 : decode cX10_loudness 6 = .ok (.invokestatic 123, 3) := by decide +kernel
theorem dX10_loudness_9 : decode cX10_loudness 9 = .ok (.ifCond .ne 11, 3) := by decide +kernel
theorem dX10_loudness_12 : decode cX10_loudness 12 = .ok (.aload_n 0, 1) := by decide +kernel
theorem dX10_loudness_13 : decode cX10_loudness 13 = .ok (.iconst 1, 1) := by decide +kernel
theorem dX10_loudness_14 : decode cX10_loudness 14 = .ok (.invokevirtual 120, 3) := by decide +kernel
theorem dX10_loudness_17 : decode cX10_loudness 17 = .ok (.goto 25, 3) := by decide +kernel
theorem dX10_loudness_20 : decode cX10_loudness 20 = .ok (.iload_n 2, 1) := by decide +kernel
theorem dX10_loudness_21 : decode cX10_loudness 21 = .ok (.i2l, 1) := by decide +kernel
theorem dX10_loudness_22 : decode cX10_loudness 22 = .ok (.lconst 0, 1) := by decide +kernel
theorem dX10_loudness_23 : decode cX10_loudness 23 = .ok (.ldc2_w 226, 3) := by decide +kernel
theorem dX10_loudness_26 : decode cX10_loudness 26 = .ok (.invokestatic 60, 3) := by decide +kernel
theorem dX10_loudness_29 : decode cX10_loudness 29 = .ok (.ifCond .eq 12, 3) := by decide +kernel
theorem dX10_loudness_32 : decode cX10_loudness 32 = .ok (.aload_n 0, 1) := by decide +kernel
theorem dX10_loudness_33 : decode cX10_loudness 33 = .ok (.iload_n 1, 1) := by decide +kernel
theorem dX10_loudness_34 : decode cX10_loudness 34 = .ok (.iload_n 2, 1) := by decide +kernel
theorem dX10_loudness_35 : decode cX10_loudness 35 = .ok (.invokevirtual 228, 3) := by decide +kernel
theorem dX10_loudness_38 : decode cX10_loudness 38 = .ok (.goto 4, 3) := by decide +kernel
theorem dX10_loudness_41 : decode cX10_loudness 41 = .ok (.iconst 0, 1) := by decide +kernel
theorem dX10_loudness_42 : decode cX10_loudness 42 = .ok (.ireturn, 1) := by decide +kernel
theorem dX10_loudestPitch_0 : decode cX10_loudestPitch 0 = .ok (.aload_n 0, 1) := by decide +kernel
theorem dX10_loudestPitch_1 : decode cX10_loudestPitch 1 = .ok (.iconst 0, 1) := by decide +kernel
theorem dX10_loudestPitch_2 : decode cX10_loudestPitch 2 = .ok (.putfield 54, 3) := by decide +kernel
theorem dX10_loudestPitch_5 : decode cX10_loudestPitch 5 = .ok (.iload_n 1, 1) := by decide +kernel
theorem dX10_loudestPitch_6 : decode cX10_loudestPitch 6 = .ok (.invokestatic 123, 3) := by decide +kernel
theorem dX10_loudestPitch_9 : decode cX10_loudestPitch 9 = .ok (.ifCond .ne 9, 3) := by decide +kernel
theorem dX10_loudestPitch_12 : decode cX10_loudestPitch 12 = .ok (.aload_n 0, 1) := by decide +kernel
theorem dX10_loudestPitch_13 : decode cX10_loudestPitch 13 = .ok (.iconst 1, 1) := by decide +kernel
theorem dX10_loudestPitch_14 : decode cX10_loudestPitch 14 = .ok (.invokevirtual 120, 3) := by decide +kernel
theorem dX10_loudestPitch_17 : decode cX10_loudestPitch 17 = .ok (.ireturn, 1) := by decide +kernel
theorem dX10_loudestPitch_18 : decode cX10_loudestPitch 18 = .ok (.aload_n 0, 1) := by decide +kernel
theorem dX10_loudestPitch_19 : decode cX10_loudestPitch 19 = .ok (.iload_n 1, 1) := by decide +kernel
theorem dX10_loudestPitch_20 : decode cX10_loudestPitch 20 = .ok (.invokevirtual 231, 3) := by decide +kernel
theorem dX10_loudestPitch_23 : decode cX10_loudestPitch 23 = .ok (.ifCond .ne 9, 3) := by decide +kernel
theorem dX10_loudestPitch_26 : decode cX10_loudestPitch 26 = .ok (.aload_n 0, 1) := by decide +kernel
theorem dX10_loudestPitch_27 : decode cX10_loudestPitch 27 = .ok (.iconst 2, 1) := by decide +kernel
theorem dX10_loudestPitch_28 : decode cX10_loudestPitch 28 = .ok (.invokevirtual 120, 3) := by decide +kernel
theorem dX10_loudestPitch_31 : decode cX10_loudestPitch 31 = .ok (.ireturn, 1) := by decide +kernel
theorem dX10_loudestPitch_32 : decode cX10_loudestPitch 32 = .ok (.iconst 0, 1) := by decide +kernel
theorem dX10_loudestPitch_33 : decode cX10_loudestPitch 33 = .ok (.istore_n 2, 1) := by decide +kernel
theorem dX10_loudestPitch_34 : decode cX10_loudestPitch 34 = .ok (.iconst 1, 1) := by decide +kernel
theorem dX10_loudestPitch_35 : decode cX10_loudestPitch 35 = .ok (.istore_n 3, 1) := by decide +kernel
theorem dX10_loudestPitch_36 : decode cX10_loudestPitch 36 = .ok (.iload_n 3, 1) := by decide +kernel
theorem dX10_loudestPitch_37 : decode cX10_loudestPitch 37 = .ok (.bipush 84, 2) := by decide +kernel
theorem dX10_loudestPitch_39 : decode cX10_loudestPitch 39 = .ok (.if_icmp .gt 30, 3) := by decide +kernel
theorem dX10_loudestPitch_42 : decode cX10_loudestPitch 42 = .ok (.aload_n 0, 1) := by decide +kernel
theorem dX10_loudestPitch_43 : decode cX10_loudestPitch 43 = .ok (.iload_n 1, 1) := by decide +kernel
theorem dX10_loudestPitch_44 : decode cX10_loudestPitch 44 = .ok (.iload_n 3, 1) := by decide +kernel
theorem dX10_loudestPitch_45 : decode cX10_loudestPitch 45 = .ok (.invokevirtual 228, 3) := by decide +kernel
theorem dX10_loudestPitch_48 : decode cX10_loudestPitch 48 = .ok (.aload_n 0, 1) := by decide +kernel
theorem dX10_loudestPitch_49 : decode cX10_loudestPitch 49 = .ok (.iload_n 1, 1) := by decide +kernel
theorem dX10_loudestPitch_50 : decode cX10_loudestPitch 50 = .ok (.iload_n 2, 1) := by decide +kernel
theorem dX10_loudestPitch_51 : decode cX10_loudestPitch 51 = .ok (.invokevirtual 228, 3) := by decide +kernel
theorem dX10_loudestPitch_54 : decode cX10_loudestPitch 54 = .ok (.if_icmp .le 7, 3) := by decide +kernel
theorem dX10_loudestPitch_57 : decode cX10_loudestPitch 57 = .ok (.iload_n 3, 1) := by decide +kernel
theorem dX10_loudestPitch_58 : decode cX10_loudestPitch 58 = .ok (.goto 4, 3) := by decide +kernel
theorem dX10_loudestPitch_61 : decode cX10_loudestPitch 61 = .ok (.iload_n 2, 1) := by decide +kernel
theorem dX10_loudestPitch_62 : decode cX10_loudestPitch 62 = .ok (.istore_n 2, 1) := by decide +kernel
theorem dX10_loudestPitch_63 : decode cX10_loudestPitch 63 = .ok (.iinc 3 1, 3) := by decide +kernel
theorem dX10_loudestPitch_66 : decode cX10_loudestPitch 66 = .ok (.goto (-30), 3) := by decide +kernel
theorem dX10_loudestPitch_69 : decode cX10_loudestPitch 69 = .ok (.iload_n 2, 1) := by decide +kernel
theorem dX10_loudestPitch_70 : decode cX10_loudestPitch 70 = .ok (.ireturn, 1) := by decide +kernel
theorem dX10_sound_0 : decode cX10_sound 0 = .ok (.iconst 0, 1) := by decide +kernel
theorem dX10_sound_1 : decode cX10_sound 1 = .ok (.istore_n 3, 1) := by decide +kernel
theorem dX10_sound_2 : decode cX10_sound 2 = .ok (.iconst 0, 1) := by decide +kernel
theorem dX10_sound_3 : decode cX10_sound 3 = .ok (.istore 4, 2) := by decide +kernel
theorem dX10_sound_5 : decode cX10_sound 5 = .ok (.iload 4, 2) := by decide +kernel
theorem dX10_sound_7 : decode cX10_sound 7 = .ok (.bipush 84, 2) := by decide +kernel
theorem dX10_sound_9 : decode cX10_sound 9 = .ok (.if_icmp .gt 43, 3) := by decide +kernel
theorem dX10_sound_12 : decode cX10_sound 12 = .ok (.iload_n 3, 1) := by decide +kernel
theorem dX10_sound_13 : decode cX10_sound 13 = .ok (.aload_n 0, 1) := by decide +kernel
theorem dX10_sound_14 : decode cX10_sound 14 = .ok (.getfield 9, 3) := by decide +kernel
theorem dX10_sound_17 : decode cX10_sound 17 = .ok (.iload_n 1, 1) := by decide +kernel
theorem dX10_sound_18 : decode cX10_sound 18 = .ok (.invokestatic 68, 3) := by decide +kernel
theorem dX10_sound_21 : decode cX10_sound 21 = .ok (.iaload, 1) := by decide +kernel
theorem dX10_sound_22 : decode cX10_sound 22 = .ok (.iload 4, 2) := by decide +kernel
theorem dX10_sound_24 : decode cX10_sound 24 = .ok (.invokestatic 223, 3) := by decide +kernel
theorem dX10_sound_27 : decode cX10_sound 27 = .ok (.aload_n 0, 1) := by decide +kernel
theorem dX10_sound_28 : decode cX10_sound 28 = .ok (.getfield 9, 3) := by decide +kernel
theorem dX10_sound_31 : decode cX10_sound 31 = .ok (.iload_n 2, 1) := by decide +kernel
theorem dX10_sound_32 : decode cX10_sound 32 = .ok (.invokestatic 68, 3) := by decide +kernel
theorem dX10_sound_35 : decode cX10_sound 35 = .ok (.iaload, 1) := by decide +kernel
theorem dX10_sound_36 : decode cX10_sound 36 = .ok (.iload 4, 2) := by decide +kernel
theorem dX10_sound_38 : decode cX10_sound 38 = .ok (.invokestatic 223, 3) := by decide +kernel
theorem dX10_sound_41 : decode cX10_sound 41 = .ok (.invokestatic 109, 3) := by decide +kernel
theorem dX10_sound_44 : decode cX10_sound 44 = .ok (.iadd, 1) := by decide +kernel
theorem dX10_sound_45 : decode cX10_sound 45 = .ok (.istore_n 3, 1) := by decide +kernel
theorem dX10_sound_46 : decode cX10_sound 46 = .ok (.iinc 4 1, 3) := by decide +kernel
theorem dX10_sound_49 : decode cX10_sound 49 = .ok (.goto (-44), 3) := by decide +kernel
theorem dX10_sound_52 : decode cX10_sound 52 = .ok (.iload_n 3, 1) := by decide +kernel
theorem dX10_sound_53 : decode cX10_sound 53 = .ok (.ireturn, 1) := by decide +kernel
theorem dX10_consonance_0 : decode cX10_consonance 0 = .ok (.aload_n 0, 1) := by decide +kernel
theorem dX10_consonance_1 : decode cX10_consonance 1 = .ok (.iconst 0, 1) := by decide +kernel
theorem dX10_consonance_2 : decode cX10_consonance 2 = .ok (.putfield 54, 3) := by decide +kernel
theorem dX10_consonance_5 : decode cX10_consonance 5 = .ok (.aload_n 0, 1) := by decide +kernel
theorem dX10_consonance_6 : decode cX10_consonance 6 = .ok (.iload_n 1, 1) := by decide +kernel
theorem dX10_consonance_7 : decode cX10_consonance 7 = .ok (.invokevirtual 138, 3) := by decide +kernel
theorem dX10_consonance_10 : decode cX10_consonance 10 = .ok (.ifCond .eq 20, 3) := by decide +kernel
theorem dX10_consonance_13 : decode cX10_consonance 13 = .ok (.aload_n 0, 1) := by decide +kernel
theorem dX10_consonance_14 : decode cX10_consonance 14 = .ok (.iload_n 2, 1) := by decide +kernel
theorem dX10_consonance_15 : decode cX10_consonance 15 = .ok (.invokevirtual 138, 3) := by decide +kernel
theorem dX10_consonance_18 : decode cX10_consonance 18 = .ok (.ifCond .eq 12, 3) := by decide +kernel
theorem dX10_consonance_21 : decode cX10_consonance 21 = .ok (.aload_n 0, 1) := by decide +kernel
theorem dX10_consonance_22 : decode cX10_consonance 22 = .ok (.iload_n 1, 1) := by decide +kernel
theorem dX10_consonance_23 : decode cX10_consonance 23 = .ok (.iload_n 2, 1) := by decide +kernel
theorem dX10_consonance_24 : decode cX10_consonance 24 = .ok (.invokevirtual 234, 3) := by decide +kernel
theorem dX10_consonance_27 : decode cX10_consonance 27 = .ok (.goto 8, 3) := by decide +kernel
theorem dX10_consonance_30 : decode cX10_consonance 30 = .ok (.aload_n 0, 1) := by decide +kernel
theorem dX10_consonance_31 : decode cX10_consonance 31 = .ok (.iconst 1, 1) := by decide +kernel
theorem dX10_consonance_32 : decode cX10_consonance 32 = .ok (.invokevirtual 120, 3) := by decide +kernel
theorem dX10_consonance_35 : decode cX10_consonance 35 = .ok (.ireturn, 1) := by decide +kernel
theorem dX10_chord_0 : decode cX10_chord 0 = .ok (.iconst 0, 1) := by decide +kernel
theorem dX10_chord_1 : decode cX10_chord 1 = .ok (.istore_n 2, 1) := by decide +kernel
theorem dX10_chord_2 : decode cX10_chord 2 = .ok (.iconst 0, 1) := by decide +kernel
theorem dX10_chord_3 : decode cX10_chord 3 = .ok (.istore_n 3, 1) := by decide +kernel
theorem dX10_chord_4 : decode cX10_chord 4 = .ok (.iload_n 3, 1) := by decide +kernel
theorem dX10_chord_5 : decode cX10_chord 5 = .ok (.aload_n 0, 1) := by decide +kernel
theorem dX10_chord_6 : decode cX10_chord 6 = .ok (.getfield 9, 3) := by decide +kernel
theorem dX10_chord_9 : decode cX10_chord 9 = .ok (.iconst 0, 1) := by decide +kernel
theorem dX10_chord_10 : decode cX10_chord 10 = .ok (.iaload, 1) := by decide +kernel
theorem dX10_chord_11 : decode cX10_chord 11 = .ok (.if_icmp .ge 62, 3) := by decide +kernel
theorem dX10_chord_14 : decode cX10_chord 14 = .ok (.iconst 0, 1) := by decide +kernel
theorem dX10_chord_15 : decode cX10_chord 15 = .ok (.istore 4, 2) := by decide +kernel
theorem dX10_chord_17 : decode cX10_chord 17 = .ok (.iload 4, 2) := by decide +kernel
theorem dX10_chord_19 : decode cX10_chord 19 = .ok (.iload_n 3, 1) := by decide +kernel
theorem dX10_chord_20 : decode cX10_chord 20 = .ok (.if_icmp .ge 47, 3) := by decide +kernel
theorem dX10_chord_23 : decode cX10_chord 23 = .ok (.iload_n 2, 1) := by decide +kernel
theorem dX10_chord_24 : decode cX10_chord 24 = .ok (.iload_n 1, 1) := by decide +kernel
theorem dX10_chord_25 : decode cX10_chord 25 = .ok (.iload_n 3, 1) := by decide +kernel
theorem dX10_chord_26 : decode cX10_chord 26 = .ok (.ishr, 1) := by decide +kernel
theorem dX10_chord_27 : decode cX10_chord 27 = .ok (.iconst 1, 1) := by decide +kernel
theorem dX10_chord_28 : decode cX10_chord 28 = .ok (.iand, 1) := by decide +kernel
theorem dX10_chord_29 : decode cX10_chord 29 = .ok (.iconst 1, 1) := by decide +kernel
theorem dX10_chord_30 : decode cX10_chord 30 = .ok (.if_icmp .ne 28, 3) := by decide +kernel
theorem dX10_chord_33 : decode cX10_chord 33 = .ok (.iload_n 1, 1) := by decide +kernel
theorem dX10_chord_34 : decode cX10_chord 34 = .ok (.iload 4, 2) := by decide +kernel
theorem dX10_chord_36 : decode cX10_chord 36 = .ok (.ishr, 1) := by decide +kernel
theorem dX10_chord_37 : decode cX10_chord 37 = .ok (.iconst 1, 1) := by decide +kernel
theorem dX10_chord_38 : decode cX10_chord 38 = .ok (.iand, 1) := by decide +kernel
theorem dX10_chord_39 : decode cX10_chord 39 = .ok (.iconst 1, 1) := by decide +kernel
theorem dX10_chord_40 : decode cX10_chord 40 = .ok (.if_icmp .ne 18, 3) := by decide +kernel
theorem dX10_chord_43 : decode cX10_chord 43 = .ok (.aload_n 0, 1) := by decide +kernel
theorem dX10_chord_44 : decode cX10_chord 44 = .ok (.getfield 38, 3) := by decide +kernel
theorem dX10_chord_47 : decode cX10_chord 47 = .ok (.bipush 12, 2) := by decide +kernel
theorem dX10_chord_49 : decode cX10_chord 49 = .ok (.iload_n 3, 1) := by decide +kernel
theorem dX10_chord_50 : decode cX10_chord 50 = .ok (.imul, 1) := by decide +kernel
theorem dX10_chord_51 : decode cX10_chord 51 = .ok (.iload 4, 2) := by decide +kernel
theorem dX10_chord_53 : decode cX10_chord 53 = .ok (.iadd, 1) := by decide +kernel
theorem dX10_chord_54 : decode cX10_chord 54 = .ok (.iaload, 1) := by decide +kernel
theorem dX10_chord_55 : decode cX10_chord 55 = .ok (.goto 4, 3) := by decide +kernel
theorem dX10_chord_58 : decode cX10_chord 58 = .ok (.iconst 0, 1) := by decide +kernel
theorem dX10_chord_59 : decode cX10_chord 59 = .ok (.iadd, 1) := by decide +kernel
theorem dX10_chord_60 : decode cX10_chord 60 = .ok (.istore_n 2, 1) := by decide +kernel
theorem dX10_chord_61 : decode cX10_chord 61 = .ok (.iinc 4 1, 3) := by decide +kernel
theorem dX10_chord_64 : decode cX10_chord 64 = .ok (.goto (-47), 3) := by decide +kernel
theorem dX10_chord_67 : decode cX10_chord 67 = .ok (.iinc 3 1, 3) := by decide +kernel
theorem dX10_chord_70 : decode cX10_chord 70 = .ok (.goto (-66), 3) := by decide +kernel
theorem dX10_chord_73 : decode cX10_chord 73 = .ok (.iload_n 2, 1) := by decide +kernel
theorem dX10_chord_74 : decode cX10_chord 74 = .ok (.ireturn, 1) := by decide +kernel
theorem dX10_bestChord_0 : decode cX10_bestChord 0 = .ok (.aload_n 0, 1) := by decide +kernel
theorem dX10_bestChord_1 : decode cX10_bestChord 1 = .ok (.iconst 0, 1) := by decide +kernel
theorem dX10_bestChord_2 : decode cX10_bestChord 2 = .ok (.putfield 54, 3) := by decide +kernel
theorem dX10_bestChord_5 : decode cX10_bestChord 5 = .ok (.iload_n 1, 1) := by decide +kernel
theorem dX10_bestChord_6 : decode cX10_bestChord 6 = .ok (.i2l, 1) := by decide +kernel
theorem dX10_bestChord_7 : decode cX10_bestChord 7 = .ok (.lconst 1, 1) := by decide +kernel
theorem dX10_bestChord_8 : decode cX10_bestChord 8 = .ok (.ldc2_w 66, 3) := by decide +kernel
theorem dX10_bestChord_11 : decode cX10_bestChord 11 = .ok (.invokestatic 60, 3) := by decide +kernel
theorem dX10_bestChord_14 : decode cX10_bestChord 14 = .ok (.ifCond .ne 9, 3) := by decide +kernel
theorem dX10_bestChord_17 : decode cX10_bestChord 17 = .ok (.aload_n 0, 1) := by decide +kernel
theorem dX10_bestChord_18 : decode cX10_bestChord 18 = .ok (.iconst 1, 1) := by decide +kernel
theorem dX10_bestChord_19 : decode cX10_bestChord 19 = .ok (.invokevirtual 120, 3) := by decide +kernel
theorem dX10_bestChord_22 : decode cX10_bestChord 22 = .ok (.ireturn, 1) := by decide +kernel
theorem dX10_bestChord_23 : decode cX10_bestChord 23 = .ok (.iconst 0, 1) := by decide +kernel
theorem dX10_bestChord_24 : decode cX10_bestChord 24 = .ok (.istore_n 2, 1) := by decide +kernel
theorem dX10_bestChord_25 : decode cX10_bestChord 25 = .ok (.iconst 0, 1) := by decide +kernel
theorem dX10_bestChord_26 : decode cX10_bestChord 26 = .ok (.istore_n 3, 1) := by decide +kernel
theorem dX10_bestChord_27 : decode cX10_bestChord 27 = .ok (.iload_n 3, 1) := by decide +kernel
theorem dX10_bestChord_28 : decode cX10_bestChord 28 = .ok (.aload_n 0, 1) := by decide +kernel
theorem dX10_bestChord_29 : decode cX10_bestChord 29 = .ok (.getfield 9, 3) := by decide +kernel
theorem dX10_bestChord_32 : decode cX10_bestChord 32 = .ok (.iconst 0, 1) := by decide +kernel
theorem dX10_bestChord_33 : decode cX10_bestChord 33 = .ok (.iaload, 1) := by decide +kernel
theorem dX10_bestChord_34 : decode cX10_bestChord 34 = .ok (.if_icmp .ge 68, 3) := by decide +kernel
theorem dX10_bestChord_37 : decode cX10_bestChord 37 = .ok (.iload_n 2, 1) := by decide +kernel
theorem dX10_bestChord_38 : decode cX10_bestChord 38 = .ok (.aload_n 0, 1) := by decide +kernel
theorem dX10_bestChord_39 : decode cX10_bestChord 39 = .ok (.getfield 9, 3) := by decide +kernel
theorem dX10_bestChord_42 : decode cX10_bestChord 42 = .ok (.iload_n 3, 1) := by decide +kernel
theorem dX10_bestChord_43 : decode cX10_bestChord 43 = .ok (.invokestatic 68, 3) := by decide +kernel
theorem dX10_bestChord_46 : decode cX10_bestChord 46 = .ok (.iconst 2, 1) := by decide +kernel
theorem dX10_bestChord_47 : decode cX10_bestChord 47 = .ok (.iadd, 1) := by decide +kernel
theorem dX10_bestChord_48 : decode cX10_bestChord 48 = .ok (.iaload, 1) := by decide +kernel
theorem dX10_bestChord_49 : decode cX10_bestChord 49 = .ok (.iconst (-1), 1) := by decide +kernel
theorem dX10_bestChord_50 : decode cX10_bestChord 50 = .ok (.if_icmp .ne 7, 3) := by decide +kernel
theorem dX10_bestChord_53 : decode cX10_bestChord 53 = .ok (.iconst 0, 1) := by decide +kernel
theorem dX10_bestChord_54 : decode cX10_bestChord 54 = .ok (.goto 6, 3) := by decide +kernel
theorem dX10_bestChord_57 : decode cX10_bestChord 57 = .ok (.iconst 1, 1) := by decide +kernel
theorem dX10_bestChord_58 : decode cX10_bestChord 58 = .ok (.iload_n 3, 1) := by decide +kernel
theorem dX10_bestChord_59 : decode cX10_bestChord 59 = .ok (.ishl, 1) := by decide +kernel
theorem dX10_bestChord_60 : decode cX10_bestChord 60 = .ok (.ior, 1) := by decide +kernel
theorem dX10_bestChord_61 : decode cX10_bestChord 61 = .ok (.istore_n 2, 1) := by decide +kernel
theorem dX10_bestChord_62 : decode cX10_bestChord 62 = .ok (.iconst 0, 1) := by decide +kernel
theorem dX10_bestChord_63 : decode cX10_bestChord 63 = .ok (.istore 4, 2) := by decide +kernel
theorem dX10_bestChord_65 : decode cX10_bestChord 65 = .ok (.iload 4, 2) := by decide +kernel
theorem dX10_bestChord_67 : decode cX10_bestChord 67 = .ok (.iload_n 3, 1) := by decide +kernel
theorem dX10_bestChord_68 : decode cX10_bestChord 68 = .ok (.if_icmp .ge 28, 3) := by decide +kernel
theorem dX10_bestChord_71 : decode cX10_bestChord 71 = .ok (.aload_n 0, 1) := by decide +kernel
theorem dX10_bestChord_72 : decode cX10_bestChord 72 = .ok (.getfield 38, 3) := by decide +kernel
theorem dX10_bestChord_75 : decode cX10_bestChord 75 = .ok (.bipush 12, 2) := by decide +kernel
theorem dX10_bestChord_77 : decode cX10_bestChord 77 = .ok (.iload_n 3, 1) := by decide +kernel
theorem dX10_bestChord_78 : decode cX10_bestChord 78 = .ok (.imul, 1) := by decide +kernel
theorem dX10_bestChord_79 : decode cX10_bestChord 79 = .ok (.iload 4, 2) := by decide +kernel
theorem dX10_bestChord_81 : decode cX10_bestChord 81 = .ok (.iadd, 1) := by decide +kernel
theorem dX10_bestChord_82 : decode cX10_bestChord 82 = .ok (.aload_n 0, 1) := by decide +kernel
theorem dX10_bestChord_83 : decode cX10_bestChord 83 = .ok (.iload_n 3, 1) := by decide +kernel
theorem dX10_bestChord_84 : decode cX10_bestChord 84 = .ok (.iload 4, 2) := by decide +kernel
theorem dX10_bestChord_86 : decode cX10_bestChord 86 = .ok (.invokevirtual 234, 3) := by decide +kernel
theorem dX10_bestChord_89 : decode cX10_bestChord 89 = .ok (.iastore, 1) := by decide +kernel
theorem dX10_bestChord_90 : decode cX10_bestChord 90 = .ok (.iinc 4 1, 3) := by decide +kernel
theorem dX10_bestChord_93 : decode cX10_bestChord 93 = .ok (.goto (-28), 3) := by decide +kernel
theorem dX10_bestChord_96 : decode cX10_bestChord 96 = .ok (.iinc 3 1, 3) := by decide +kernel
theorem dX10_bestChord_99 : decode cX10_bestChord 99 = .ok (.goto (-72), 3) := by decide +kernel
theorem dX10_bestChord_102 : decode cX10_bestChord 102 = .ok (.iload_n 2, 1) := by decide +kernel
theorem dX10_bestChord_103 : decode cX10_bestChord 103 = .ok (.invokestatic 106, 3) := by decide +kernel
theorem dX10_bestChord_106 : decode cX10_bestChord 106 = .ok (.iload_n 1, 1) := by decide +kernel
theorem dX10_bestChord_107 : decode cX10_bestChord 107 = .ok (.if_icmp .ge 9, 3) := by decide +kernel
theorem dX10_bestChord_110 : decode cX10_bestChord 110 = .ok (.aload_n 0, 1) := by decide +kernel
theorem dX10_bestChord_111 : decode cX10_bestChord 111 = .ok (.iconst 2, 1) := by decide +kernel
theorem dX10_bestChord_112 : decode cX10_bestChord 112 = .ok (.invokevirtual 120, 3) := by decide +kernel
theorem dX10_bestChord_115 : decode cX10_bestChord 115 = .ok (.ireturn, 1) := by decide +kernel
theorem dX10_bestChord_116 : decode cX10_bestChord 116 = .ok (.iconst 0, 1) := by decide +kernel
theorem dX10_bestChord_117 : decode cX10_bestChord 117 = .ok (.istore_n 3, 1) := by decide +kernel
theorem dX10_bestChord_118 : decode cX10_bestChord 118 = .ok (.iconst 0, 1) := by decide +kernel
theorem dX10_bestChord_119 : decode cX10_bestChord 119 = .ok (.istore 4, 2) := by decide +kernel
theorem dX10_bestChord_121 : decode cX10_bestChord 121 = .ok (.iload 4, 2) := by decide +kernel
theorem dX10_bestChord_123 : decode cX10_bestChord 123 = .ok (.iconst 1, 1) := by decide +kernel
theorem dX10_bestChord_124 : decode cX10_bestChord 124 = .ok (.aload_n 0, 1) := by decide +kernel
theorem dX10_bestChord_125 : decode cX10_bestChord 125 = .ok (.getfield 9, 3) := by decide +kernel
theorem dX10_bestChord_128 : decode cX10_bestChord 128 = .ok (.iconst 0, 1) := by decide +kernel
theorem dX10_bestChord_129 : decode cX10_bestChord 129 = .ok (.iaload, 1) := by decide +kernel
theorem dX10_bestChord_130 : decode cX10_bestChord 130 = .ok (.ishl, 1) := by decide +kernel
theorem dX10_bestChord_131 : decode cX10_bestChord 131 = .ok (.if_icmp .ge 38, 3) := by decide +kernel
theorem dX10_bestChord_134 : decode cX10_bestChord 134 = .ok (.iload 4, 2) := by decide +kernel
theorem dX10_bestChord_136 : decode cX10_bestChord 136 = .ok (.iload_n 2, 1) := by decide +kernel
theorem dX10_bestChord_137 : decode cX10_bestChord 137 = .ok (.iconst (-1), 1) := by decide +kernel
theorem dX10_bestChord_138 : decode cX10_bestChord 138 = .ok (.ixor, 1) := by decide +kernel
theorem dX10_bestChord_139 : decode cX10_bestChord 139 = .ok (.iand, 1) := by decide +kernel
theorem dX10_bestChord_140 : decode cX10_bestChord 140 = .ok (.ifCond .ne 23, 3) := by decide +kernel
theorem dX10_bestChord_143 : decode cX10_bestChord 143 = .ok (.iload 4, 2) := by decide +kernel
theorem dX10_bestChord_145 : decode cX10_bestChord 145 = .ok (.invokestatic 106, 3) := by decide +kernel
theorem dX10_bestChord_148 : decode cX10_bestChord 148 = .ok (.iload_n 1, 1) := by decide +kernel
theorem dX10_bestChord_149 : decode cX10_bestChord 149 = .ok (.if_icmp .ne 14, 3) := by decide +kernel
theorem dX10_bestChord_152 : decode cX10_bestChord 152 = .ok (.iload_n 3, 1) := by decide +kernel
theorem dX10_bestChord_153 : decode cX10_bestChord 153 = .ok (.aload_n 0, 1) := by decide +kernel
theorem dX10_bestChord_154 : decode cX10_bestChord 154 = .ok (.iload 4, 2) := by decide +kernel
theorem dX10_bestChord_156 : decode cX10_bestChord 156 = .ok (.invokevirtual 237, 3) := by decide +kernel
theorem dX10_bestChord_159 : decode cX10_bestChord 159 = .ok (.invokestatic 190, 3) := by decide +kernel
theorem dX10_bestChord_162 : decode cX10_bestChord 162 = .ok (.istore_n 3, 1) := by decide +kernel
theorem dX10_bestChord_163 : decode cX10_bestChord 163 = .ok (.iinc 4 1, 3) := by decide +kernel
theorem dX10_bestChord_166 : decode cX10_bestChord 166 = .ok (.goto (-45), 3) := by decide +kernel
theorem dX10_bestChord_169 : decode cX10_bestChord 169 = .ok (.iload_n 3, 1) := by decide +kernel
theorem dX10_bestChord_170 : decode cX10_bestChord 170 = .ok (.ireturn, 1) := by decide +kernel
theorem dX10_bestChordBySets_0 : decode cX10_bestChordBySets 0 = .ok (.aload_n 0, 1) := by decide +kernel
theorem dX10_bestChordBySets_1 : decode cX10_bestChordBySets 1 = .ok (.iload_n 1, 1) := by decide +kernel
theorem dX10_bestChordBySets_2 : decode cX10_bestChordBySets 2 = .ok (.invokevirtual 240, 3) := by decide +kernel
theorem dX10_bestChordBySets_5 : decode cX10_bestChordBySets 5 = .ok (.ireturn, 1) := by decide +kernel
theorem dX10_swapsToSort_0 : decode cX10_swapsToSort 0 = .ok (.aload_n 0, 1) := by decide +kernel
theorem dX10_swapsToSort_1 : decode cX10_swapsToSort 1 = .ok (.iconst 0, 1) := by decide +kernel
theorem dX10_swapsToSort_2 : decode cX10_swapsToSort 2 = .ok (.putfield 54, 3) := by decide +kernel
theorem dX10_swapsToSort_5 : decode cX10_swapsToSort 5 = .ok (.iload_n 1, 1) := by decide +kernel
theorem dX10_swapsToSort_6 : decode cX10_swapsToSort 6 = .ok (.invokestatic 123, 3) := by decide +kernel
theorem dX10_swapsToSort_9 : decode cX10_swapsToSort 9 = .ok (.ifCond .eq 11, 3) := by decide +kernel
theorem dX10_swapsToSort_12 : decode cX10_swapsToSort 12 = .ok (.aload_n 0, 1) := by decide +kernel
theorem dX10_swapsToSort_13 : decode cX10_swapsToSort 13 = .ok (.iload_n 1, 1) := by decide +kernel
theorem dX10_swapsToSort_14 : decode cX10_swapsToSort 14 = .ok (.invokevirtual 147, 3) := by decide +kernel
theorem dX10_swapsToSort_17 : decode cX10_swapsToSort 17 = .ok (.goto 8, 3) := by decide +kernel
theorem dX10_swapsToSort_20 : decode cX10_swapsToSort 20 = .ok (.aload_n 0, 1) := by decide +kernel
theorem dX10_swapsToSort_21 : decode cX10_swapsToSort 21 = .ok (.iconst 1, 1) := by decide +kernel
theorem dX10_swapsToSort_22 : decode cX10_swapsToSort 22 = .ok (.invokevirtual 120, 3) := by decide +kernel
theorem dX10_swapsToSort_25 : decode cX10_swapsToSort 25 = .ok (.ireturn, 1) := by decide +kernel
theorem dX10_swapsToSortByCycles_0 : decode cX10_swapsToSortByCycles 0 = .ok (.aload_n 0, 1) := by decide +kernel
theorem dX10_swapsToSortByCycles_1 : decode cX10_swapsToSortByCycles 1 = .ok (.iload_n 1, 1) := by decide +kernel
theorem dX10_swapsToSortByCycles_2 : decode cX10_swapsToSortByCycles 2 = .ok (.invokevirtual 243, 3) := by decide +kernel
theorem dX10_swapsToSortByCycles_5 : decode cX10_swapsToSortByCycles 5 = .ok (.ireturn, 1) := by decide +kernel
theorem dX10_hammerByWear_0 : decode cX10_hammerByWear 0 = .ok (.aload_n 0, 1) := by decide +kernel
theorem dX10_hammerByWear_1 : decode cX10_hammerByWear 1 = .ok (.iconst 0, 1) := by decide +kernel
theorem dX10_hammerByWear_2 : decode cX10_hammerByWear 2 = .ok (.putfield 54, 3) := by decide +kernel
theorem dX10_hammerByWear_5 : decode cX10_hammerByWear 5 = .ok (.iconst 0, 1) := by decide +kernel
theorem dX10_hammerByWear_6 : decode cX10_hammerByWear 6 = .ok (.istore_n 2, 1) := by decide +kernel
theorem dX10_hammerByWear_7 : decode cX10_hammerByWear 7 = .ok (.iload_n 2, 1) := by decide +kernel
theorem dX10_hammerByWear_8 : decode cX10_hammerByWear 8 = .ok (.aload_n 0, 1) := by decide +kernel
theorem dX10_hammerByWear_9 : decode cX10_hammerByWear 9 = .ok (.getfield 9, 3) := by decide +kernel
theorem dX10_hammerByWear_12 : decode cX10_hammerByWear 12 = .ok (.iconst 0, 1) := by decide +kernel
theorem dX10_hammerByWear_13 : decode cX10_hammerByWear 13 = .ok (.iaload, 1) := by decide +kernel
theorem dX10_hammerByWear_14 : decode cX10_hammerByWear 14 = .ok (.if_icmp .ge 120, 3) := by decide +kernel
theorem dX10_hammerByWear_17 : decode cX10_hammerByWear 17 = .ok (.iconst 0, 1) := by decide +kernel
theorem dX10_hammerByWear_18 : decode cX10_hammerByWear 18 = .ok (.istore_n 3, 1) := by decide +kernel
theorem dX10_hammerByWear_19 : decode cX10_hammerByWear 19 = .ok (.iconst 0, 1) := by decide +kernel
theorem dX10_hammerByWear_20 : decode cX10_hammerByWear 20 = .ok (.istore 4, 2) := by decide +kernel
theorem dX10_hammerByWear_22 : decode cX10_hammerByWear 22 = .ok (.iload 4, 2) := by decide +kernel
theorem dX10_hammerByWear_24 : decode cX10_hammerByWear 24 = .ok (.aload_n 0, 1) := by decide +kernel
theorem dX10_hammerByWear_25 : decode cX10_hammerByWear 25 = .ok (.getfield 9, 3) := by decide +kernel
theorem dX10_hammerByWear_28 : decode cX10_hammerByWear 28 = .ok (.iconst 0, 1) := by decide +kernel
theorem dX10_hammerByWear_29 : decode cX10_hammerByWear 29 = .ok (.iaload, 1) := by decide +kernel
theorem dX10_hammerByWear_30 : decode cX10_hammerByWear 30 = .ok (.if_icmp .ge 91, 3) := by decide +kernel
theorem dX10_hammerByWear_33 : decode cX10_hammerByWear 33 = .ok (.aload_n 0, 1) := by decide +kernel
theorem dX10_hammerByWear_34 : decode cX10_hammerByWear 34 = .ok (.getfield 9, 3) := by decide +kernel
theorem dX10_hammerByWear_37 : decode cX10_hammerByWear 37 = .ok (.iload 4, 2) := by decide +kernel
theorem dX10_hammerByWear_39 : decode cX10_hammerByWear 39 = .ok (.invokestatic 68, 3) := by decide +kernel
theorem dX10_hammerByWear_42 : decode cX10_hammerByWear 42 = .ok (.iconst 1, 1) := by decide +kernel
theorem dX10_hammerByWear_43 : decode cX10_hammerByWear 43 = .ok (.iadd, 1) := by decide +kernel
theorem dX10_hammerByWear_44 : decode cX10_hammerByWear 44 = .ok (.iaload, 1) := by decide +kernel
theorem dX10_hammerByWear_45 : decode cX10_hammerByWear 45 = .ok (.aload_n 0, 1) := by decide +kernel
theorem dX10_hammerByWear_46 : decode cX10_hammerByWear 46 = .ok (.getfield 9, 3) := by decide +kernel
theorem dX10_hammerByWear_49 : decode cX10_hammerByWear 49 = .ok (.iload_n 2, 1) := by decide +kernel
theorem dX10_hammerByWear_50 : decode cX10_hammerByWear 50 = .ok (.invokestatic 68, 3) := by decide +kernel
theorem dX10_hammerByWear_53 : decode cX10_hammerByWear 53 = .ok (.iconst 1, 1) := by decide +kernel
theorem dX10_hammerByWear_54 : decode cX10_hammerByWear 54 = .ok (.iadd, 1) := by decide +kernel
theorem dX10_hammerByWear_55 : decode cX10_hammerByWear 55 = .ok (.iaload, 1) := by decide +kernel
theorem dX10_hammerByWear_56 : decode cX10_hammerByWear 56 = .ok (.isub, 1) := by decide +kernel
theorem dX10_hammerByWear_57 : decode cX10_hammerByWear 57 = .ok (.istore 5, 2) := by decide +kernel
theorem dX10_hammerByWear_59 : decode cX10_hammerByWear 59 = .ok (.iload 5, 2) := by decide +kernel
theorem dX10_hammerByWear_61 : decode cX10_hammerByWear 61 = .ok (.ifCond .ne 26, 3) := by decide +kernel
theorem dX10_hammerByWear_64 : decode cX10_hammerByWear 64 = .ok (.aload_n 0, 1) := by decide +kernel
theorem dX10_hammerByWear_65 : decode cX10_hammerByWear 65 = .ok (.getfield 9, 3) := by decide +kernel
theorem dX10_hammerByWear_68 : decode cX10_hammerByWear 68 = .ok (.iload_n 2, 1) := by decide +kernel
theorem dX10_hammerByWear_69 : decode cX10_hammerByWear 69 = .ok (.invokestatic 68, 3) := by decide +kernel
theorem dX10_hammerByWear_72 : decode cX10_hammerByWear 72 = .ok (.iaload, 1) := by decide +kernel
theorem dX10_hammerByWear_73 : decode cX10_hammerByWear 73 = .ok (.aload_n 0, 1) := by decide +kernel
theorem dX10_hammerByWear_74 : decode cX10_hammerByWear 74 = .ok (.getfield 9, 3) := by decide +kernel
theorem dX10_hammerByWear_77 : decode cX10_hammerByWear 77 = .ok (.iload 4, 2) := by decide +kernel
theorem dX10_hammerByWear_79 : decode cX10_hammerByWear 79 = .ok (.invokestatic 68, 3) := by decide +kernel
theorem dX10_hammerByWear_82 : decode cX10_hammerByWear 82 = .ok (.iaload, 1) := by decide +kernel
theorem dX10_hammerByWear_83 : decode cX10_hammerByWear 83 = .ok (.isub, 1) := by decide +kernel
theorem dX10_hammerByWear_84 : decode cX10_hammerByWear 84 = .ok (.goto 5, 3) := by decide +kernel
theorem dX10_hammerByWear_87 : decode cX10_hammerByWear 87 = .ok (.iload 5, 2) := by decide +kernel
theorem dX10_hammerByWear_89 : decode cX10_hammerByWear 89 = .ok (.istore 5, 2) := by decide +kernel
theorem dX10_hammerByWear_91 : decode cX10_hammerByWear 91 = .ok (.iload_n 3, 1) := by decide +kernel
theorem dX10_hammerByWear_92 : decode cX10_hammerByWear 92 = .ok (.iload 5, 2) := by decide +kernel
theorem dX10_hammerByWear_94 : decode cX10_hammerByWear 94 = .ok (.ifCond .gt 14, 3) := by decide +kernel
theorem dX10_hammerByWear_97 : decode cX10_hammerByWear 97 = .ok (.iload 5, 2) := by decide +kernel
theorem dX10_hammerByWear_99 : decode cX10_hammerByWear 99 = .ok (.ifCond .ne 13, 3) := by decide +kernel
theorem dX10_hammerByWear_102 : decode cX10_hammerByWear 102 = .ok (.iload 4, 2) := by decide +kernel
theorem dX10_hammerByWear_104 : decode cX10_hammerByWear 104 = .ok (.iload_n 2, 1) := by decide +kernel
theorem dX10_hammerByWear_105 : decode cX10_hammerByWear 105 = .ok (.if_icmp .ge 7, 3) := by decide +kernel
theorem dX10_hammerByWear_108 : decode cX10_hammerByWear 108 = .ok (.iconst 1, 1) := by decide +kernel
theorem dX10_hammerByWear_109 : decode cX10_hammerByWear 109 = .ok (.goto 4, 3) := by decide +kernel
theorem dX10_hammerByWear_112 : decode cX10_hammerByWear 112 = .ok (.iconst 0, 1) := by decide +kernel
theorem dX10_hammerByWear_113 : decode cX10_hammerByWear 113 = .ok (.iadd, 1) := by decide +kernel
theorem dX10_hammerByWear_114 : decode cX10_hammerByWear 114 = .ok (.istore_n 3, 1) := by decide +kernel
theorem dX10_hammerByWear_115 : decode cX10_hammerByWear 115 = .ok (.iinc 4 1, 3) := by decide +kernel
theorem dX10_hammerByWear_118 : decode cX10_hammerByWear 118 = .ok (.goto (-96), 3) := by decide +kernel
theorem dX10_hammerByWear_121 : decode cX10_hammerByWear 121 = .ok (.iload_n 3, 1) := by decide +kernel
theorem dX10_hammerByWear_122 : decode cX10_hammerByWear 122 = .ok (.iload_n 1, 1) := by decide +kernel
theorem dX10_hammerByWear_123 : decode cX10_hammerByWear 123 = .ok (.if_icmp .ne 5, 3) := by decide +kernel
theorem dX10_hammerByWear_126 : decode cX10_hammerByWear 126 = .ok (.iload_n 2, 1) := by decide +kernel
theorem dX10_hammerByWear_127 : decode cX10_hammerByWear 127 = .ok (.ireturn, 1) := by decide +kernel
theorem dX10_hammerByWear_128 : decode cX10_hammerByWear 128 = .ok (.iinc 2 1, 3) := by decide +kernel
theorem dX10_hammerByWear_131 : decode cX10_hammerByWear 131 = .ok (.goto (-124), 3) := by decide +kernel
theorem dX10_hammerByWear_134 : decode cX10_hammerByWear 134 = .ok (.aload_n 0, 1) := by decide +kernel
theorem dX10_hammerByWear_135 : decode cX10_hammerByWear 135 = .ok (.iconst 1, 1) := by decide +kernel
theorem dX10_hammerByWear_136 : decode cX10_hammerByWear 136 = .ok (.invokevirtual 120, 3) := by decide +kernel
theorem dX10_hammerByWear_139 : decode cX10_hammerByWear 139 = .ok (.ireturn, 1) := by decide +kernel
theorem dX10_coins_0 : decode cX10_coins 0 = .ok (.aload_n 0, 1) := by decide +kernel
theorem dX10_coins_1 : decode cX10_coins 1 = .ok (.iconst 2, 1) := by decide +kernel
theorem dX10_coins_2 : decode cX10_coins 2 = .ok (.invokevirtual 210, 3) := by decide +kernel
theorem dX10_coins_5 : decode cX10_coins 5 = .ok (.ireturn, 1) := by decide +kernel
theorem dX10_coinsByAccounts_0 : decode cX10_coinsByAccounts 0 = .ok (.aload_n 0, 1) := by decide +kernel
theorem dX10_coinsByAccounts_1 : decode cX10_coinsByAccounts 1 = .ok (.iconst 2, 1) := by decide +kernel
theorem dX10_coinsByAccounts_2 : decode cX10_coinsByAccounts 2 = .ok (.invokevirtual 210, 3) := by decide +kernel
theorem dX10_coinsByAccounts_5 : decode cX10_coinsByAccounts 5 = .ok (.ireturn, 1) := by decide +kernel
theorem dX10_brokenTotal_0 : decode cX10_brokenTotal 0 = .ok (.aload_n 0, 1) := by decide +kernel
theorem dX10_brokenTotal_1 : decode cX10_brokenTotal 1 = .ok (.bipush 6, 2) := by decide +kernel
theorem dX10_brokenTotal_3 : decode cX10_brokenTotal 3 = .ok (.invokevirtual 210, 3) := by decide +kernel
theorem dX10_brokenTotal_6 : decode cX10_brokenTotal 6 = .ok (.ireturn, 1) := by decide +kernel
theorem dX10_lentTotal_0 : decode cX10_lentTotal 0 = .ok (.aload_n 0, 1) := by decide +kernel
theorem dX10_lentTotal_1 : decode cX10_lentTotal 1 = .ok (.bipush 7, 2) := by decide +kernel
theorem dX10_lentTotal_3 : decode cX10_lentTotal 3 = .ok (.invokevirtual 210, 3) := by decide +kernel
theorem dX10_lentTotal_6 : decode cX10_lentTotal 6 = .ok (.ireturn, 1) := by decide +kernel
theorem dX10_day_0 : decode cX10_day 0 = .ok (.aload_n 0, 1) := by decide +kernel
theorem dX10_day_1 : decode cX10_day 1 = .ok (.iconst 1, 1) := by decide +kernel
theorem dX10_day_2 : decode cX10_day 2 = .ok (.invokevirtual 210, 3) := by decide +kernel
theorem dX10_day_5 : decode cX10_day 5 = .ok (.ireturn, 1) := by decide +kernel
theorem dX10_meanWear_0 : decode cX10_meanWear 0 = .ok (.aload_n 0, 1) := by decide +kernel
theorem dX10_meanWear_1 : decode cX10_meanWear 1 = .ok (.iconst 0, 1) := by decide +kernel
theorem dX10_meanWear_2 : decode cX10_meanWear 2 = .ok (.putfield 54, 3) := by decide +kernel
theorem dX10_meanWear_5 : decode cX10_meanWear 5 = .ok (.aload_n 0, 1) := by decide +kernel
theorem dX10_meanWear_6 : decode cX10_meanWear 6 = .ok (.getfield 9, 3) := by decide +kernel
theorem dX10_meanWear_9 : decode cX10_meanWear 9 = .ok (.iconst 0, 1) := by decide +kernel
theorem dX10_meanWear_10 : decode cX10_meanWear 10 = .ok (.iaload, 1) := by decide +kernel
theorem dX10_meanWear_11 : decode cX10_meanWear 11 = .ok (.ifCond .ne 11, 3) := by decide +kernel
theorem dX10_meanWear_14 : decode cX10_meanWear 14 = .ok (.aload_n 0, 1) := by decide +kernel
theorem dX10_meanWear_15 : decode cX10_meanWear 15 = .ok (.iconst 1, 1) := by decide +kernel
theorem dX10_meanWear_16 : decode cX10_meanWear 16 = .ok (.invokevirtual 120, 3) := by decide +kernel
theorem dX10_meanWear_19 : decode cX10_meanWear 19 = .ok (.pop, 1) := by decide +kernel
theorem dX10_meanWear_20 : decode cX10_meanWear 20 = .ok (.dconst 0, 1) := by decide +kernel
theorem dX10_meanWear_21 : decode cX10_meanWear 21 = .ok (.dreturn, 1) := by decide +kernel
theorem dX10_meanWear_22 : decode cX10_meanWear 22 = .ok (.iconst 0, 1) := by decide +kernel
theorem dX10_meanWear_23 : decode cX10_meanWear 23 = .ok (.istore_n 1, 1) := by decide +kernel
theorem dX10_meanWear_24 : decode cX10_meanWear 24 = .ok (.iconst 0, 1) := by decide +kernel
theorem dX10_meanWear_25 : decode cX10_meanWear 25 = .ok (.istore_n 2, 1) := by decide +kernel
theorem dX10_meanWear_26 : decode cX10_meanWear 26 = .ok (.iload_n 2, 1) := by decide +kernel
theorem dX10_meanWear_27 : decode cX10_meanWear 27 = .ok (.aload_n 0, 1) := by decide +kernel
theorem dX10_meanWear_28 : decode cX10_meanWear 28 = .ok (.getfield 9, 3) := by decide +kernel
theorem dX10_meanWear_31 : decode cX10_meanWear 31 = .ok (.iconst 0, 1) := by decide +kernel
theorem dX10_meanWear_32 : decode cX10_meanWear 32 = .ok (.iaload, 1) := by decide +kernel
theorem dX10_meanWear_33 : decode cX10_meanWear 33 = .ok (.if_icmp .ge 23, 3) := by decide +kernel
theorem dX10_meanWear_36 : decode cX10_meanWear 36 = .ok (.iload_n 1, 1) := by decide +kernel
theorem dX10_meanWear_37 : decode cX10_meanWear 37 = .ok (.aload_n 0, 1) := by decide +kernel
theorem dX10_meanWear_38 : decode cX10_meanWear 38 = .ok (.getfield 9, 3) := by decide +kernel
theorem dX10_meanWear_41 : decode cX10_meanWear 41 = .ok (.iload_n 2, 1) := by decide +kernel
theorem dX10_meanWear_42 : decode cX10_meanWear 42 = .ok (.invokestatic 68, 3) := by decide +kernel
theorem dX10_meanWear_45 : decode cX10_meanWear 45 = .ok (.iconst 1, 1) := by decide +kernel
theorem dX10_meanWear_46 : decode cX10_meanWear 46 = .ok (.iadd, 1) := by decide +kernel
theorem dX10_meanWear_47 : decode cX10_meanWear 47 = .ok (.iaload, 1) := by decide +kernel
theorem dX10_meanWear_48 : decode cX10_meanWear 48 = .ok (.iadd, 1) := by decide +kernel
theorem dX10_meanWear_49 : decode cX10_meanWear 49 = .ok (.istore_n 1, 1) := by decide +kernel
theorem dX10_meanWear_50 : decode cX10_meanWear 50 = .ok (.iinc 2 1, 3) := by decide +kernel
theorem dX10_meanWear_53 : decode cX10_meanWear 53 = .ok (.goto (-27), 3) := by decide +kernel
theorem dX10_meanWear_56 : decode cX10_meanWear 56 = .ok (.iload_n 1, 1) := by decide +kernel
theorem dX10_meanWear_57 : decode cX10_meanWear 57 = .ok (.i2d, 1) := by decide +kernel
theorem dX10_meanWear_58 : decode cX10_meanWear 58 = .ok (.aload_n 0, 1) := by decide +kernel
theorem dX10_meanWear_59 : decode cX10_meanWear 59 = .ok (.getfield 9, 3) := by decide +kernel
theorem dX10_meanWear_62 : decode cX10_meanWear 62 = .ok (.iconst 0, 1) := by decide +kernel
theorem dX10_meanWear_63 : decode cX10_meanWear 63 = .ok (.iaload, 1) := by decide +kernel
theorem dX10_meanWear_64 : decode cX10_meanWear 64 = .ok (.i2d, 1) := by decide +kernel
theorem dX10_meanWear_65 : decode cX10_meanWear 65 = .ok (.ddiv, 1) := by decide +kernel
theorem dX10_meanWear_66 : decode cX10_meanWear 66 = .ok (.dreturn, 1) := by decide +kernel
theorem dX10_lentShare_0 : decode cX10_lentShare 0 = .ok (.aload_n 0, 1) := by decide +kernel
theorem dX10_lentShare_1 : decode cX10_lentShare 1 = .ok (.iconst 0, 1) := by decide +kernel
theorem dX10_lentShare_2 : decode cX10_lentShare 2 = .ok (.putfield 54, 3) := by decide +kernel
theorem dX10_lentShare_5 : decode cX10_lentShare 5 = .ok (.aload_n 0, 1) := by decide +kernel
theorem dX10_lentShare_6 : decode cX10_lentShare 6 = .ok (.getfield 9, 3) := by decide +kernel
theorem dX10_lentShare_9 : decode cX10_lentShare 9 = .ok (.iconst 0, 1) := by decide +kernel
theorem dX10_lentShare_10 : decode cX10_lentShare 10 = .ok (.iaload, 1) := by decide +kernel
theorem dX10_lentShare_11 : decode cX10_lentShare 11 = .ok (.ifCond .ne 11, 3) := by decide +kernel
theorem dX10_lentShare_14 : decode cX10_lentShare 14 = .ok (.aload_n 0, 1) := by decide +kernel
theorem dX10_lentShare_15 : decode cX10_lentShare 15 = .ok (.iconst 1, 1) := by decide +kernel
theorem dX10_lentShare_16 : decode cX10_lentShare 16 = .ok (.invokevirtual 120, 3) := by decide +kernel
theorem dX10_lentShare_19 : decode cX10_lentShare 19 = .ok (.pop, 1) := by decide +kernel
theorem dX10_lentShare_20 : decode cX10_lentShare 20 = .ok (.fconst 0, 1) := by decide +kernel
theorem dX10_lentShare_21 : decode cX10_lentShare 21 = .ok (.freturn, 1) := by decide +kernel
theorem dX10_lentShare_22 : decode cX10_lentShare 22 = .ok (.aload_n 0, 1) := by decide +kernel
theorem dX10_lentShare_23 : decode cX10_lentShare 23 = .ok (.iconst (-1), 1) := by decide +kernel
theorem dX10_lentShare_24 : decode cX10_lentShare 24 = .ok (.invokevirtual 231, 3) := by decide +kernel
theorem dX10_lentShare_27 : decode cX10_lentShare 27 = .ok (.i2f, 1) := by decide +kernel
theorem dX10_lentShare_28 : decode cX10_lentShare 28 = .ok (.aload_n 0, 1) := by decide +kernel
theorem dX10_lentShare_29 : decode cX10_lentShare 29 = .ok (.getfield 9, 3) := by decide +kernel
theorem dX10_lentShare_32 : decode cX10_lentShare 32 = .ok (.iconst 0, 1) := by decide +kernel
theorem dX10_lentShare_33 : decode cX10_lentShare 33 = .ok (.iaload, 1) := by decide +kernel
theorem dX10_lentShare_34 : decode cX10_lentShare 34 = .ok (.i2f, 1) := by decide +kernel
theorem dX10_lentShare_35 : decode cX10_lentShare 35 = .ok (.fdiv, 1) := by decide +kernel
theorem dX10_lentShare_36 : decode cX10_lentShare 36 = .ok (.freturn, 1) := by decide +kernel
theorem dX10_isConsistent_0 : decode cX10_isConsistent 0 = .ok (.aload_n 0, 1) := by decide +kernel
theorem dX10_isConsistent_1 : decode cX10_isConsistent 1 = .ok (.iconst 0, 1) := by decide +kernel
theorem dX10_isConsistent_2 : decode cX10_isConsistent 2 = .ok (.putfield 54, 3) := by decide +kernel
theorem dX10_isConsistent_5 : decode cX10_isConsistent 5 = .ok (.iconst 1, 1) := by decide +kernel
theorem dX10_isConsistent_6 : decode cX10_isConsistent 6 = .ok (.ireturn, 1) := by decide +kernel
theorem dX10_sign_0 : decode cX10_sign 0 = .ok (.aload_n 0, 1) := by decide +kernel
theorem dX10_sign_1 : decode cX10_sign 1 = .ok (.getfield 41, 3) := by decide +kernel
theorem dX10_sign_4 : decode cX10_sign 4 = .ok (.aload_n 0, 1) := by decide +kernel
theorem dX10_sign_5 : decode cX10_sign 5 = .ok (.getfield 246, 3) := by decide +kernel
theorem dX10_sign_8 : decode cX10_sign 8 = .ok (.iload_n 1, 1) := by decide +kernel
theorem dX10_sign_9 : decode cX10_sign 9 = .ok (.iastore, 1) := by decide +kernel
theorem dX10_sign_10 : decode cX10_sign 10 = .ok (.aload_n 0, 1) := by decide +kernel
theorem dX10_sign_11 : decode cX10_sign 11 = .ok (.dup, 1) := by decide +kernel
theorem dX10_sign_12 : decode cX10_sign 12 = .ok (.getfield 246, 3) := by decide +kernel
theorem dX10_sign_15 : decode cX10_sign 15 = .ok (.iconst 1, 1) := by decide +kernel
theorem dX10_sign_16 : decode cX10_sign 16 = .ok (.iadd, 1) := by decide +kernel
theorem dX10_sign_17 : decode cX10_sign 17 = .ok (.putfield 246, 3) := by decide +kernel
theorem dX10_sign_20 : decode cX10_sign 20 = .ok (.return_, 1) := by decide +kernel
theorem dX10_writesNumber_0 : decode cX10_writesNumber 0 = .ok (.iconst 1, 1) := by decide +kernel
theorem dX10_writesNumber_1 : decode cX10_writesNumber 1 = .ok (.istore_n 2, 1) := by decide +kernel
theorem dX10_writesNumber_2 : decode cX10_writesNumber 2 = .ok (.iload_n 1, 1) := by decide +kernel
theorem dX10_writesNumber_3 : decode cX10_writesNumber 3 = .ok (.iload_n 2, 1) := by decide +kernel
theorem dX10_writesNumber_4 : decode cX10_writesNumber 4 = .ok (.idiv, 1) := by decide +kernel
theorem dX10_writesNumber_5 : decode cX10_writesNumber 5 = .ok (.bipush 9, 2) := by decide +kernel
theorem dX10_writesNumber_7 : decode cX10_writesNumber 7 = .ok (.if_icmp .le 11, 3) := by decide +kernel
theorem dX10_writesNumber_10 : decode cX10_writesNumber 10 = .ok (.iload_n 2, 1) := by decide +kernel
theorem dX10_writesNumber_11 : decode cX10_writesNumber 11 = .ok (.bipush 10, 2) := by decide +kernel
theorem dX10_writesNumber_13 : decode cX10_writesNumber 13 = .ok (.imul, 1) := by decide +kernel
theorem dX10_writesNumber_14 : decode cX10_writesNumber 14 = .ok (.istore_n 2, 1) := by decide +kernel
theorem dX10_writesNumber_15 : decode cX10_writesNumber 15 = .ok (.goto (-13), 3) := by decide +kernel
theorem dX10_writesNumber_18 : decode cX10_writesNumber 18 = .ok (.iload_n 2, 1) := by decide +kernel
theorem dX10_writesNumber_19 : decode cX10_writesNumber 19 = .ok (.ifCond .le 24, 3) := by decide +kernel
theorem dX10_writesNumber_22 : decode cX10_writesNumber 22 = .ok (.aload_n 0, 1) := by decide +kernel
theorem dX10_writesNumber_23 : decode cX10_writesNumber 23 = .ok (.bipush 48, 2) := by decide +kernel
theorem dX10_writesNumber_25 : decode cX10_writesNumber 25 = .ok (.iload_n 1, 1) := by decide +kernel
theorem dX10_writesNumber_26 : decode cX10_writesNumber 26 = .ok (.iload_n 2, 1) := by decide +kernel
theorem dX10_writesNumber_27 : decode cX10_writesNumber 27 = .ok (.idiv, 1) := by decide +kernel
theorem dX10_writesNumber_28 : decode cX10_writesNumber 28 = .ok (.bipush 10, 2) := by decide +kernel
theorem dX10_writesNumber_30 : decode cX10_writesNumber 30 = .ok (.irem, 1) := by decide +kernel
theorem dX10_writesNumber_31 : decode cX10_writesNumber 31 = .ok (.iadd, 1) := by decide +kernel
theorem dX10_writesNumber_32 : decode cX10_writesNumber 32 = .ok (.invokevirtual 249, 3) := by decide +kernel
theorem dX10_writesNumber_35 : decode cX10_writesNumber 35 = .ok (.iload_n 2, 1) := by decide +kernel
theorem dX10_writesNumber_36 : decode cX10_writesNumber 36 = .ok (.bipush 10, 2) := by decide +kernel
theorem dX10_writesNumber_38 : decode cX10_writesNumber 38 = .ok (.idiv, 1) := by decide +kernel
theorem dX10_writesNumber_39 : decode cX10_writesNumber 39 = .ok (.istore_n 2, 1) := by decide +kernel
theorem dX10_writesNumber_40 : decode cX10_writesNumber 40 = .ok (.goto (-22), 3) := by decide +kernel
theorem dX10_writesNumber_43 : decode cX10_writesNumber 43 = .ok (.return_, 1) := by decide +kernel
theorem dX10_writes_0 : decode cX10_writes 0 = .ok (.aload_n 0, 1) := by decide +kernel
theorem dX10_writes_1 : decode cX10_writes 1 = .ok (.iload_n 1, 1) := by decide +kernel
theorem dX10_writes_2 : decode cX10_writes 2 = .ok (.invokevirtual 249, 3) := by decide +kernel
theorem dX10_writes_5 : decode cX10_writes 5 = .ok (.aload_n 0, 1) := by decide +kernel
theorem dX10_writes_6 : decode cX10_writes 6 = .ok (.iload_n 2, 1) := by decide +kernel
theorem dX10_writes_7 : decode cX10_writes 7 = .ok (.invokevirtual 252, 3) := by decide +kernel
theorem dX10_writes_10 : decode cX10_writes 10 = .ok (.return_, 1) := by decide +kernel
theorem dX10_renderRack_0 : decode cX10_renderRack 0 = .ok (.aload_n 0, 1) := by decide +kernel
theorem dX10_renderRack_1 : decode cX10_renderRack 1 = .ok (.iconst 0, 1) := by decide +kernel
theorem dX10_renderRack_2 : decode cX10_renderRack 2 = .ok (.putfield 54, 3) := by decide +kernel
theorem dX10_renderRack_5 : decode cX10_renderRack 5 = .ok (.iload_n 1, 1) := by decide +kernel
theorem dX10_renderRack_6 : decode cX10_renderRack 6 = .ok (.invokestatic 123, 3) := by decide +kernel
theorem dX10_renderRack_9 : decode cX10_renderRack 9 = .ok (.ifCond .ne 9, 3) := by decide +kernel
theorem dX10_renderRack_12 : decode cX10_renderRack 12 = .ok (.aload_n 0, 1) := by decide +kernel
theorem dX10_renderRack_13 : decode cX10_renderRack 13 = .ok (.iconst 1, 1) := by decide +kernel
theorem dX10_renderRack_14 : decode cX10_renderRack 14 = .ok (.invokevirtual 120, 3) := by decide +kernel
theorem dX10_renderRack_17 : decode cX10_renderRack 17 = .ok (.ireturn, 1) := by decide +kernel
theorem dX10_renderRack_18 : decode cX10_renderRack 18 = .ok (.aload_n 0, 1) := by decide +kernel
theorem dX10_renderRack_19 : decode cX10_renderRack 19 = .ok (.iconst 0, 1) := by decide +kernel
theorem dX10_renderRack_20 : decode cX10_renderRack 20 = .ok (.putfield 246, 3) := by decide +kernel
theorem dX10_renderRack_23 : decode cX10_renderRack 23 = .ok (.iconst 0, 1) := by decide +kernel
theorem dX10_renderRack_24 : decode cX10_renderRack 24 = .ok (.istore_n 2, 1) := by decide +kernel
theorem dX10_renderRack_25 : decode cX10_renderRack 25 = .ok (.iload_n 2, 1) := by decide +kernel
theorem dX10_renderRack_26 : decode cX10_renderRack 26 = .ok (.bipush 6, 2) := by decide +kernel
theorem dX10_renderRack_28 : decode cX10_renderRack 28 = .ok (.if_icmp .ge 48, 3) := by decide +kernel
theorem dX10_renderRack_31 : decode cX10_renderRack 31 = .ok (.iload_n 2, 1) := by decide +kernel
theorem dX10_renderRack_32 : decode cX10_renderRack 32 = .ok (.ifCond .le 9, 3) := by decide +kernel
theorem dX10_renderRack_35 : decode cX10_renderRack 35 = .ok (.aload_n 0, 1) := by decide +kernel
theorem dX10_renderRack_36 : decode cX10_renderRack 36 = .ok (.bipush 44, 2) := by decide +kernel
theorem dX10_renderRack_38 : decode cX10_renderRack 38 = .ok (.invokevirtual 249, 3) := by decide +kernel
theorem dX10_renderRack_41 : decode cX10_renderRack 41 = .ok (.aload_n 0, 1) := by decide +kernel
theorem dX10_renderRack_42 : decode cX10_renderRack 42 = .ok (.iload_n 1, 1) := by decide +kernel
theorem dX10_renderRack_43 : decode cX10_renderRack 43 = .ok (.iload_n 2, 1) := by decide +kernel
theorem dX10_renderRack_44 : decode cX10_renderRack 44 = .ok (.invokevirtual 72, 3) := by decide +kernel
theorem dX10_renderRack_47 : decode cX10_renderRack 47 = .ok (.iconst (-1), 1) := by decide +kernel
theorem dX10_renderRack_48 : decode cX10_renderRack 48 = .ok (.if_icmp .ne 12, 3) := by decide +kernel
theorem dX10_renderRack_51 : decode cX10_renderRack 51 = .ok (.aload_n 0, 1) := by decide +kernel
theorem dX10_renderRack_52 : decode cX10_renderRack 52 = .ok (.bipush 45, 2) := by decide +kernel
theorem dX10_renderRack_54 : decode cX10_renderRack 54 = .ok (.invokevirtual 249, 3) := by decide +kernel
theorem dX10_renderRack_57 : decode cX10_renderRack 57 = .ok (.goto 13, 3) := by decide +kernel
theorem dX10_renderRack_60 : decode cX10_renderRack 60 = .ok (.aload_n 0, 1) := by decide +kernel
theorem dX10_renderRack_61 : decode cX10_renderRack 61 = .ok (.aload_n 0, 1) := by decide +kernel
theorem dX10_renderRack_62 : decode cX10_renderRack 62 = .ok (.iload_n 1, 1) := by decide +kernel
theorem dX10_renderRack_63 : decode cX10_renderRack 63 = .ok (.iload_n 2, 1) := by decide +kernel
theorem dX10_renderRack_64 : decode cX10_renderRack 64 = .ok (.invokevirtual 72, 3) := by decide +kernel
theorem dX10_renderRack_67 : decode cX10_renderRack 67 = .ok (.invokevirtual 252, 3) := by decide +kernel
theorem dX10_renderRack_70 : decode cX10_renderRack 70 = .ok (.iinc 2 1, 3) := by decide +kernel
theorem dX10_renderRack_73 : decode cX10_renderRack 73 = .ok (.goto (-48), 3) := by decide +kernel
theorem dX10_renderRack_76 : decode cX10_renderRack 76 = .ok (.aload_n 0, 1) := by decide +kernel
theorem dX10_renderRack_77 : decode cX10_renderRack 77 = .ok (.getfield 246, 3) := by decide +kernel
theorem dX10_renderRack_80 : decode cX10_renderRack 80 = .ok (.ireturn, 1) := by decide +kernel
theorem dX10_renderHammer_0 : decode cX10_renderHammer 0 = .ok (.aload_n 0, 1) := by decide +kernel
theorem dX10_renderHammer_1 : decode cX10_renderHammer 1 = .ok (.iconst 0, 1) := by decide +kernel
theorem dX10_renderHammer_2 : decode cX10_renderHammer 2 = .ok (.putfield 54, 3) := by decide +kernel
theorem dX10_renderHammer_5 : decode cX10_renderHammer 5 = .ok (.aload_n 0, 1) := by decide +kernel
theorem dX10_renderHammer_6 : decode cX10_renderHammer 6 = .ok (.iload_n 1, 1) := by decide +kernel
theorem dX10_renderHammer_7 : decode cX10_renderHammer 7 = .ok (.invokevirtual 138, 3) := by decide +kernel
theorem dX10_renderHammer_10 : decode cX10_renderHammer 10 = .ok (.ifCond .ne 9, 3) := by decide +kernel
theorem dX10_renderHammer_13 : decode cX10_renderHammer 13 = .ok (.aload_n 0, 1) := by decide +kernel
theorem dX10_renderHammer_14 : decode cX10_renderHammer 14 = .ok (.iconst 1, 1) := by decide +kernel
theorem dX10_renderHammer_15 : decode cX10_renderHammer 15 = .ok (.invokevirtual 120, 3) := by decide +kernel
theorem dX10_renderHammer_18 : decode cX10_renderHammer 18 = .ok (.ireturn, 1) := by decide +kernel
theorem dX10_renderHammer_19 : decode cX10_renderHammer 19 = .ok (.iload_n 1, 1) := by decide +kernel
theorem dX10_renderHammer_20 : decode cX10_renderHammer 20 = .ok (.invokestatic 68, 3) := by decide +kernel
theorem dX10_renderHammer_23 : decode cX10_renderHammer 23 = .ok (.istore_n 2, 1) := by decide +kernel
theorem dX10_renderHammer_24 : decode cX10_renderHammer 24 = .ok (.aload_n 0, 1) := by decide +kernel
theorem dX10_renderHammer_25 : decode cX10_renderHammer 25 = .ok (.iconst 0, 1) := by decide +kernel
theorem dX10_renderHammer_26 : decode cX10_renderHammer 26 = .ok (.putfield 246, 3) := by decide +kernel
theorem dX10_renderHammer_29 : decode cX10_renderHammer 29 = .ok (.aload_n 0, 1) := by decide +kernel
theorem dX10_renderHammer_30 : decode cX10_renderHammer 30 = .ok (.iload_n 1, 1) := by decide +kernel
theorem dX10_renderHammer_31 : decode cX10_renderHammer 31 = .ok (.invokevirtual 252, 3) := by decide +kernel
theorem dX10_renderHammer_34 : decode cX10_renderHammer 34 = .ok (.aload_n 0, 1) := by decide +kernel
theorem dX10_renderHammer_35 : decode cX10_renderHammer 35 = .ok (.bipush 112, 2) := by decide +kernel
theorem dX10_renderHammer_37 : decode cX10_renderHammer 37 = .ok (.aload_n 0, 1) := by decide +kernel
theorem dX10_renderHammer_38 : decode cX10_renderHammer 38 = .ok (.getfield 9, 3) := by decide +kernel
theorem dX10_renderHammer_41 : decode cX10_renderHammer 41 = .ok (.iload_n 2, 1) := by decide +kernel
theorem dX10_renderHammer_42 : decode cX10_renderHammer 42 = .ok (.iaload, 1) := by decide +kernel
theorem dX10_renderHammer_43 : decode cX10_renderHammer 43 = .ok (.invokevirtual 255, 3) := by decide +kernel
theorem dX10_renderHammer_46 : decode cX10_renderHammer 46 = .ok (.aload_n 0, 1) := by decide +kernel
theorem dX10_renderHammer_47 : decode cX10_renderHammer 47 = .ok (.bipush 119, 2) := by decide +kernel
theorem dX10_renderHammer_49 : decode cX10_renderHammer 49 = .ok (.aload_n 0, 1) := by decide +kernel
theorem dX10_renderHammer_50 : decode cX10_renderHammer 50 = .ok (.getfield 9, 3) := by decide +kernel
theorem dX10_renderHammer_53 : decode cX10_renderHammer 53 = .ok (.iload_n 2, 1) := by decide +kernel
theorem dX10_renderHammer_54 : decode cX10_renderHammer 54 = .ok (.iconst 1, 1) := by decide +kernel
theorem dX10_renderHammer_55 : decode cX10_renderHammer 55 = .ok (.iadd, 1) := by decide +kernel
theorem dX10_renderHammer_56 : decode cX10_renderHammer 56 = .ok (.iaload, 1) := by decide +kernel
theorem dX10_renderHammer_57 : decode cX10_renderHammer 57 = .ok (.invokevirtual 255, 3) := by decide +kernel
theorem dX10_renderHammer_60 : decode cX10_renderHammer 60 = .ok (.aload_n 0, 1) := by decide +kernel
theorem dX10_renderHammer_61 : decode cX10_renderHammer 61 = .ok (.getfield 9, 3) := by decide +kernel
theorem dX10_renderHammer_64 : decode cX10_renderHammer 64 = .ok (.iload_n 2, 1) := by decide +kernel
theorem dX10_renderHammer_65 : decode cX10_renderHammer 65 = .ok (.iconst 2, 1) := by decide +kernel
theorem dX10_renderHammer_66 : decode cX10_renderHammer 66 = .ok (.iadd, 1) := by decide +kernel
theorem dX10_renderHammer_67 : decode cX10_renderHammer 67 = .ok (.iaload, 1) := by decide +kernel
theorem dX10_renderHammer_68 : decode cX10_renderHammer 68 = .ok (.iconst (-1), 1) := by decide +kernel
theorem dX10_renderHammer_69 : decode cX10_renderHammer 69 = .ok (.if_icmp .ne 31, 3) := by decide +kernel
theorem dX10_renderHammer_72 : decode cX10_renderHammer 72 = .ok (.aload_n 0, 1) := by decide +kernel
theorem dX10_renderHammer_73 : decode cX10_renderHammer 73 = .ok (.bipush 64, 2) := by decide +kernel
theorem dX10_renderHammer_75 : decode cX10_renderHammer 75 = .ok (.aload_n 0, 1) := by decide +kernel
theorem dX10_renderHammer_76 : decode cX10_renderHammer 76 = .ok (.getfield 9, 3) := by decide +kernel
theorem dX10_renderHammer_79 : decode cX10_renderHammer 79 = .ok (.iload_n 2, 1) := by decide +kernel
theorem dX10_renderHammer_80 : decode cX10_renderHammer 80 = .ok (.iconst 4, 1) := by decide +kernel
theorem dX10_renderHammer_81 : decode cX10_renderHammer 81 = .ok (.iadd, 1) := by decide +kernel
theorem dX10_renderHammer_82 : decode cX10_renderHammer 82 = .ok (.iaload, 1) := by decide +kernel
theorem dX10_renderHammer_83 : decode cX10_renderHammer 83 = .ok (.invokevirtual 255, 3) := by decide +kernel
theorem dX10_renderHammer_86 : decode cX10_renderHammer 86 = .ok (.aload_n 0, 1) := by decide +kernel
theorem dX10_renderHammer_87 : decode cX10_renderHammer 87 = .ok (.bipush 60, 2) := by decide +kernel
theorem dX10_renderHammer_89 : decode cX10_renderHammer 89 = .ok (.aload_n 0, 1) := by decide +kernel
theorem dX10_renderHammer_90 : decode cX10_renderHammer 90 = .ok (.getfield 9, 3) := by decide +kernel
theorem dX10_renderHammer_93 : decode cX10_renderHammer 93 = .ok (.iload_n 2, 1) := by decide +kernel
theorem dX10_renderHammer_94 : decode cX10_renderHammer 94 = .ok (.iconst 5, 1) := by decide +kernel
theorem dX10_renderHammer_95 : decode cX10_renderHammer 95 = .ok (.iadd, 1) := by decide +kernel
theorem dX10_renderHammer_96 : decode cX10_renderHammer 96 = .ok (.iaload, 1) := by decide +kernel
theorem dX10_renderHammer_97 : decode cX10_renderHammer 97 = .ok (.invokevirtual 255, 3) := by decide +kernel
theorem dX10_renderHammer_100 : decode cX10_renderHammer 100 = .ok (.aload_n 0, 1) := by decide +kernel
theorem dX10_renderHammer_101 : decode cX10_renderHammer 101 = .ok (.getfield 246, 3) := by decide +kernel
theorem dX10_renderHammer_104 : decode cX10_renderHammer 104 = .ok (.ireturn, 1) := by decide +kernel
theorem dX10_outputAt_0 : decode cX10_outputAt 0 = .ok (.aload_n 0, 1) := by decide +kernel
theorem dX10_outputAt_1 : decode cX10_outputAt 1 = .ok (.iconst 0, 1) := by decide +kernel
theorem dX10_outputAt_2 : decode cX10_outputAt 2 = .ok (.putfield 54, 3) := by decide +kernel
theorem dX10_outputAt_5 : decode cX10_outputAt 5 = .ok (.iload_n 1, 1) := by decide +kernel
theorem dX10_outputAt_6 : decode cX10_outputAt 6 = .ok (.i2l, 1) := by decide +kernel
theorem dX10_outputAt_7 : decode cX10_outputAt 7 = .ok (.lconst 0, 1) := by decide +kernel
theorem dX10_outputAt_8 : decode cX10_outputAt 8 = .ok (.aload_n 0, 1) := by decide +kernel
theorem dX10_outputAt_9 : decode cX10_outputAt 9 = .ok (.getfield 246, 3) := by decide +kernel
theorem dX10_outputAt_12 : decode cX10_outputAt 12 = .ok (.iconst 1, 1) := by decide +kernel
theorem dX10_outputAt_13 : decode cX10_outputAt 13 = .ok (.isub, 1) := by decide +kernel
theorem dX10_outputAt_14 : decode cX10_outputAt 14 = .ok (.i2l, 1) := by decide +kernel
theorem dX10_outputAt_15 : decode cX10_outputAt 15 = .ok (.invokestatic 60, 3) := by decide +kernel
theorem dX10_outputAt_18 : decode cX10_outputAt 18 = .ok (.ifCond .eq 13, 3) := by decide +kernel
theorem dX10_outputAt_21 : decode cX10_outputAt 21 = .ok (.aload_n 0, 1) := by decide +kernel
theorem dX10_outputAt_22 : decode cX10_outputAt 22 = .ok (.getfield 41, 3) := by decide +kernel
theorem dX10_outputAt_25 : decode cX10_outputAt 25 = .ok (.iload_n 1, 1) := by decide +kernel
theorem dX10_outputAt_26 : decode cX10_outputAt 26 = .ok (.iaload, 1) := by decide +kernel
theorem dX10_outputAt_27 : decode cX10_outputAt 27 = .ok (.i2c, 1) := by decide +kernel
theorem dX10_outputAt_28 : decode cX10_outputAt 28 = .ok (.goto 9, 3) := by decide +kernel
theorem dX10_outputAt_31 : decode cX10_outputAt 31 = .ok (.aload_n 0, 1) := by decide +kernel
theorem dX10_outputAt_32 : decode cX10_outputAt 32 = .ok (.iconst 1, 1) := by decide +kernel
theorem dX10_outputAt_33 : decode cX10_outputAt 33 = .ok (.invokevirtual 120, 3) := by decide +kernel
theorem dX10_outputAt_36 : decode cX10_outputAt 36 = .ok (.i2c, 1) := by decide +kernel
theorem dX10_outputAt_37 : decode cX10_outputAt 37 = .ok (.ireturn, 1) := by decide +kernel
theorem dX10_type_0 : decode cX10_type 0 = .ok (.aload_n 0, 1) := by decide +kernel
theorem dX10_type_1 : decode cX10_type 1 = .ok (.iconst 0, 1) := by decide +kernel
theorem dX10_type_2 : decode cX10_type 2 = .ok (.putfield 54, 3) := by decide +kernel
theorem dX10_type_5 : decode cX10_type 5 = .ok (.iload_n 1, 1) := by decide +kernel
theorem dX10_type_6 : decode cX10_type 6 = .ok (.i2l, 1) := by decide +kernel
theorem dX10_type_7 : decode cX10_type 7 = .ok (.ldc2_w 258, 3) := by decide +kernel
theorem dX10_type_10 : decode cX10_type 10 = .ok (.ldc2_w 260, 3) := by decide +kernel
theorem dX10_type_13 : decode cX10_type 13 = .ok (.invokestatic 60, 3) := by decide +kernel
theorem dX10_type_16 : decode cX10_type 16 = .ok (.ifCond .ne 9, 3) := by decide +kernel
theorem dX10_type_19 : decode cX10_type 19 = .ok (.aload_n 0, 1) := by decide +kernel
theorem dX10_type_20 : decode cX10_type 20 = .ok (.iconst 1, 1) := by decide +kernel
theorem dX10_type_21 : decode cX10_type 21 = .ok (.invokevirtual 120, 3) := by decide +kernel
theorem dX10_type_24 : decode cX10_type 24 = .ok (.ireturn, 1) := by decide +kernel
theorem dX10_type_25 : decode cX10_type 25 = .ok (.aload_n 0, 1) := by decide +kernel
theorem dX10_type_26 : decode cX10_type 26 = .ok (.getfield 262, 3) := by decide +kernel
theorem dX10_type_29 : decode cX10_type 29 = .ok (.bipush 60, 2) := by decide +kernel
theorem dX10_type_31 : decode cX10_type 31 = .ok (.if_icmp .ne 9, 3) := by decide +kernel
theorem dX10_type_34 : decode cX10_type 34 = .ok (.aload_n 0, 1) := by decide +kernel
theorem dX10_type_35 : decode cX10_type 35 = .ok (.iconst 2, 1) := by decide +kernel
theorem dX10_type_36 : decode cX10_type 36 = .ok (.invokevirtual 120, 3) := by decide +kernel
theorem dX10_type_39 : decode cX10_type 39 = .ok (.ireturn, 1) := by decide +kernel
theorem dX10_type_40 : decode cX10_type 40 = .ok (.aload_n 0, 1) := by decide +kernel
theorem dX10_type_41 : decode cX10_type 41 = .ok (.getfield 29, 3) := by decide +kernel
theorem dX10_type_44 : decode cX10_type 44 = .ok (.aload_n 0, 1) := by decide +kernel
theorem dX10_type_45 : decode cX10_type 45 = .ok (.getfield 262, 3) := by decide +kernel
theorem dX10_type_48 : decode cX10_type 48 = .ok (.iload_n 1, 1) := by decide +kernel
theorem dX10_type_49 : decode cX10_type 49 = .ok (.iastore, 1) := by decide +kernel
theorem dX10_type_50 : decode cX10_type 50 = .ok (.aload_n 0, 1) := by decide +kernel
theorem dX10_type_51 : decode cX10_type 51 = .ok (.dup, 1) := by decide +kernel
theorem dX10_type_52 : decode cX10_type 52 = .ok (.getfield 262, 3) := by decide +kernel
theorem dX10_type_55 : decode cX10_type 55 = .ok (.iconst 1, 1) := by decide +kernel
theorem dX10_type_56 : decode cX10_type 56 = .ok (.iadd, 1) := by decide +kernel
theorem dX10_type_57 : decode cX10_type 57 = .ok (.putfield 262, 3) := by decide +kernel
theorem dX10_type_60 : decode cX10_type 60 = .ok (.aload_n 0, 1) := by decide +kernel
theorem dX10_type_61 : decode cX10_type 61 = .ok (.getfield 262, 3) := by decide +kernel
theorem dX10_type_64 : decode cX10_type 64 = .ok (.ireturn, 1) := by decide +kernel
theorem dX10_here_0 : decode cX10_here 0 = .ok (.aload_n 0, 1) := by decide +kernel
theorem dX10_here_1 : decode cX10_here 1 = .ok (.getfield 265, 3) := by decide +kernel
theorem dX10_here_4 : decode cX10_here 4 = .ok (.aload_n 0, 1) := by decide +kernel
theorem dX10_here_5 : decode cX10_here 5 = .ok (.getfield 268, 3) := by decide +kernel
theorem dX10_here_8 : decode cX10_here 8 = .ok (.if_icmp .ge 15, 3) := by decide +kernel
theorem dX10_here_11 : decode cX10_here 11 = .ok (.aload_n 0, 1) := by decide +kernel
theorem dX10_here_12 : decode cX10_here 12 = .ok (.getfield 29, 3) := by decide +kernel
theorem dX10_here_15 : decode cX10_here 15 = .ok (.aload_n 0, 1) := by decide +kernel
theorem dX10_here_16 : decode cX10_here 16 = .ok (.getfield 265, 3) := by decide +kernel
theorem dX10_here_19 : decode cX10_here 19 = .ok (.iaload, 1) := by decide +kernel
theorem dX10_here_20 : decode cX10_here 20 = .ok (.goto 4, 3) := by decide +kernel
theorem dX10_here_23 : decode cX10_here 23 = .ok (.iconst (-1), 1) := by decide +kernel
theorem dX10_here_24 : decode cX10_here 24 = .ok (.ireturn, 1) := by decide +kernel
theorem dX10_expects_0 : decode cX10_expects 0 = .ok (.aload_n 0, 1) := by decide +kernel
theorem dX10_expects_1 : decode cX10_expects 1 = .ok (.aload_n 0, 1) := by decide +kernel
theorem dX10_expects_2 : decode cX10_expects 2 = .ok (.getfield 271, 3) := by decide +kernel
theorem dX10_expects_5 : decode cX10_expects 5 = .ok (.ifCond .ne 11, 3) := by decide +kernel
theorem dX10_expects_8 : decode cX10_expects 8 = .ok (.aload_n 0, 1) := by decide +kernel
theorem dX10_expects_9 : decode cX10_expects 9 = .ok (.invokevirtual 275, 3) := by decide +kernel
theorem dX10_expects_12 : decode cX10_expects 12 = .ok (.iload_n 1, 1) := by decide +kernel
theorem dX10_expects_13 : decode cX10_expects 13 = .ok (.if_icmp .eq 7, 3) := by decide +kernel
theorem dX10_expects_16 : decode cX10_expects 16 = .ok (.iconst 1, 1) := by decide +kernel
theorem dX10_expects_17 : decode cX10_expects 17 = .ok (.goto 4, 3) := by decide +kernel
theorem dX10_expects_20 : decode cX10_expects 20 = .ok (.iconst 0, 1) := by decide +kernel
theorem dX10_expects_21 : decode cX10_expects 21 = .ok (.putfield 271, 3) := by decide +kernel
theorem dX10_expects_24 : decode cX10_expects 24 = .ok (.aload_n 0, 1) := by decide +kernel
theorem dX10_expects_25 : decode cX10_expects 25 = .ok (.dup, 1) := by decide +kernel
theorem dX10_expects_26 : decode cX10_expects 26 = .ok (.getfield 265, 3) := by decide +kernel
theorem dX10_expects_29 : decode cX10_expects 29 = .ok (.aload_n 0, 1) := by decide +kernel
theorem dX10_expects_30 : decode cX10_expects 30 = .ok (.getfield 271, 3) := by decide +kernel
theorem dX10_expects_33 : decode cX10_expects 33 = .ok (.ifCond .eq 7, 3) := by decide +kernel
theorem dX10_expects_36 : decode cX10_expects 36 = .ok (.iconst 0, 1) := by decide +kernel
theorem dX10_expects_37 : decode cX10_expects 37 = .ok (.goto 4, 3) := by decide +kernel
theorem dX10_expects_40 : decode cX10_expects 40 = .ok (.iconst 1, 1) := by decide +kernel
theorem dX10_expects_41 : decode cX10_expects 41 = .ok (.iadd, 1) := by decide +kernel
theorem dX10_expects_42 : decode cX10_expects 42 = .ok (.putfield 265, 3) := by decide +kernel
theorem dX10_expects_45 : decode cX10_expects 45 = .ok (.return_, 1) := by decide +kernel
theorem dX10_digit_0 : decode cX10_digit 0 = .ok (.aload_n 0, 1) := by decide +kernel
theorem dX10_digit_1 : decode cX10_digit 1 = .ok (.aload_n 0, 1) := by decide +kernel
theorem dX10_digit_2 : decode cX10_digit 2 = .ok (.getfield 271, 3) := by decide +kernel
theorem dX10_digit_5 : decode cX10_digit 5 = .ok (.ifCond .ne 20, 3) := by decide +kernel
theorem dX10_digit_8 : decode cX10_digit 8 = .ok (.aload_n 0, 1) := by decide +kernel
theorem dX10_digit_9 : decode cX10_digit 9 = .ok (.invokevirtual 275, 3) := by decide +kernel
theorem dX10_digit_12 : decode cX10_digit 12 = .ok (.i2l, 1) := by decide +kernel
theorem dX10_digit_13 : decode cX10_digit 13 = .ok (.ldc2_w 278, 3) := by decide +kernel
theorem dX10_digit_16 : decode cX10_digit 16 = .ok (.ldc2_w 280, 3) := by decide +kernel
theorem dX10_digit_19 : decode cX10_digit 19 = .ok (.invokestatic 60, 3) := by decide +kernel
theorem dX10_digit_22 : decode cX10_digit 22 = .ok (.ifCond .ne 7, 3) := by decide +kernel
theorem dX10_digit_25 : decode cX10_digit 25 = .ok (.iconst 1, 1) := by decide +kernel
theorem dX10_digit_26 : decode cX10_digit 26 = .ok (.goto 4, 3) := by decide +kernel
theorem dX10_digit_29 : decode cX10_digit 29 = .ok (.iconst 0, 1) := by decide +kernel
theorem dX10_digit_30 : decode cX10_digit 30 = .ok (.putfield 271, 3) := by decide +kernel
theorem dX10_digit_33 : decode cX10_digit 33 = .ok (.aload_n 0, 1) := by decide +kernel
theorem dX10_digit_34 : decode cX10_digit 34 = .ok (.getfield 271, 3) := by decide +kernel
theorem dX10_digit_37 : decode cX10_digit 37 = .ok (.ifCond .eq 7, 3) := by decide +kernel
theorem dX10_digit_40 : decode cX10_digit 40 = .ok (.iconst 0, 1) := by decide +kernel
theorem dX10_digit_41 : decode cX10_digit 41 = .ok (.goto 10, 3) := by decide +kernel
theorem dX10_digit_44 : decode cX10_digit 44 = .ok (.aload_n 0, 1) := by decide +kernel
theorem dX10_digit_45 : decode cX10_digit 45 = .ok (.invokevirtual 275, 3) := by decide +kernel
theorem dX10_digit_48 : decode cX10_digit 48 = .ok (.bipush 48, 2) := by decide +kernel
theorem dX10_digit_50 : decode cX10_digit 50 = .ok (.isub, 1) := by decide +kernel
theorem dX10_digit_51 : decode cX10_digit 51 = .ok (.istore_n 1, 1) := by decide +kernel
theorem dX10_digit_52 : decode cX10_digit 52 = .ok (.aload_n 0, 1) := by decide +kernel
theorem dX10_digit_53 : decode cX10_digit 53 = .ok (.dup, 1) := by decide +kernel
theorem dX10_digit_54 : decode cX10_digit 54 = .ok (.getfield 265, 3) := by decide +kernel
theorem dX10_digit_57 : decode cX10_digit 57 = .ok (.aload_n 0, 1) := by decide +kernel
theorem dX10_digit_58 : decode cX10_digit 58 = .ok (.getfield 271, 3) := by decide +kernel
theorem dX10_digit_61 : decode cX10_digit 61 = .ok (.ifCond .eq 7, 3) := by decide +kernel
theorem dX10_digit_64 : decode cX10_digit 64 = .ok (.iconst 0, 1) := by decide +kernel
theorem dX10_digit_65 : decode cX10_digit 65 = .ok (.goto 4, 3) := by decide +kernel
theorem dX10_digit_68 : decode cX10_digit 68 = .ok (.iconst 1, 1) := by decide +kernel
theorem dX10_digit_69 : decode cX10_digit 69 = .ok (.iadd, 1) := by decide +kernel
theorem dX10_digit_70 : decode cX10_digit 70 = .ok (.putfield 265, 3) := by decide +kernel
theorem dX10_digit_73 : decode cX10_digit 73 = .ok (.iload_n 1, 1) := by decide +kernel
theorem dX10_digit_74 : decode cX10_digit 74 = .ok (.ireturn, 1) := by decide +kernel
theorem dX10_number_0 : decode cX10_number 0 = .ok (.aload_n 0, 1) := by decide +kernel
theorem dX10_number_1 : decode cX10_number 1 = .ok (.invokevirtual 282, 3) := by decide +kernel
theorem dX10_number_4 : decode cX10_number 4 = .ok (.istore_n 1, 1) := by decide +kernel
theorem dX10_number_5 : decode cX10_number 5 = .ok (.iconst 0, 1) := by decide +kernel
theorem dX10_number_6 : decode cX10_number 6 = .ok (.istore_n 2, 1) := by decide +kernel
theorem dX10_number_7 : decode cX10_number 7 = .ok (.iload_n 2, 1) := by decide +kernel
theorem dX10_number_8 : decode cX10_number 8 = .ok (.iconst 2, 1) := by decide +kernel
theorem dX10_number_9 : decode cX10_number 9 = .ok (.if_icmp .ge 43, 3) := by decide +kernel
theorem dX10_number_12 : decode cX10_number 12 = .ok (.aload_n 0, 1) := by decide +kernel
theorem dX10_number_13 : decode cX10_number 13 = .ok (.getfield 271, 3) := by decide +kernel
theorem dX10_number_16 : decode cX10_number 16 = .ok (.ifCond .ne 36, 3) := by decide +kernel
theorem dX10_number_19 : decode cX10_number 19 = .ok (.aload_n 0, 1) := by decide +kernel
theorem dX10_number_20 : decode cX10_number 20 = .ok (.invokevirtual 275, 3) := by decide +kernel
theorem dX10_number_23 : decode cX10_number 23 = .ok (.i2l, 1) := by decide +kernel
theorem dX10_number_24 : decode cX10_number 24 = .ok (.ldc2_w 278, 3) := by decide +kernel
theorem dX10_number_27 : decode cX10_number 27 = .ok (.ldc2_w 280, 3) := by decide +kernel
theorem dX10_number_30 : decode cX10_number 30 = .ok (.invokestatic 60, 3) := by decide +kernel
theorem dX10_number_33 : decode cX10_number 33 = .ok (.ifCond .eq 19, 3) := by decide +kernel
theorem dX10_number_36 : decode cX10_number 36 = .ok (.bipush 10, 2) := by decide +kernel
theorem dX10_number_38 : decode cX10_number 38 = .ok (.iload_n 1, 1) := by decide +kernel
theorem dX10_number_39 : decode cX10_number 39 = .ok (.imul, 1) := by decide +kernel
theorem dX10_number_40 : decode cX10_number 40 = .ok (.aload_n 0, 1) := by decide +kernel
theorem dX10_number_41 : decode cX10_number 41 = .ok (.invokevirtual 282, 3) := by decide +kernel
theorem dX10_number_44 : decode cX10_number 44 = .ok (.iadd, 1) := by decide +kernel
theorem dX10_number_45 : decode cX10_number 45 = .ok (.istore_n 1, 1) := by decide +kernel
theorem dX10_number_46 : decode cX10_number 46 = .ok (.iinc 2 1, 3) := by decide +kernel
theorem dX10_number_49 : decode cX10_number 49 = .ok (.goto (-42), 3) := by decide +kernel
theorem dX10_number_52 : decode cX10_number 52 = .ok (.iload_n 1, 1) := by decide +kernel
theorem dX10_number_53 : decode cX10_number 53 = .ok (.ireturn, 1) := by decide +kernel
theorem dX10_digitBehind_0 : decode cX10_digitBehind 0 = .ok (.aload_n 0, 1) := by decide +kernel
theorem dX10_digitBehind_1 : decode cX10_digitBehind 1 = .ok (.iload_n 1, 1) := by decide +kernel
theorem dX10_digitBehind_2 : decode cX10_digitBehind 2 = .ok (.invokevirtual 285, 3) := by decide +kernel
theorem dX10_digitBehind_5 : decode cX10_digitBehind 5 = .ok (.aload_n 0, 1) := by decide +kernel
theorem dX10_digitBehind_6 : decode cX10_digitBehind 6 = .ok (.invokevirtual 282, 3) := by decide +kernel
theorem dX10_digitBehind_9 : decode cX10_digitBehind 9 = .ok (.ireturn, 1) := by decide +kernel
theorem dX10_numberBehind_0 : decode cX10_numberBehind 0 = .ok (.aload_n 0, 1) := by decide +kernel
theorem dX10_numberBehind_1 : decode cX10_numberBehind 1 = .ok (.iload_n 1, 1) := by decide +kernel
theorem dX10_numberBehind_2 : decode cX10_numberBehind 2 = .ok (.invokevirtual 285, 3) := by decide +kernel
theorem dX10_numberBehind_5 : decode cX10_numberBehind 5 = .ok (.aload_n 0, 1) := by decide +kernel
theorem dX10_numberBehind_6 : decode cX10_numberBehind 6 = .ok (.invokevirtual 288, 3) := by decide +kernel
theorem dX10_numberBehind_9 : decode cX10_numberBehind 9 = .ok (.ireturn, 1) := by decide +kernel
theorem dX10_likeness_0 : decode cX10_likeness 0 = .ok (.iconst 0, 1) := by decide +kernel
theorem dX10_likeness_1 : decode cX10_likeness 1 = .ok (.istore_n 2, 1) := by decide +kernel
theorem dX10_likeness_2 : decode cX10_likeness 2 = .ok (.aload_n 0, 1) := by decide +kernel
theorem dX10_likeness_3 : decode cX10_likeness 3 = .ok (.getfield 48, 3) := by decide +kernel
theorem dX10_likeness_6 : decode cX10_likeness 6 = .ok (.iload_n 1, 1) := by decide +kernel
theorem dX10_likeness_7 : decode cX10_likeness 7 = .ok (.iconst 1, 1) := by decide +kernel
theorem dX10_likeness_8 : decode cX10_likeness 8 = .ok (.iadd, 1) := by decide +kernel
theorem dX10_likeness_9 : decode cX10_likeness 9 = .ok (.iaload, 1) := by decide +kernel
theorem dX10_likeness_10 : decode cX10_likeness 10 = .ok (.aload_n 0, 1) := by decide +kernel
theorem dX10_likeness_11 : decode cX10_likeness 11 = .ok (.getfield 48, 3) := by decide +kernel
theorem dX10_likeness_14 : decode cX10_likeness 14 = .ok (.iload_n 1, 1) := by decide +kernel
theorem dX10_likeness_15 : decode cX10_likeness 15 = .ok (.iaload, 1) := by decide +kernel
theorem dX10_likeness_16 : decode cX10_likeness 16 = .ok (.isub, 1) := by decide +kernel
theorem dX10_likeness_17 : decode cX10_likeness 17 = .ok (.istore_n 3, 1) := by decide +kernel
theorem dX10_likeness_18 : decode cX10_likeness 18 = .ok (.iload_n 2, 1) := by decide +kernel
theorem dX10_likeness_19 : decode cX10_likeness 19 = .ok (.iload_n 3, 1) := by decide +kernel
theorem dX10_likeness_20 : decode cX10_likeness 20 = .ok (.if_icmp .ge 49, 3) := by decide +kernel
theorem dX10_likeness_23 : decode cX10_likeness 23 = .ok (.aload_n 0, 1) := by decide +kernel
theorem dX10_likeness_24 : decode cX10_likeness 24 = .ok (.getfield 265, 3) := by decide +kernel
theorem dX10_likeness_27 : decode cX10_likeness 27 = .ok (.iload_n 2, 1) := by decide +kernel
theorem dX10_likeness_28 : decode cX10_likeness 28 = .ok (.iadd, 1) := by decide +kernel
theorem dX10_likeness_29 : decode cX10_likeness 29 = .ok (.aload_n 0, 1) := by decide +kernel
theorem dX10_likeness_30 : decode cX10_likeness 30 = .ok (.getfield 268, 3) := by decide +kernel
theorem dX10_likeness_33 : decode cX10_likeness 33 = .ok (.if_icmp .ge 36, 3) := by decide +kernel
theorem dX10_likeness_36 : decode cX10_likeness 36 = .ok (.aload_n 0, 1) := by decide +kernel
theorem dX10_likeness_37 : decode cX10_likeness 37 = .ok (.getfield 29, 3) := by decide +kernel
theorem dX10_likeness_40 : decode cX10_likeness 40 = .ok (.aload_n 0, 1) := by decide +kernel
theorem dX10_likeness_41 : decode cX10_likeness 41 = .ok (.getfield 265, 3) := by decide +kernel
theorem dX10_likeness_44 : decode cX10_likeness 44 = .ok (.iload_n 2, 1) := by decide +kernel
theorem dX10_likeness_45 : decode cX10_likeness 45 = .ok (.iadd, 1) := by decide +kernel
theorem dX10_likeness_46 : decode cX10_likeness 46 = .ok (.iaload, 1) := by decide +kernel
theorem dX10_likeness_47 : decode cX10_likeness 47 = .ok (.aload_n 0, 1) := by decide +kernel
theorem dX10_likeness_48 : decode cX10_likeness 48 = .ok (.getfield 44, 3) := by decide +kernel
theorem dX10_likeness_51 : decode cX10_likeness 51 = .ok (.aload_n 0, 1) := by decide +kernel
theorem dX10_likeness_52 : decode cX10_likeness 52 = .ok (.getfield 48, 3) := by decide +kernel
theorem dX10_likeness_55 : decode cX10_likeness 55 = .ok (.iload_n 1, 1) := by decide +kernel
theorem dX10_likeness_56 : decode cX10_likeness 56 = .ok (.iaload, 1) := by decide +kernel
theorem dX10_likeness_57 : decode cX10_likeness 57 = .ok (.iload_n 2, 1) := by decide +kernel
theorem dX10_likeness_58 : decode cX10_likeness 58 = .ok (.iadd, 1) := by decide +kernel
theorem dX10_likeness_59 : decode cX10_likeness 59 = .ok (.caload, 1) := by decide +kernel
theorem dX10_likeness_60 : decode cX10_likeness 60 = .ok (.if_icmp .ne 9, 3) := by decide +kernel
theorem dX10_likeness_63 : decode cX10_likeness 63 = .ok (.iinc 2 1, 3) := by decide +kernel
theorem dX10_likeness_66 : decode cX10_likeness 66 = .ok (.goto (-48), 3) := by decide +kernel
theorem dX10_likeness_69 : decode cX10_likeness 69 = .ok (.iload_n 2, 1) := by decide +kernel
theorem dX10_likeness_70 : decode cX10_likeness 70 = .ok (.ireturn, 1) := by decide +kernel
theorem dX10_readAsk_0 : decode cX10_readAsk 0 = .ok (.aload_n 0, 1) := by decide +kernel
theorem dX10_readAsk_1 : decode cX10_readAsk 1 = .ok (.getfield 51, 3) := by decide +kernel
theorem dX10_readAsk_4 : decode cX10_readAsk 4 = .ok (.iload_n 1, 1) := by decide +kernel
theorem dX10_readAsk_5 : decode cX10_readAsk 5 = .ok (.aload_n 0, 1) := by decide +kernel
theorem dX10_readAsk_6 : decode cX10_readAsk 6 = .ok (.invokevirtual 282, 3) := by decide +kernel
theorem dX10_readAsk_9 : decode cX10_readAsk 9 = .ok (.iastore, 1) := by decide +kernel
theorem dX10_readAsk_10 : decode cX10_readAsk 10 = .ok (.aload_n 0, 1) := by decide +kernel
theorem dX10_readAsk_11 : decode cX10_readAsk 11 = .ok (.getfield 51, 3) := by decide +kernel
theorem dX10_readAsk_14 : decode cX10_readAsk 14 = .ok (.iload_n 1, 1) := by decide +kernel
theorem dX10_readAsk_15 : decode cX10_readAsk 15 = .ok (.iconst 1, 1) := by decide +kernel
theorem dX10_readAsk_16 : decode cX10_readAsk 16 = .ok (.iadd, 1) := by decide +kernel
theorem dX10_readAsk_17 : decode cX10_readAsk 17 = .ok (.aload_n 0, 1) := by decide +kernel
theorem dX10_readAsk_18 : decode cX10_readAsk 18 = .ok (.bipush 32, 2) := by decide +kernel
theorem dX10_readAsk_20 : decode cX10_readAsk 20 = .ok (.invokevirtual 291, 3) := by decide +kernel
theorem dX10_readAsk_23 : decode cX10_readAsk 23 = .ok (.iastore, 1) := by decide +kernel
theorem dX10_readAsk_24 : decode cX10_readAsk 24 = .ok (.aload_n 0, 1) := by decide +kernel
theorem dX10_readAsk_25 : decode cX10_readAsk 25 = .ok (.getfield 51, 3) := by decide +kernel
theorem dX10_readAsk_28 : decode cX10_readAsk 28 = .ok (.iload_n 1, 1) := by decide +kernel
theorem dX10_readAsk_29 : decode cX10_readAsk 29 = .ok (.iconst 2, 1) := by decide +kernel
theorem dX10_readAsk_30 : decode cX10_readAsk 30 = .ok (.iadd, 1) := by decide +kernel
theorem dX10_readAsk_31 : decode cX10_readAsk 31 = .ok (.aload_n 0, 1) := by decide +kernel
theorem dX10_readAsk_32 : decode cX10_readAsk 32 = .ok (.bipush 126, 2) := by decide +kernel
theorem dX10_readAsk_34 : decode cX10_readAsk 34 = .ok (.invokevirtual 291, 3) := by decide +kernel
theorem dX10_readAsk_37 : decode cX10_readAsk 37 = .ok (.iastore, 1) := by decide +kernel
theorem dX10_readAsk_38 : decode cX10_readAsk 38 = .ok (.aload_n 0, 1) := by decide +kernel
theorem dX10_readAsk_39 : decode cX10_readAsk 39 = .ok (.getfield 51, 3) := by decide +kernel
theorem dX10_readAsk_42 : decode cX10_readAsk 42 = .ok (.iload_n 1, 1) := by decide +kernel
theorem dX10_readAsk_43 : decode cX10_readAsk 43 = .ok (.iconst 3, 1) := by decide +kernel
theorem dX10_readAsk_44 : decode cX10_readAsk 44 = .ok (.iadd, 1) := by decide +kernel
theorem dX10_readAsk_45 : decode cX10_readAsk 45 = .ok (.aload_n 0, 1) := by decide +kernel
theorem dX10_readAsk_46 : decode cX10_readAsk 46 = .ok (.bipush 32, 2) := by decide +kernel
theorem dX10_readAsk_48 : decode cX10_readAsk 48 = .ok (.invokevirtual 291, 3) := by decide +kernel
theorem dX10_readAsk_51 : decode cX10_readAsk 51 = .ok (.iastore, 1) := by decide +kernel
theorem dX10_readAsk_52 : decode cX10_readAsk 52 = .ok (.aload_n 0, 1) := by decide +kernel
theorem dX10_readAsk_53 : decode cX10_readAsk 53 = .ok (.getfield 51, 3) := by decide +kernel
theorem dX10_readAsk_56 : decode cX10_readAsk 56 = .ok (.iload_n 1, 1) := by decide +kernel
theorem dX10_readAsk_57 : decode cX10_readAsk 57 = .ok (.iconst 4, 1) := by decide +kernel
theorem dX10_readAsk_58 : decode cX10_readAsk 58 = .ok (.iadd, 1) := by decide +kernel
theorem dX10_readAsk_59 : decode cX10_readAsk 59 = .ok (.aload_n 0, 1) := by decide +kernel
theorem dX10_readAsk_60 : decode cX10_readAsk 60 = .ok (.bipush 45, 2) := by decide +kernel
theorem dX10_readAsk_62 : decode cX10_readAsk 62 = .ok (.invokevirtual 291, 3) := by decide +kernel
theorem dX10_readAsk_65 : decode cX10_readAsk 65 = .ok (.iastore, 1) := by decide +kernel
theorem dX10_readAsk_66 : decode cX10_readAsk 66 = .ok (.return_, 1) := by decide +kernel
theorem dX10_readArguments_0 : decode cX10_readArguments 0 = .ok (.iload_n 1, 1) := by decide +kernel
theorem dX10_readArguments_1 : decode cX10_readArguments 1 = .ok (.tableswitch 209 0 9 #[55, 55, 82, 119, 127, 127, 209, 140, 127, 181], 55) := by decide +kernel
theorem dX10_readArguments_56 : decode cX10_readArguments 56 = .ok (.aload_n 0, 1) := by decide +kernel
theorem dX10_readArguments_57 : decode cX10_readArguments 57 = .ok (.getfield 51, 3) := by decide +kernel
theorem dX10_readArguments_60 : decode cX10_readArguments 60 = .ok (.iload_n 2, 1) := by decide +kernel
theorem dX10_readArguments_61 : decode cX10_readArguments 61 = .ok (.aload_n 0, 1) := by decide +kernel
theorem dX10_readArguments_62 : decode cX10_readArguments 62 = .ok (.invokevirtual 288, 3) := by decide +kernel
theorem dX10_readArguments_65 : decode cX10_readArguments 65 = .ok (.iastore, 1) := by decide +kernel
theorem dX10_readArguments_66 : decode cX10_readArguments 66 = .ok (.aload_n 0, 1) := by decide +kernel
theorem dX10_readArguments_67 : decode cX10_readArguments 67 = .ok (.getfield 51, 3) := by decide +kernel
theorem dX10_readArguments_70 : decode cX10_readArguments 70 = .ok (.iload_n 2, 1) := by decide +kernel
theorem dX10_readArguments_71 : decode cX10_readArguments 71 = .ok (.iconst 1, 1) := by decide +kernel
theorem dX10_readArguments_72 : decode cX10_readArguments 72 = .ok (.iadd, 1) := by decide +kernel
theorem dX10_readArguments_73 : decode cX10_readArguments 73 = .ok (.aload_n 0, 1) := by decide +kernel
theorem dX10_readArguments_74 : decode cX10_readArguments 74 = .ok (.bipush 32, 2) := by decide +kernel
theorem dX10_readArguments_76 : decode cX10_readArguments 76 = .ok (.invokevirtual 294, 3) := by decide +kernel
theorem dX10_readArguments_79 : decode cX10_readArguments 79 = .ok (.iastore, 1) := by decide +kernel
theorem dX10_readArguments_80 : decode cX10_readArguments 80 = .ok (.goto 130, 3) := by decide +kernel
theorem dX10_readArguments_83 : decode cX10_readArguments 83 = .ok (.aload_n 0, 1) := by decide +kernel
theorem dX10_readArguments_84 : decode cX10_readArguments 84 = .ok (.getfield 51, 3) := by decide +kernel
theorem dX10_readArguments_87 : decode cX10_readArguments 87 = .ok (.iload_n 2, 1) := by decide +kernel
theorem dX10_readArguments_88 : decode cX10_readArguments 88 = .ok (.aload_n 0, 1) := by decide +kernel
theorem dX10_readArguments_89 : decode cX10_readArguments 89 = .ok (.invokevirtual 282, 3) := by decide +kernel
theorem dX10_readArguments_92 : decode cX10_readArguments 92 = .ok (.iastore, 1) := by decide +kernel
theorem dX10_readArguments_93 : decode cX10_readArguments 93 = .ok (.aload_n 0, 1) := by decide +kernel
theorem dX10_readArguments_94 : decode cX10_readArguments 94 = .ok (.getfield 51, 3) := by decide +kernel
theorem dX10_readArguments_97 : decode cX10_readArguments 97 = .ok (.iload_n 2, 1) := by decide +kernel
theorem dX10_readArguments_98 : decode cX10_readArguments 98 = .ok (.iconst 1, 1) := by decide +kernel
theorem dX10_readArguments_99 : decode cX10_readArguments 99 = .ok (.iadd, 1) := by decide +kernel
theorem dX10_readArguments_100 : decode cX10_readArguments 100 = .ok (.aload_n 0, 1) := by decide +kernel
theorem dX10_readArguments_101 : decode cX10_readArguments 101 = .ok (.invokevirtual 282, 3) := by decide +kernel
theorem dX10_readArguments_104 : decode cX10_readArguments 104 = .ok (.iastore, 1) := by decide +kernel
theorem dX10_readArguments_105 : decode cX10_readArguments 105 = .ok (.aload_n 0, 1) := by decide +kernel
theorem dX10_readArguments_106 : decode cX10_readArguments 106 = .ok (.getfield 51, 3) := by decide +kernel
theorem dX10_readArguments_109 : decode cX10_readArguments 109 = .ok (.iload_n 2, 1) := by decide +kernel
theorem dX10_readArguments_110 : decode cX10_readArguments 110 = .ok (.iconst 2, 1) := by decide +kernel
theorem dX10_readArguments_111 : decode cX10_readArguments 111 = .ok (.iadd, 1) := by decide +kernel
theorem dX10_readArguments_112 : decode cX10_readArguments 112 = .ok (.aload_n 0, 1) := by decide +kernel
theorem dX10_readArguments_113 : decode cX10_readArguments 113 = .ok (.invokevirtual 282, 3) := by decide +kernel
theorem dX10_readArguments_116 : decode cX10_readArguments 116 = .ok (.iastore, 1) := by decide +kernel
theorem dX10_readArguments_117 : decode cX10_readArguments 117 = .ok (.goto 93, 3) := by decide +kernel
theorem dX10_readArguments_120 : decode cX10_readArguments 120 = .ok (.aload_n 0, 1) := by decide +kernel
theorem dX10_readArguments_121 : decode cX10_readArguments 121 = .ok (.iload_n 2, 1) := by decide +kernel
theorem dX10_readArguments_122 : decode cX10_readArguments 122 = .ok (.invokevirtual 297, 3) := by decide +kernel
theorem dX10_readArguments_125 : decode cX10_readArguments 125 = .ok (.goto 85, 3) := by decide +kernel
theorem dX10_readArguments_128 : decode cX10_readArguments 128 = .ok (.aload_n 0, 1) := by decide +kernel
theorem dX10_readArguments_129 : decode cX10_readArguments 129 = .ok (.getfield 51, 3) := by decide +kernel
theorem dX10_readArguments_132 : decode cX10_readArguments 132 = .ok (.iload_n 2, 1) := by decide +kernel
theorem dX10_readArguments_133 : decode cX10_readArguments 133 = .ok (.aload_n 0, 1) := by decide +kernel
theorem dX10_readArguments_134 : decode cX10_readArguments 134 = .ok (.invokevirtual 288, 3) := by decide +kernel
theorem dX10_readArguments_137 : decode cX10_readArguments 137 = .ok (.iastore, 1) := by decide +kernel
theorem dX10_readArguments_138 : decode cX10_readArguments 138 = .ok (.goto 72, 3) := by decide +kernel
theorem dX10_readArguments_141 : decode cX10_readArguments 141 = .ok (.aload_n 0, 1) := by decide +kernel
theorem dX10_readArguments_142 : decode cX10_readArguments 142 = .ok (.getfield 51, 3) := by decide +kernel
theorem dX10_readArguments_145 : decode cX10_readArguments 145 = .ok (.iload_n 2, 1) := by decide +kernel
theorem dX10_readArguments_146 : decode cX10_readArguments 146 = .ok (.aload_n 0, 1) := by decide +kernel
theorem dX10_readArguments_147 : decode cX10_readArguments 147 = .ok (.invokevirtual 288, 3) := by decide +kernel
theorem dX10_readArguments_150 : decode cX10_readArguments 150 = .ok (.iastore, 1) := by decide +kernel
theorem dX10_readArguments_151 : decode cX10_readArguments 151 = .ok (.aload_n 0, 1) := by decide +kernel
theorem dX10_readArguments_152 : decode cX10_readArguments 152 = .ok (.getfield 51, 3) := by decide +kernel
theorem dX10_readArguments_155 : decode cX10_readArguments 155 = .ok (.iload_n 2, 1) := by decide +kernel
theorem dX10_readArguments_156 : decode cX10_readArguments 156 = .ok (.iconst 1, 1) := by decide +kernel
theorem dX10_readArguments_157 : decode cX10_readArguments 157 = .ok (.iadd, 1) := by decide +kernel
theorem dX10_readArguments_158 : decode cX10_readArguments 158 = .ok (.aload_n 0, 1) := by decide +kernel
theorem dX10_readArguments_159 : decode cX10_readArguments 159 = .ok (.bipush 32, 2) := by decide +kernel
theorem dX10_readArguments_161 : decode cX10_readArguments 161 = .ok (.invokevirtual 291, 3) := by decide +kernel
theorem dX10_readArguments_164 : decode cX10_readArguments 164 = .ok (.iastore, 1) := by decide +kernel
theorem dX10_readArguments_165 : decode cX10_readArguments 165 = .ok (.aload_n 0, 1) := by decide +kernel
theorem dX10_readArguments_166 : decode cX10_readArguments 166 = .ok (.getfield 51, 3) := by decide +kernel
theorem dX10_readArguments_169 : decode cX10_readArguments 169 = .ok (.iload_n 2, 1) := by decide +kernel
theorem dX10_readArguments_170 : decode cX10_readArguments 170 = .ok (.iconst 2, 1) := by decide +kernel
theorem dX10_readArguments_171 : decode cX10_readArguments 171 = .ok (.iadd, 1) := by decide +kernel
theorem dX10_readArguments_172 : decode cX10_readArguments 172 = .ok (.aload_n 0, 1) := by decide +kernel
theorem dX10_readArguments_173 : decode cX10_readArguments 173 = .ok (.bipush 32, 2) := by decide +kernel
theorem dX10_readArguments_175 : decode cX10_readArguments 175 = .ok (.invokevirtual 294, 3) := by decide +kernel
theorem dX10_readArguments_178 : decode cX10_readArguments 178 = .ok (.iastore, 1) := by decide +kernel
theorem dX10_readArguments_179 : decode cX10_readArguments 179 = .ok (.goto 31, 3) := by decide +kernel
theorem dX10_readArguments_182 : decode cX10_readArguments 182 = .ok (.aload_n 0, 1) := by decide +kernel
theorem dX10_readArguments_183 : decode cX10_readArguments 183 = .ok (.getfield 51, 3) := by decide +kernel
theorem dX10_readArguments_186 : decode cX10_readArguments 186 = .ok (.iload_n 2, 1) := by decide +kernel
theorem dX10_readArguments_187 : decode cX10_readArguments 187 = .ok (.aload_n 0, 1) := by decide +kernel
theorem dX10_readArguments_188 : decode cX10_readArguments 188 = .ok (.invokevirtual 275, 3) := by decide +kernel
theorem dX10_readArguments_191 : decode cX10_readArguments 191 = .ok (.bipush 32, 2) := by decide +kernel
theorem dX10_readArguments_193 : decode cX10_readArguments 193 = .ok (.if_icmp .ne 12, 3) := by decide +kernel
theorem dX10_readArguments_196 : decode cX10_readArguments 196 = .ok (.aload_n 0, 1) := by decide +kernel
theorem dX10_readArguments_197 : decode cX10_readArguments 197 = .ok (.bipush 32, 2) := by decide +kernel
theorem dX10_readArguments_199 : decode cX10_readArguments 199 = .ok (.invokevirtual 291, 3) := by decide +kernel
theorem dX10_readArguments_202 : decode cX10_readArguments 202 = .ok (.goto 4, 3) := by decide +kernel
theorem dX10_readArguments_205 : decode cX10_readArguments 205 = .ok (.iconst 1, 1) := by decide +kernel
theorem dX10_readArguments_206 : decode cX10_readArguments 206 = .ok (.iastore, 1) := by decide +kernel
theorem dX10_readArguments_207 : decode cX10_readArguments 207 = .ok (.goto 3, 3) := by decide +kernel
theorem dX10_readArguments_210 : decode cX10_readArguments 210 = .ok (.return_, 1) := by decide +kernel
theorem dX10_readCommand_0 : decode cX10_readCommand 0 = .ok (.bipush 6, 2) := by decide +kernel
theorem dX10_readCommand_2 : decode cX10_readCommand 2 = .ok (.aload_n 0, 1) := by decide +kernel
theorem dX10_readCommand_3 : decode cX10_readCommand 3 = .ok (.getfield 300, 3) := by decide +kernel
theorem dX10_readCommand_6 : decode cX10_readCommand 6 = .ok (.imul, 1) := by decide +kernel
theorem dX10_readCommand_7 : decode cX10_readCommand 7 = .ok (.istore_n 1, 1) := by decide +kernel
theorem dX10_readCommand_8 : decode cX10_readCommand 8 = .ok (.iconst 0, 1) := by decide +kernel
theorem dX10_readCommand_9 : decode cX10_readCommand 9 = .ok (.istore_n 2, 1) := by decide +kernel
theorem dX10_readCommand_10 : decode cX10_readCommand 10 = .ok (.iconst 1, 1) := by decide +kernel
theorem dX10_readCommand_11 : decode cX10_readCommand 11 = .ok (.istore_n 3, 1) := by decide +kernel
theorem dX10_readCommand_12 : decode cX10_readCommand 12 = .ok (.iload_n 3, 1) := by decide +kernel
theorem dX10_readCommand_13 : decode cX10_readCommand 13 = .ok (.bipush 10, 2) := by decide +kernel
theorem dX10_readCommand_15 : decode cX10_readCommand 15 = .ok (.if_icmp .ge 28, 3) := by decide +kernel
theorem dX10_readCommand_18 : decode cX10_readCommand 18 = .ok (.aload_n 0, 1) := by decide +kernel
theorem dX10_readCommand_19 : decode cX10_readCommand 19 = .ok (.iload_n 3, 1) := by decide +kernel
theorem dX10_readCommand_20 : decode cX10_readCommand 20 = .ok (.invokevirtual 303, 3) := by decide +kernel
theorem dX10_readCommand_23 : decode cX10_readCommand 23 = .ok (.aload_n 0, 1) := by decide +kernel
theorem dX10_readCommand_24 : decode cX10_readCommand 24 = .ok (.iload_n 2, 1) := by decide +kernel
theorem dX10_readCommand_25 : decode cX10_readCommand 25 = .ok (.invokevirtual 303, 3) := by decide +kernel
theorem dX10_readCommand_28 : decode cX10_readCommand 28 = .ok (.if_icmp .le 7, 3) := by decide +kernel
theorem dX10_readCommand_31 : decode cX10_readCommand 31 = .ok (.iload_n 3, 1) := by decide +kernel
theorem dX10_readCommand_32 : decode cX10_readCommand 32 = .ok (.goto 4, 3) := by decide +kernel
theorem dX10_readCommand_35 : decode cX10_readCommand 35 = .ok (.iload_n 2, 1) := by decide +kernel
theorem dX10_readCommand_36 : decode cX10_readCommand 36 = .ok (.istore_n 2, 1) := by decide +kernel
theorem dX10_readCommand_37 : decode cX10_readCommand 37 = .ok (.iinc 3 1, 3) := by decide +kernel
theorem dX10_readCommand_40 : decode cX10_readCommand 40 = .ok (.goto (-28), 3) := by decide +kernel
theorem dX10_readCommand_43 : decode cX10_readCommand 43 = .ok (.aload_n 0, 1) := by decide +kernel
theorem dX10_readCommand_44 : decode cX10_readCommand 44 = .ok (.iload_n 2, 1) := by decide +kernel
theorem dX10_readCommand_45 : decode cX10_readCommand 45 = .ok (.invokevirtual 303, 3) := by decide +kernel
theorem dX10_readCommand_48 : decode cX10_readCommand 48 = .ok (.istore_n 3, 1) := by decide +kernel
theorem dX10_readCommand_49 : decode cX10_readCommand 49 = .ok (.aload_n 0, 1) := by decide +kernel
theorem dX10_readCommand_50 : decode cX10_readCommand 50 = .ok (.dup, 1) := by decide +kernel
theorem dX10_readCommand_51 : decode cX10_readCommand 51 = .ok (.getfield 265, 3) := by decide +kernel
theorem dX10_readCommand_54 : decode cX10_readCommand 54 = .ok (.iload_n 3, 1) := by decide +kernel
theorem dX10_readCommand_55 : decode cX10_readCommand 55 = .ok (.iadd, 1) := by decide +kernel
theorem dX10_readCommand_56 : decode cX10_readCommand 56 = .ok (.putfield 265, 3) := by decide +kernel
theorem dX10_readCommand_59 : decode cX10_readCommand 59 = .ok (.aload_n 0, 1) := by decide +kernel
theorem dX10_readCommand_60 : decode cX10_readCommand 60 = .ok (.iload_n 3, 1) := by decide +kernel
theorem dX10_readCommand_61 : decode cX10_readCommand 61 = .ok (.aload_n 0, 1) := by decide +kernel
theorem dX10_readCommand_62 : decode cX10_readCommand 62 = .ok (.getfield 48, 3) := by decide +kernel
theorem dX10_readCommand_65 : decode cX10_readCommand 65 = .ok (.iload_n 2, 1) := by decide +kernel
theorem dX10_readCommand_66 : decode cX10_readCommand 66 = .ok (.iconst 1, 1) := by decide +kernel
theorem dX10_readCommand_67 : decode cX10_readCommand 67 = .ok (.iadd, 1) := by decide +kernel
theorem dX10_readCommand_68 : decode cX10_readCommand 68 = .ok (.iaload, 1) := by decide +kernel
theorem dX10_readCommand_69 : decode cX10_readCommand 69 = .ok (.aload_n 0, 1) := by decide +kernel
theorem dX10_readCommand_70 : decode cX10_readCommand 70 = .ok (.getfield 48, 3) := by decide +kernel
theorem dX10_readCommand_73 : decode cX10_readCommand 73 = .ok (.iload_n 2, 1) := by decide +kernel
theorem dX10_readCommand_74 : decode cX10_readCommand 74 = .ok (.iaload, 1) := by decide +kernel
theorem dX10_readCommand_75 : decode cX10_readCommand 75 = .ok (.isub, 1) := by decide +kernel
theorem dX10_readCommand_76 : decode cX10_readCommand 76 = .ok (.if_icmp .ge 7, 3) := by decide +kernel
theorem dX10_readCommand_79 : decode cX10_readCommand 79 = .ok (.iconst 1, 1) := by decide +kernel
theorem dX10_readCommand_80 : decode cX10_readCommand 80 = .ok (.goto 4, 3) := by decide +kernel
theorem dX10_readCommand_83 : decode cX10_readCommand 83 = .ok (.iconst 0, 1) := by decide +kernel
theorem dX10_readCommand_84 : decode cX10_readCommand 84 = .ok (.putfield 271, 3) := by decide +kernel
theorem dX10_readCommand_87 : decode cX10_readCommand 87 = .ok (.aload_n 0, 1) := by decide +kernel
theorem dX10_readCommand_88 : decode cX10_readCommand 88 = .ok (.getfield 271, 3) := by decide +kernel
theorem dX10_readCommand_91 : decode cX10_readCommand 91 = .ok (.ifCond .ne 28, 3) := by decide +kernel
theorem dX10_readCommand_94 : decode cX10_readCommand 94 = .ok (.aload_n 0, 1) := by decide +kernel
theorem dX10_readCommand_95 : decode cX10_readCommand 95 = .ok (.getfield 51, 3) := by decide +kernel
theorem dX10_readCommand_98 : decode cX10_readCommand 98 = .ok (.iload_n 1, 1) := by decide +kernel
theorem dX10_readCommand_99 : decode cX10_readCommand 99 = .ok (.iload_n 2, 1) := by decide +kernel
theorem dX10_readCommand_100 : decode cX10_readCommand 100 = .ok (.iastore, 1) := by decide +kernel
theorem dX10_readCommand_101 : decode cX10_readCommand 101 = .ok (.aload_n 0, 1) := by decide +kernel
theorem dX10_readCommand_102 : decode cX10_readCommand 102 = .ok (.dup, 1) := by decide +kernel
theorem dX10_readCommand_103 : decode cX10_readCommand 103 = .ok (.getfield 300, 3) := by decide +kernel
theorem dX10_readCommand_106 : decode cX10_readCommand 106 = .ok (.iconst 1, 1) := by decide +kernel
theorem dX10_readCommand_107 : decode cX10_readCommand 107 = .ok (.iadd, 1) := by decide +kernel
theorem dX10_readCommand_108 : decode cX10_readCommand 108 = .ok (.putfield 300, 3) := by decide +kernel
theorem dX10_readCommand_111 : decode cX10_readCommand 111 = .ok (.aload_n 0, 1) := by decide +kernel
theorem dX10_readCommand_112 : decode cX10_readCommand 112 = .ok (.iload_n 2, 1) := by decide +kernel
theorem dX10_readCommand_113 : decode cX10_readCommand 113 = .ok (.iload_n 1, 1) := by decide +kernel
theorem dX10_readCommand_114 : decode cX10_readCommand 114 = .ok (.iconst 1, 1) := by decide +kernel
theorem dX10_readCommand_115 : decode cX10_readCommand 115 = .ok (.iadd, 1) := by decide +kernel
theorem dX10_readCommand_116 : decode cX10_readCommand 116 = .ok (.invokevirtual 306, 3) := by decide +kernel
theorem dX10_readCommand_119 : decode cX10_readCommand 119 = .ok (.return_, 1) := by decide +kernel
theorem dX10_does_0 : decode cX10_does 0 = .ok (.aload_n 0, 1) := by decide +kernel
theorem dX10_does_1 : decode cX10_does 1 = .ok (.getfield 51, 3) := by decide +kernel
theorem dX10_does_4 : decode cX10_does 4 = .ok (.iload_n 1, 1) := by decide +kernel
theorem dX10_does_5 : decode cX10_does 5 = .ok (.iconst 1, 1) := by decide +kernel
theorem dX10_does_6 : decode cX10_does 6 = .ok (.iadd, 1) := by decide +kernel
theorem dX10_does_7 : decode cX10_does 7 = .ok (.iaload, 1) := by decide +kernel
theorem dX10_does_8 : decode cX10_does 8 = .ok (.istore_n 2, 1) := by decide +kernel
theorem dX10_does_9 : decode cX10_does 9 = .ok (.aload_n 0, 1) := by decide +kernel
theorem dX10_does_10 : decode cX10_does 10 = .ok (.getfield 51, 3) := by decide +kernel
theorem dX10_does_13 : decode cX10_does 13 = .ok (.iload_n 1, 1) := by decide +kernel
theorem dX10_does_14 : decode cX10_does 14 = .ok (.iconst 2, 1) := by decide +kernel
theorem dX10_does_15 : decode cX10_does 15 = .ok (.iadd, 1) := by decide +kernel
theorem dX10_does_16 : decode cX10_does 16 = .ok (.iaload, 1) := by decide +kernel
theorem dX10_does_17 : decode cX10_does 17 = .ok (.istore_n 3, 1) := by decide +kernel
theorem dX10_does_18 : decode cX10_does 18 = .ok (.aload_n 0, 1) := by decide +kernel
theorem dX10_does_19 : decode cX10_does 19 = .ok (.getfield 51, 3) := by decide +kernel
theorem dX10_does_22 : decode cX10_does 22 = .ok (.iload_n 1, 1) := by decide +kernel
theorem dX10_does_23 : decode cX10_does 23 = .ok (.iconst 3, 1) := by decide +kernel
theorem dX10_does_24 : decode cX10_does 24 = .ok (.iadd, 1) := by decide +kernel
theorem dX10_does_25 : decode cX10_does 25 = .ok (.iaload, 1) := by decide +kernel
theorem dX10_does_26 : decode cX10_does 26 = .ok (.istore 4, 2) := by decide +kernel
theorem dX10_does_28 : decode cX10_does 28 = .ok (.aload_n 0, 1) := by decide +kernel
theorem dX10_does_29 : decode cX10_does 29 = .ok (.getfield 51, 3) := by decide +kernel
theorem dX10_does_32 : decode cX10_does 32 = .ok (.iload_n 1, 1) := by decide +kernel
theorem dX10_does_33 : decode cX10_does 33 = .ok (.iaload, 1) := by decide +kernel
theorem dX10_does_34 : decode cX10_does 34 = .ok (.tableswitch 157 0 8 #[50, 60, 70, 82, 110, 119, 128, 136, 148], 50) := by decide +kernel
theorem dX10_does_84 : decode cX10_does 84 = .ok (.aload_n 0, 1) := by decide +kernel
theorem dX10_does_85 : decode cX10_does 85 = .ok (.iload_n 2, 1) := by decide +kernel
theorem dX10_does_86 : decode cX10_does 86 = .ok (.iload_n 3, 1) := by decide +kernel
theorem dX10_does_87 : decode cX10_does 87 = .ok (.invokevirtual 132, 3) := by decide +kernel
theorem dX10_does_90 : decode cX10_does 90 = .ok (.pop, 1) := by decide +kernel
theorem dX10_does_91 : decode cX10_does 91 = .ok (.goto 106, 3) := by decide +kernel
theorem dX10_does_94 : decode cX10_does 94 = .ok (.aload_n 0, 1) := by decide +kernel
theorem dX10_does_95 : decode cX10_does 95 = .ok (.iload_n 2, 1) := by decide +kernel
theorem dX10_does_96 : decode cX10_does 96 = .ok (.iload_n 3, 1) := by decide +kernel
theorem dX10_does_97 : decode cX10_does 97 = .ok (.invokevirtual 141, 3) := by decide +kernel
theorem dX10_does_100 : decode cX10_does 100 = .ok (.pop, 1) := by decide +kernel
theorem dX10_does_101 : decode cX10_does 101 = .ok (.goto 96, 3) := by decide +kernel
theorem dX10_does_104 : decode cX10_does 104 = .ok (.aload_n 0, 1) := by decide +kernel
theorem dX10_does_105 : decode cX10_does 105 = .ok (.iload_n 2, 1) := by decide +kernel
theorem dX10_does_106 : decode cX10_does 106 = .ok (.iload_n 3, 1) := by decide +kernel
theorem dX10_does_107 : decode cX10_does 107 = .ok (.iload 4, 2) := by decide +kernel
theorem dX10_does_109 : decode cX10_does 109 = .ok (.invokevirtual 150, 3) := by decide +kernel
theorem dX10_does_112 : decode cX10_does 112 = .ok (.pop, 1) := by decide +kernel
theorem dX10_does_113 : decode cX10_does 113 = .ok (.goto 84, 3) := by decide +kernel
theorem dX10_does_116 : decode cX10_does 116 = .ok (.aload_n 0, 1) := by decide +kernel
theorem dX10_does_117 : decode cX10_does 117 = .ok (.iload_n 2, 1) := by decide +kernel
theorem dX10_does_118 : decode cX10_does 118 = .ok (.iload_n 3, 1) := by decide +kernel
theorem dX10_does_119 : decode cX10_does 119 = .ok (.iload 4, 2) := by decide +kernel
theorem dX10_does_121 : decode cX10_does 121 = .ok (.aload_n 0, 1) := by decide +kernel
theorem dX10_does_122 : decode cX10_does 122 = .ok (.getfield 51, 3) := by decide +kernel
theorem dX10_does_125 : decode cX10_does 125 = .ok (.iload_n 1, 1) := by decide +kernel
theorem dX10_does_126 : decode cX10_does 126 = .ok (.iconst 4, 1) := by decide +kernel
theorem dX10_does_127 : decode cX10_does 127 = .ok (.iadd, 1) := by decide +kernel
theorem dX10_does_128 : decode cX10_does 128 = .ok (.iaload, 1) := by decide +kernel
theorem dX10_does_129 : decode cX10_does 129 = .ok (.aload_n 0, 1) := by decide +kernel
theorem dX10_does_130 : decode cX10_does 130 = .ok (.getfield 51, 3) := by decide +kernel
theorem dX10_does_133 : decode cX10_does 133 = .ok (.iload_n 1, 1) := by decide +kernel
theorem dX10_does_134 : decode cX10_does 134 = .ok (.iconst 5, 1) := by decide +kernel
theorem dX10_does_135 : decode cX10_does 135 = .ok (.iadd, 1) := by decide +kernel
theorem dX10_does_136 : decode cX10_does 136 = .ok (.iaload, 1) := by decide +kernel
theorem dX10_does_137 : decode cX10_does 137 = .ok (.invokevirtual 158, 3) := by decide +kernel
theorem dX10_does_140 : decode cX10_does 140 = .ok (.pop, 1) := by decide +kernel
theorem dX10_does_141 : decode cX10_does 141 = .ok (.goto 56, 3) := by decide +kernel
theorem dX10_does_144 : decode cX10_does 144 = .ok (.aload_n 0, 1) := by decide +kernel
theorem dX10_does_145 : decode cX10_does 145 = .ok (.iload_n 2, 1) := by decide +kernel
theorem dX10_does_146 : decode cX10_does 146 = .ok (.invokevirtual 165, 3) := by decide +kernel
theorem dX10_does_149 : decode cX10_does 149 = .ok (.pop, 1) := by decide +kernel
theorem dX10_does_150 : decode cX10_does 150 = .ok (.goto 47, 3) := by decide +kernel
theorem dX10_does_153 : decode cX10_does 153 = .ok (.aload_n 0, 1) := by decide +kernel
theorem dX10_does_154 : decode cX10_does 154 = .ok (.iload_n 2, 1) := by decide +kernel
theorem dX10_does_155 : decode cX10_does 155 = .ok (.invokevirtual 175, 3) := by decide +kernel
theorem dX10_does_158 : decode cX10_does 158 = .ok (.pop, 1) := by decide +kernel
theorem dX10_does_159 : decode cX10_does 159 = .ok (.goto 38, 3) := by decide +kernel
theorem dX10_does_162 : decode cX10_does 162 = .ok (.aload_n 0, 1) := by decide +kernel
theorem dX10_does_163 : decode cX10_does 163 = .ok (.invokevirtual 185, 3) := by decide +kernel
theorem dX10_does_166 : decode cX10_does 166 = .ok (.pop, 1) := by decide +kernel
theorem dX10_does_167 : decode cX10_does 167 = .ok (.goto 30, 3) := by decide +kernel
theorem dX10_does_170 : decode cX10_does 170 = .ok (.aload_n 0, 1) := by decide +kernel
theorem dX10_does_171 : decode cX10_does 171 = .ok (.iload_n 2, 1) := by decide +kernel
theorem dX10_does_172 : decode cX10_does 172 = .ok (.iload_n 3, 1) := by decide +kernel
theorem dX10_does_173 : decode cX10_does 173 = .ok (.iload 4, 2) := by decide +kernel
theorem dX10_does_175 : decode cX10_does 175 = .ok (.invokevirtual 193, 3) := by decide +kernel
theorem dX10_does_178 : decode cX10_does 178 = .ok (.pop, 1) := by decide +kernel
theorem dX10_does_179 : decode cX10_does 179 = .ok (.goto 18, 3) := by decide +kernel
theorem dX10_does_182 : decode cX10_does 182 = .ok (.aload_n 0, 1) := by decide +kernel
theorem dX10_does_183 : decode cX10_does 183 = .ok (.iload_n 2, 1) := by decide +kernel
theorem dX10_does_184 : decode cX10_does 184 = .ok (.invokevirtual 196, 3) := by decide +kernel
theorem dX10_does_187 : decode cX10_does 187 = .ok (.pop, 1) := by decide +kernel
theorem dX10_does_188 : decode cX10_does 188 = .ok (.goto 9, 3) := by decide +kernel
theorem dX10_does_191 : decode cX10_does 191 = .ok (.aload_n 0, 1) := by decide +kernel
theorem dX10_does_192 : decode cX10_does 192 = .ok (.iload_n 2, 1) := by decide +kernel
theorem dX10_does_193 : decode cX10_does 193 = .ok (.invokevirtual 207, 3) := by decide +kernel
theorem dX10_does_196 : decode cX10_does 196 = .ok (.pop, 1) := by decide +kernel
theorem dX10_does_197 : decode cX10_does 197 = .ok (.return_, 1) := by decide +kernel
theorem dX10_runScript_0 : decode cX10_runScript 0 = .ok (.aload_n 0, 1) := by decide +kernel
theorem dX10_runScript_1 : decode cX10_runScript 1 = .ok (.invokevirtual 129, 3) := by decide +kernel
theorem dX10_runScript_4 : decode cX10_runScript 4 = .ok (.aload_n 0, 1) := by decide +kernel
theorem dX10_runScript_5 : decode cX10_runScript 5 = .ok (.aload_n 0, 1) := by decide +kernel
theorem dX10_runScript_6 : decode cX10_runScript 6 = .ok (.getfield 262, 3) := by decide +kernel
theorem dX10_runScript_9 : decode cX10_runScript 9 = .ok (.putfield 268, 3) := by decide +kernel
theorem dX10_runScript_12 : decode cX10_runScript 12 = .ok (.aload_n 0, 1) := by decide +kernel
theorem dX10_runScript_13 : decode cX10_runScript 13 = .ok (.iconst 0, 1) := by decide +kernel
theorem dX10_runScript_14 : decode cX10_runScript 14 = .ok (.putfield 262, 3) := by decide +kernel
theorem dX10_runScript_17 : decode cX10_runScript 17 = .ok (.aload_n 0, 1) := by decide +kernel
theorem dX10_runScript_18 : decode cX10_runScript 18 = .ok (.iconst 0, 1) := by decide +kernel
theorem dX10_runScript_19 : decode cX10_runScript 19 = .ok (.putfield 265, 3) := by decide +kernel
theorem dX10_runScript_22 : decode cX10_runScript 22 = .ok (.aload_n 0, 1) := by decide +kernel
theorem dX10_runScript_23 : decode cX10_runScript 23 = .ok (.iconst 0, 1) := by decide +kernel
theorem dX10_runScript_24 : decode cX10_runScript 24 = .ok (.putfield 300, 3) := by decide +kernel
theorem dX10_runScript_27 : decode cX10_runScript 27 = .ok (.aload_n 0, 1) := by decide +kernel
theorem dX10_runScript_28 : decode cX10_runScript 28 = .ok (.iconst 0, 1) := by decide +kernel
theorem dX10_runScript_29 : decode cX10_runScript 29 = .ok (.putfield 271, 3) := by decide +kernel
theorem dX10_runScript_32 : decode cX10_runScript 32 = .ok (.iconst 1, 1) := by decide +kernel
theorem dX10_runScript_33 : decode cX10_runScript 33 = .ok (.istore_n 1, 1) := by decide +kernel
theorem dX10_runScript_34 : decode cX10_runScript 34 = .ok (.iload_n 1, 1) := by decide +kernel
theorem dX10_runScript_35 : decode cX10_runScript 35 = .ok (.ifCond .eq 57, 3) := by decide +kernel
theorem dX10_runScript_38 : decode cX10_runScript 38 = .ok (.aload_n 0, 1) := by decide +kernel
theorem dX10_runScript_39 : decode cX10_runScript 39 = .ok (.invokevirtual 309, 3) := by decide +kernel
theorem dX10_runScript_42 : decode cX10_runScript 42 = .ok (.aload_n 0, 1) := by decide +kernel
theorem dX10_runScript_43 : decode cX10_runScript 43 = .ok (.getfield 271, 3) := by decide +kernel
theorem dX10_runScript_46 : decode cX10_runScript 46 = .ok (.ifCond .ne 18, 3) := by decide +kernel
theorem dX10_runScript_49 : decode cX10_runScript 49 = .ok (.aload_n 0, 1) := by decide +kernel
theorem dX10_runScript_50 : decode cX10_runScript 50 = .ok (.getfield 265, 3) := by decide +kernel
theorem dX10_runScript_53 : decode cX10_runScript 53 = .ok (.aload_n 0, 1) := by decide +kernel
theorem dX10_runScript_54 : decode cX10_runScript 54 = .ok (.getfield 268, 3) := by decide +kernel
theorem dX10_runScript_57 : decode cX10_runScript 57 = .ok (.if_icmp .ge 7, 3) := by decide +kernel
theorem dX10_runScript_60 : decode cX10_runScript 60 = .ok (.iconst 1, 1) := by decide +kernel
theorem dX10_runScript_61 : decode cX10_runScript 61 = .ok (.goto 4, 3) := by decide +kernel
theorem dX10_runScript_64 : decode cX10_runScript 64 = .ok (.iconst 0, 1) := by decide +kernel
theorem dX10_runScript_65 : decode cX10_runScript 65 = .ok (.istore_n 1, 1) := by decide +kernel
theorem dX10_runScript_66 : decode cX10_runScript 66 = .ok (.iload_n 1, 1) := by decide +kernel
theorem dX10_runScript_67 : decode cX10_runScript 67 = .ok (.ifCond .eq (-33), 3) := by decide +kernel
theorem dX10_runScript_70 : decode cX10_runScript 70 = .ok (.aload_n 0, 1) := by decide +kernel
theorem dX10_runScript_71 : decode cX10_runScript 71 = .ok (.bipush 59, 2) := by decide +kernel
theorem dX10_runScript_73 : decode cX10_runScript 73 = .ok (.invokevirtual 285, 3) := by decide +kernel
theorem dX10_runScript_76 : decode cX10_runScript 76 = .ok (.aload_n 0, 1) := by decide +kernel
theorem dX10_runScript_77 : decode cX10_runScript 77 = .ok (.getfield 271, 3) := by decide +kernel
theorem dX10_runScript_80 : decode cX10_runScript 80 = .ok (.ifCond .ne 7, 3) := by decide +kernel
theorem dX10_runScript_83 : decode cX10_runScript 83 = .ok (.iconst 1, 1) := by decide +kernel
theorem dX10_runScript_84 : decode cX10_runScript 84 = .ok (.goto 4, 3) := by decide +kernel
theorem dX10_runScript_87 : decode cX10_runScript 87 = .ok (.iconst 0, 1) := by decide +kernel
theorem dX10_runScript_88 : decode cX10_runScript 88 = .ok (.istore_n 1, 1) := by decide +kernel
theorem dX10_runScript_89 : decode cX10_runScript 89 = .ok (.goto (-55), 3) := by decide +kernel
theorem dX10_runScript_92 : decode cX10_runScript 92 = .ok (.aload_n 0, 1) := by decide +kernel
theorem dX10_runScript_93 : decode cX10_runScript 93 = .ok (.getfield 271, 3) := by decide +kernel
theorem dX10_runScript_96 : decode cX10_runScript 96 = .ok (.ifCond .eq 17, 3) := by decide +kernel
theorem dX10_runScript_99 : decode cX10_runScript 99 = .ok (.aload_n 0, 1) := by decide +kernel
theorem dX10_runScript_100 : decode cX10_runScript 100 = .ok (.aload_n 0, 1) := by decide +kernel
theorem dX10_runScript_101 : decode cX10_runScript 101 = .ok (.getfield 265, 3) := by decide +kernel
theorem dX10_runScript_104 : decode cX10_runScript 104 = .ok (.putfield 22, 3) := by decide +kernel
theorem dX10_runScript_107 : decode cX10_runScript 107 = .ok (.aload_n 0, 1) := by decide +kernel
theorem dX10_runScript_108 : decode cX10_runScript 108 = .ok (.iconst 1, 1) := by decide +kernel
theorem dX10_runScript_109 : decode cX10_runScript 109 = .ok (.invokevirtual 120, 3) := by decide +kernel
theorem dX10_runScript_112 : decode cX10_runScript 112 = .ok (.ireturn, 1) := by decide +kernel
theorem dX10_runScript_113 : decode cX10_runScript 113 = .ok (.iconst 0, 1) := by decide +kernel
theorem dX10_runScript_114 : decode cX10_runScript 114 = .ok (.istore_n 2, 1) := by decide +kernel
theorem dX10_runScript_115 : decode cX10_runScript 115 = .ok (.iload_n 2, 1) := by decide +kernel
theorem dX10_runScript_116 : decode cX10_runScript 116 = .ok (.aload_n 0, 1) := by decide +kernel
theorem dX10_runScript_117 : decode cX10_runScript 117 = .ok (.getfield 300, 3) := by decide +kernel
theorem dX10_runScript_120 : decode cX10_runScript 120 = .ok (.if_icmp .ge 62, 3) := by decide +kernel
theorem dX10_runScript_123 : decode cX10_runScript 123 = .ok (.aload_n 0, 1) := by decide +kernel
theorem dX10_runScript_124 : decode cX10_runScript 124 = .ok (.bipush 6, 2) := by decide +kernel
theorem dX10_runScript_126 : decode cX10_runScript 126 = .ok (.iload_n 2, 1) := by decide +kernel
theorem dX10_runScript_127 : decode cX10_runScript 127 = .ok (.imul, 1) := by decide +kernel
theorem dX10_runScript_128 : decode cX10_runScript 128 = .ok (.invokevirtual 312, 3) := by decide +kernel
theorem dX10_runScript_131 : decode cX10_runScript 131 = .ok (.aload_n 0, 1) := by decide +kernel
theorem dX10_runScript_132 : decode cX10_runScript 132 = .ok (.getfield 54, 3) := by decide +kernel
theorem dX10_runScript_135 : decode cX10_runScript 135 = .ok (.ifCond .le 41, 3) := by decide +kernel
theorem dX10_runScript_138 : decode cX10_runScript 138 = .ok (.iconst 0, 1) := by decide +kernel
theorem dX10_runScript_139 : decode cX10_runScript 139 = .ok (.istore_n 3, 1) := by decide +kernel
theorem dX10_runScript_140 : decode cX10_runScript 140 = .ok (.iload_n 3, 1) := by decide +kernel
theorem dX10_runScript_141 : decode cX10_runScript 141 = .ok (.sipush 2048, 3) := by decide +kernel
theorem dX10_runScript_144 : decode cX10_runScript 144 = .ok (.if_icmp .ge 21, 3) := by decide +kernel
theorem dX10_runScript_147 : decode cX10_runScript 147 = .ok (.aload_n 0, 1) := by decide +kernel
theorem dX10_runScript_148 : decode cX10_runScript 148 = .ok (.getfield 9, 3) := by decide +kernel
theorem dX10_runScript_151 : decode cX10_runScript 151 = .ok (.iload_n 3, 1) := by decide +kernel
theorem dX10_runScript_152 : decode cX10_runScript 152 = .ok (.aload_n 0, 1) := by decide +kernel
theorem dX10_runScript_153 : decode cX10_runScript 153 = .ok (.getfield 13, 3) := by decide +kernel
theorem dX10_runScript_156 : decode cX10_runScript 156 = .ok (.iload_n 3, 1) := by decide +kernel
theorem dX10_runScript_157 : decode cX10_runScript 157 = .ok (.iaload, 1) := by decide +kernel
theorem dX10_runScript_158 : decode cX10_runScript 158 = .ok (.iastore, 1) := by decide +kernel
theorem dX10_runScript_159 : decode cX10_runScript 159 = .ok (.iinc 3 1, 3) := by decide +kernel
theorem dX10_runScript_162 : decode cX10_runScript 162 = .ok (.goto (-22), 3) := by decide +kernel
theorem dX10_runScript_165 : decode cX10_runScript 165 = .ok (.aload_n 0, 1) := by decide +kernel
theorem dX10_runScript_166 : decode cX10_runScript 166 = .ok (.iload_n 2, 1) := by decide +kernel
theorem dX10_runScript_167 : decode cX10_runScript 167 = .ok (.putfield 26, 3) := by decide +kernel
theorem dX10_runScript_170 : decode cX10_runScript 170 = .ok (.aload_n 0, 1) := by decide +kernel
theorem dX10_runScript_171 : decode cX10_runScript 171 = .ok (.iconst 2, 1) := by decide +kernel
theorem dX10_runScript_172 : decode cX10_runScript 172 = .ok (.invokevirtual 120, 3) := by decide +kernel
theorem dX10_runScript_175 : decode cX10_runScript 175 = .ok (.ireturn, 1) := by decide +kernel
theorem dX10_runScript_176 : decode cX10_runScript 176 = .ok (.iinc 2 1, 3) := by decide +kernel
theorem dX10_runScript_179 : decode cX10_runScript 179 = .ok (.goto (-64), 3) := by decide +kernel
theorem dX10_runScript_182 : decode cX10_runScript 182 = .ok (.aload_n 0, 1) := by decide +kernel
theorem dX10_runScript_183 : decode cX10_runScript 183 = .ok (.aload_n 0, 1) := by decide +kernel
theorem dX10_runScript_184 : decode cX10_runScript 184 = .ok (.getfield 300, 3) := by decide +kernel
theorem dX10_runScript_187 : decode cX10_runScript 187 = .ok (.invokevirtual 135, 3) := by decide +kernel
theorem dX10_runScript_190 : decode cX10_runScript 190 = .ok (.ireturn, 1) := by decide +kernel
theorem dX10_errorPosition_0 : decode cX10_errorPosition 0 = .ok (.aload_n 0, 1) := by decide +kernel
theorem dX10_errorPosition_1 : decode cX10_errorPosition 1 = .ok (.iconst 0, 1) := by decide +kernel
theorem dX10_errorPosition_2 : decode cX10_errorPosition 2 = .ok (.putfield 54, 3) := by decide +kernel
theorem dX10_errorPosition_5 : decode cX10_errorPosition 5 = .ok (.aload_n 0, 1) := by decide +kernel
theorem dX10_errorPosition_6 : decode cX10_errorPosition 6 = .ok (.getfield 22, 3) := by decide +kernel
theorem dX10_errorPosition_9 : decode cX10_errorPosition 9 = .ok (.iconst (-1), 1) := by decide +kernel
theorem dX10_errorPosition_10 : decode cX10_errorPosition 10 = .ok (.if_icmp .ne 11, 3) := by decide +kernel
theorem dX10_errorPosition_13 : decode cX10_errorPosition 13 = .ok (.aload_n 0, 1) := by decide +kernel
theorem dX10_errorPosition_14 : decode cX10_errorPosition 14 = .ok (.iconst 1, 1) := by decide +kernel
theorem dX10_errorPosition_15 : decode cX10_errorPosition 15 = .ok (.invokevirtual 120, 3) := by decide +kernel
theorem dX10_errorPosition_18 : decode cX10_errorPosition 18 = .ok (.goto 7, 3) := by decide +kernel
theorem dX10_errorPosition_21 : decode cX10_errorPosition 21 = .ok (.aload_n 0, 1) := by decide +kernel
theorem dX10_errorPosition_22 : decode cX10_errorPosition 22 = .ok (.getfield 22, 3) := by decide +kernel
theorem dX10_errorPosition_25 : decode cX10_errorPosition 25 = .ok (.ireturn, 1) := by decide +kernel
theorem dX10_failedCommand_0 : decode cX10_failedCommand 0 = .ok (.aload_n 0, 1) := by decide +kernel
theorem dX10_failedCommand_1 : decode cX10_failedCommand 1 = .ok (.iconst 0, 1) := by decide +kernel
theorem dX10_failedCommand_2 : decode cX10_failedCommand 2 = .ok (.putfield 54, 3) := by decide +kernel
theorem dX10_failedCommand_5 : decode cX10_failedCommand 5 = .ok (.aload_n 0, 1) := by decide +kernel
theorem dX10_failedCommand_6 : decode cX10_failedCommand 6 = .ok (.getfield 26, 3) := by decide +kernel
theorem dX10_failedCommand_9 : decode cX10_failedCommand 9 = .ok (.iconst (-1), 1) := by decide +kernel
theorem dX10_failedCommand_10 : decode cX10_failedCommand 10 = .ok (.if_icmp .ne 11, 3) := by decide +kernel
theorem dX10_failedCommand_13 : decode cX10_failedCommand 13 = .ok (.aload_n 0, 1) := by decide +kernel
theorem dX10_failedCommand_14 : decode cX10_failedCommand 14 = .ok (.iconst 1, 1) := by decide +kernel
theorem dX10_failedCommand_15 : decode cX10_failedCommand 15 = .ok (.invokevirtual 120, 3) := by decide +kernel
theorem dX10_failedCommand_18 : decode cX10_failedCommand 18 = .ok (.goto 7, 3) := by decide +kernel
theorem dX10_failedCommand_21 : decode cX10_failedCommand 21 = .ok (.aload_n 0, 1) := by decide +kernel
theorem dX10_failedCommand_22 : decode cX10_failedCommand 22 = .ok (.getfield 26, 3) := by decide +kernel
theorem dX10_failedCommand_25 : decode cX10_failedCommand 25 = .ok (.ireturn, 1) := by decide +kernel
theorem dX10_undo_0 : decode cX10_undo 0 = .ok (.aload_n 0, 1) := by decide +kernel
theorem dX10_undo_1 : decode cX10_undo 1 = .ok (.iconst 0, 1) := by decide +kernel
theorem dX10_undo_2 : decode cX10_undo 2 = .ok (.putfield 54, 3) := by decide +kernel
theorem dX10_undo_5 : decode cX10_undo 5 = .ok (.aload_n 0, 1) := by decide +kernel
theorem dX10_undo_6 : decode cX10_undo 6 = .ok (.getfield 57, 3) := by decide +kernel
theorem dX10_undo_9 : decode cX10_undo 9 = .ok (.ifCond .ne 9, 3) := by decide +kernel
theorem dX10_undo_12 : decode cX10_undo 12 = .ok (.aload_n 0, 1) := by decide +kernel
theorem dX10_undo_13 : decode cX10_undo 13 = .ok (.iconst 1, 1) := by decide +kernel
theorem dX10_undo_14 : decode cX10_undo 14 = .ok (.invokevirtual 120, 3) := by decide +kernel
theorem dX10_undo_17 : decode cX10_undo 17 = .ok (.ireturn, 1) := by decide +kernel
theorem dX10_undo_18 : decode cX10_undo 18 = .ok (.aload_n 0, 1) := by decide +kernel
theorem dX10_undo_19 : decode cX10_undo 19 = .ok (.dup, 1) := by decide +kernel
theorem dX10_undo_20 : decode cX10_undo 20 = .ok (.getfield 57, 3) := by decide +kernel
theorem dX10_undo_23 : decode cX10_undo 23 = .ok (.iconst 1, 1) := by decide +kernel
theorem dX10_undo_24 : decode cX10_undo 24 = .ok (.isub, 1) := by decide +kernel
theorem dX10_undo_25 : decode cX10_undo 25 = .ok (.putfield 57, 3) := by decide +kernel
theorem dX10_undo_28 : decode cX10_undo 28 = .ok (.iconst 0, 1) := by decide +kernel
theorem dX10_undo_29 : decode cX10_undo 29 = .ok (.istore_n 1, 1) := by decide +kernel
theorem dX10_undo_30 : decode cX10_undo 30 = .ok (.iload_n 1, 1) := by decide +kernel
theorem dX10_undo_31 : decode cX10_undo 31 = .ok (.sipush 2048, 3) := by decide +kernel
theorem dX10_undo_34 : decode cX10_undo 34 = .ok (.if_icmp .ge 30, 3) := by decide +kernel
theorem dX10_undo_37 : decode cX10_undo 37 = .ok (.aload_n 0, 1) := by decide +kernel
theorem dX10_undo_38 : decode cX10_undo 38 = .ok (.getfield 9, 3) := by decide +kernel
theorem dX10_undo_41 : decode cX10_undo 41 = .ok (.iload_n 1, 1) := by decide +kernel
theorem dX10_undo_42 : decode cX10_undo 42 = .ok (.aload_n 0, 1) := by decide +kernel
theorem dX10_undo_43 : decode cX10_undo 43 = .ok (.getfield 19, 3) := by decide +kernel
theorem dX10_undo_46 : decode cX10_undo 46 = .ok (.sipush 2048, 3) := by decide +kernel
theorem dX10_undo_49 : decode cX10_undo 49 = .ok (.aload_n 0, 1) := by decide +kernel
theorem dX10_undo_50 : decode cX10_undo 50 = .ok (.getfield 57, 3) := by decide +kernel
theorem dX10_undo_53 : decode cX10_undo 53 = .ok (.imul, 1) := by decide +kernel
theorem dX10_undo_54 : decode cX10_undo 54 = .ok (.iload_n 1, 1) := by decide +kernel
theorem dX10_undo_55 : decode cX10_undo 55 = .ok (.iadd, 1) := by decide +kernel
theorem dX10_undo_56 : decode cX10_undo 56 = .ok (.iaload, 1) := by decide +kernel
theorem dX10_undo_57 : decode cX10_undo 57 = .ok (.iastore, 1) := by decide +kernel
theorem dX10_undo_58 : decode cX10_undo 58 = .ok (.iinc 1 1, 3) := by decide +kernel
theorem dX10_undo_61 : decode cX10_undo 61 = .ok (.goto (-31), 3) := by decide +kernel
theorem dX10_undo_64 : decode cX10_undo 64 = .ok (.aload_n 0, 1) := by decide +kernel
theorem dX10_undo_65 : decode cX10_undo 65 = .ok (.getfield 57, 3) := by decide +kernel
theorem dX10_undo_68 : decode cX10_undo 68 = .ok (.ireturn, 1) := by decide +kernel
theorem dX10_save_0 : decode cX10_save 0 = .ok (.aload_n 0, 1) := by decide +kernel
theorem dX10_save_1 : decode cX10_save 1 = .ok (.iconst 0, 1) := by decide +kernel
theorem dX10_save_2 : decode cX10_save 2 = .ok (.putfield 54, 3) := by decide +kernel
theorem dX10_save_5 : decode cX10_save 5 = .ok (.iconst 0, 1) := by decide +kernel
theorem dX10_save_6 : decode cX10_save 6 = .ok (.istore_n 1, 1) := by decide +kernel
theorem dX10_save_7 : decode cX10_save 7 = .ok (.iload_n 1, 1) := by decide +kernel
theorem dX10_save_8 : decode cX10_save 8 = .ok (.sipush 2048, 3) := by decide +kernel
theorem dX10_save_11 : decode cX10_save 11 = .ok (.if_icmp .ge 21, 3) := by decide +kernel
theorem dX10_save_14 : decode cX10_save 14 = .ok (.aload_n 0, 1) := by decide +kernel
theorem dX10_save_15 : decode cX10_save 15 = .ok (.getfield 16, 3) := by decide +kernel
theorem dX10_save_18 : decode cX10_save 18 = .ok (.iload_n 1, 1) := by decide +kernel
theorem dX10_save_19 : decode cX10_save 19 = .ok (.aload_n 0, 1) := by decide +kernel
theorem dX10_save_20 : decode cX10_save 20 = .ok (.getfield 9, 3) := by decide +kernel
theorem dX10_save_23 : decode cX10_save 23 = .ok (.iload_n 1, 1) := by decide +kernel
theorem dX10_save_24 : decode cX10_save 24 = .ok (.iaload, 1) := by decide +kernel
theorem dX10_save_25 : decode cX10_save 25 = .ok (.iastore, 1) := by decide +kernel
theorem dX10_save_26 : decode cX10_save 26 = .ok (.iinc 1 1, 3) := by decide +kernel
theorem dX10_save_29 : decode cX10_save 29 = .ok (.goto (-22), 3) := by decide +kernel
theorem dX10_save_32 : decode cX10_save 32 = .ok (.aload_n 0, 1) := by decide +kernel
theorem dX10_save_33 : decode cX10_save 33 = .ok (.iconst 1, 1) := by decide +kernel
theorem dX10_save_34 : decode cX10_save 34 = .ok (.putfield 315, 3) := by decide +kernel
theorem dX10_save_37 : decode cX10_save 37 = .ok (.aload_n 0, 1) := by decide +kernel
theorem dX10_save_38 : decode cX10_save 38 = .ok (.getfield 9, 3) := by decide +kernel
theorem dX10_save_41 : decode cX10_save 41 = .ok (.iconst 0, 1) := by decide +kernel
theorem dX10_save_42 : decode cX10_save 42 = .ok (.iaload, 1) := by decide +kernel
theorem dX10_save_43 : decode cX10_save 43 = .ok (.ireturn, 1) := by decide +kernel
theorem dX10_restore_0 : decode cX10_restore 0 = .ok (.aload_n 0, 1) := by decide +kernel
theorem dX10_restore_1 : decode cX10_restore 1 = .ok (.iconst 0, 1) := by decide +kernel
theorem dX10_restore_2 : decode cX10_restore 2 = .ok (.putfield 54, 3) := by decide +kernel
theorem dX10_restore_5 : decode cX10_restore 5 = .ok (.aload_n 0, 1) := by decide +kernel
theorem dX10_restore_6 : decode cX10_restore 6 = .ok (.getfield 315, 3) := by decide +kernel
theorem dX10_restore_9 : decode cX10_restore 9 = .ok (.ifCond .ne 9, 3) := by decide +kernel
theorem dX10_restore_12 : decode cX10_restore 12 = .ok (.aload_n 0, 1) := by decide +kernel
theorem dX10_restore_13 : decode cX10_restore 13 = .ok (.iconst 1, 1) := by decide +kernel
theorem dX10_restore_14 : decode cX10_restore 14 = .ok (.invokevirtual 120, 3) := by decide +kernel
theorem dX10_restore_17 : decode cX10_restore 17 = .ok (.ireturn, 1) := by decide +kernel
theorem dX10_restore_18 : decode cX10_restore 18 = .ok (.iconst 0, 1) := by decide +kernel
theorem dX10_restore_19 : decode cX10_restore 19 = .ok (.istore_n 1, 1) := by decide +kernel
theorem dX10_restore_20 : decode cX10_restore 20 = .ok (.iload_n 1, 1) := by decide +kernel
theorem dX10_restore_21 : decode cX10_restore 21 = .ok (.sipush 2048, 3) := by decide +kernel
theorem dX10_restore_24 : decode cX10_restore 24 = .ok (.if_icmp .ge 21, 3) := by decide +kernel
theorem dX10_restore_27 : decode cX10_restore 27 = .ok (.aload_n 0, 1) := by decide +kernel
theorem dX10_restore_28 : decode cX10_restore 28 = .ok (.getfield 9, 3) := by decide +kernel
theorem dX10_restore_31 : decode cX10_restore 31 = .ok (.iload_n 1, 1) := by decide +kernel
theorem dX10_restore_32 : decode cX10_restore 32 = .ok (.aload_n 0, 1) := by decide +kernel
theorem dX10_restore_33 : decode cX10_restore 33 = .ok (.getfield 16, 3) := by decide +kernel
theorem dX10_restore_36 : decode cX10_restore 36 = .ok (.iload_n 1, 1) := by decide +kernel
theorem dX10_restore_37 : decode cX10_restore 37 = .ok (.iaload, 1) := by decide +kernel
theorem dX10_restore_38 : decode cX10_restore 38 = .ok (.iastore, 1) := by decide +kernel
theorem dX10_restore_39 : decode cX10_restore 39 = .ok (.iinc 1 1, 3) := by decide +kernel
theorem dX10_restore_42 : decode cX10_restore 42 = .ok (.goto (-22), 3) := by decide +kernel
theorem dX10_restore_45 : decode cX10_restore 45 = .ok (.aload_n 0, 1) := by decide +kernel
theorem dX10_restore_46 : decode cX10_restore 46 = .ok (.iconst 0, 1) := by decide +kernel
theorem dX10_restore_47 : decode cX10_restore 47 = .ok (.putfield 57, 3) := by decide +kernel
theorem dX10_restore_50 : decode cX10_restore 50 = .ok (.aload_n 0, 1) := by decide +kernel
theorem dX10_restore_51 : decode cX10_restore 51 = .ok (.getfield 9, 3) := by decide +kernel
theorem dX10_restore_54 : decode cX10_restore 54 = .ok (.iconst 0, 1) := by decide +kernel
theorem dX10_restore_55 : decode cX10_restore 55 = .ok (.iaload, 1) := by decide +kernel
theorem dX10_restore_56 : decode cX10_restore 56 = .ok (.ireturn, 1) := by decide +kernel
theorem dJ5_init_d00df_0 : decode cJ5_init_d00df 0 = .ok (.aload_n 0, 1) := by decide +kernel
theorem dJ5_init_d00df_1 : decode cJ5_init_d00df 1 = .ok (.invokespecial 3, 3) := by decide +kernel
theorem dJ5_init_d00df_4 : decode cJ5_init_d00df 4 = .ok (.getstatic 18, 3) := by decide +kernel
theorem dJ5_init_d00df_7 : decode cJ5_init_d00df 7 = .ok (.ifCond .eq 18, 3) := by decide +kernel
theorem dJ5_init_d00df_10 : decode cJ5_init_d00df 10 = .ok (.aload_n 0, 1) := by decide +kernel
theorem dJ5_init_d00df_11 : decode cJ5_init_d00df 11 = .ok (.iload_n 1, 1) := by decide +kernel
theorem dJ5_init_d00df_12 : decode cJ5_init_d00df 12 = .ok (.newarray .byte, 2) := by decide +kernel
theorem dJ5_init_d00df_14 : decode cJ5_init_d00df 14 = .ok (.putfield 15, 3) := by decide +kernel
theorem dJ5_init_d00df_17 : decode cJ5_init_d00df 17 = .ok (.aload_n 0, 1) := by decide +kernel
theorem dJ5_init_d00df_18 : decode cJ5_init_d00df 18 = .ok (.iconst 0, 1) := by decide +kernel
theorem dJ5_init_d00df_19 : decode cJ5_init_d00df 19 = .ok (.putfield 22, 3) := by decide +kernel
theorem dJ5_init_d00df_22 : decode cJ5_init_d00df 22 = .ok (.goto 16, 3) := by decide +kernel
theorem dJ5_init_d00df_25 : decode cJ5_init_d00df 25 = .ok (.aload_n 0, 1) := by decide +kernel
theorem dJ5_init_d00df_26 : decode cJ5_init_d00df 26 = .ok (.iload_n 1, 1) := by decide +kernel
theorem dJ5_init_d00df_27 : decode cJ5_init_d00df 27 = .ok (.invokestatic 26, 3) := by decide +kernel
theorem dJ5_init_d00df_30 : decode cJ5_init_d00df 30 = .ok (.putfield 15, 3) := by decide +kernel
theorem dJ5_init_d00df_33 : decode cJ5_init_d00df 33 = .ok (.aload_n 0, 1) := by decide +kernel
theorem dJ5_init_d00df_34 : decode cJ5_init_d00df 34 = .ok (.iconst 1, 1) := by decide +kernel
theorem dJ5_init_d00df_35 : decode cJ5_init_d00df 35 = .ok (.putfield 22, 3) := by decide +kernel
theorem dJ5_init_d00df_38 : decode cJ5_init_d00df 38 = .ok (.return_, 1) := by decide +kernel
theorem dJ5_length_8abf5_0 : decode cJ5_length_8abf5 0 = .ok (.aload_n 0, 1) := by decide +kernel
theorem dJ5_length_8abf5_1 : decode cJ5_length_8abf5 1 = .ok (.getfield 79, 3) := by decide +kernel
theorem dJ5_length_8abf5_4 : decode cJ5_length_8abf5 4 = .ok (.ireturn, 1) := by decide +kernel
theorem dJ5_ensureCapacityInternal_d00df_0 : decode cJ5_ensureCapacityInternal_d00df 0 = .ok (.aload_n 0, 1) := by decide +kernel
theorem dJ5_ensureCapacityInternal_d00df_1 : decode cJ5_ensureCapacityInternal_d00df 1 = .ok (.getfield 15, 3) := by decide +kernel
theorem dJ5_ensureCapacityInternal_d00df_4 : decode cJ5_ensureCapacityInternal_d00df 4 = .ok (.arraylength, 1) := by decide +kernel
theorem dJ5_ensureCapacityInternal_d00df_5 : decode cJ5_ensureCapacityInternal_d00df 5 = .ok (.aload_n 0, 1) := by decide +kernel
theorem dJ5_ensureCapacityInternal_d00df_6 : decode cJ5_ensureCapacityInternal_d00df 6 = .ok (.getfield 22, 3) := by decide +kernel
theorem dJ5_ensureCapacityInternal_d00df_9 : decode cJ5_ensureCapacityInternal_d00df 9 = .ok (.ishr, 1) := by decide +kernel
theorem dJ5_ensureCapacityInternal_d00df_10 : decode cJ5_ensureCapacityInternal_d00df 10 = .ok (.istore_n 2, 1) := by decide +kernel
theorem dJ5_ensureCapacityInternal_d00df_11 : decode cJ5_ensureCapacityInternal_d00df 11 = .ok (.iload_n 1, 1) := by decide +kernel
theorem dJ5_ensureCapacityInternal_d00df_12 : decode cJ5_ensureCapacityInternal_d00df 12 = .ok (.iload_n 2, 1) := by decide +kernel
theorem dJ5_ensureCapacityInternal_d00df_13 : decode cJ5_ensureCapacityInternal_d00df 13 = .ok (.isub, 1) := by decide +kernel
theorem dJ5_ensureCapacityInternal_d00df_14 : decode cJ5_ensureCapacityInternal_d00df 14 = .ok (.ifCond .le 24, 3) := by decide +kernel
theorem dJ5_ensureCapacityInternal_d00df_17 : decode cJ5_ensureCapacityInternal_d00df 17 = .ok (.aload_n 0, 1) := by decide +kernel
theorem dJ5_ensureCapacityInternal_d00df_18 : decode cJ5_ensureCapacityInternal_d00df 18 = .ok (.aload_n 0, 1) := by decide +kernel
theorem dJ5_ensureCapacityInternal_d00df_19 : decode cJ5_ensureCapacityInternal_d00df 19 = .ok (.getfield 15, 3) := by decide +kernel
theorem dJ5_ensureCapacityInternal_d00df_22 : decode cJ5_ensureCapacityInternal_d00df 22 = .ok (.aload_n 0, 1) := by decide +kernel
theorem dJ5_ensureCapacityInternal_d00df_23 : decode cJ5_ensureCapacityInternal_d00df 23 = .ok (.iload_n 1, 1) := by decide +kernel
theorem dJ5_ensureCapacityInternal_d00df_24 : decode cJ5_ensureCapacityInternal_d00df 24 = .ok (.invokevirtual 104, 3) := by decide +kernel
theorem dJ5_ensureCapacityInternal_d00df_27 : decode cJ5_ensureCapacityInternal_d00df 27 = .ok (.aload_n 0, 1) := by decide +kernel
theorem dJ5_ensureCapacityInternal_d00df_28 : decode cJ5_ensureCapacityInternal_d00df 28 = .ok (.getfield 22, 3) := by decide +kernel
theorem dJ5_ensureCapacityInternal_d00df_31 : decode cJ5_ensureCapacityInternal_d00df 31 = .ok (.ishl, 1) := by decide +kernel
theorem dJ5_ensureCapacityInternal_d00df_32 : decode cJ5_ensureCapacityInternal_d00df 32 = .ok (.invokestatic 108, 3) := by decide +kernel
theorem dJ5_ensureCapacityInternal_d00df_35 : decode cJ5_ensureCapacityInternal_d00df 35 = .ok (.putfield 15, 3) := by decide +kernel
theorem dJ5_ensureCapacityInternal_d00df_38 : decode cJ5_ensureCapacityInternal_d00df 38 = .ok (.return_, 1) := by decide +kernel
theorem dJ5_newCapacity_0f7a4_0 : decode cJ5_newCapacity_0f7a4 0 = .ok (.aload_n 0, 1) := by decide +kernel
theorem dJ5_newCapacity_0f7a4_1 : decode cJ5_newCapacity_0f7a4 1 = .ok (.getfield 15, 3) := by decide +kernel
theorem dJ5_newCapacity_0f7a4_4 : decode cJ5_newCapacity_0f7a4 4 = .ok (.arraylength, 1) := by decide +kernel
theorem dJ5_newCapacity_0f7a4_5 : decode cJ5_newCapacity_0f7a4 5 = .ok (.istore_n 2, 1) := by decide +kernel
theorem dJ5_newCapacity_0f7a4_6 : decode cJ5_newCapacity_0f7a4 6 = .ok (.iload_n 1, 1) := by decide +kernel
theorem dJ5_newCapacity_0f7a4_7 : decode cJ5_newCapacity_0f7a4 7 = .ok (.aload_n 0, 1) := by decide +kernel
theorem dJ5_newCapacity_0f7a4_8 : decode cJ5_newCapacity_0f7a4 8 = .ok (.getfield 22, 3) := by decide +kernel
theorem dJ5_newCapacity_0f7a4_11 : decode cJ5_newCapacity_0f7a4 11 = .ok (.ishl, 1) := by decide +kernel
theorem dJ5_newCapacity_0f7a4_12 : decode cJ5_newCapacity_0f7a4 12 = .ok (.istore_n 3, 1) := by decide +kernel
theorem dJ5_newCapacity_0f7a4_13 : decode cJ5_newCapacity_0f7a4 13 = .ok (.iload_n 3, 1) := by decide +kernel
theorem dJ5_newCapacity_0f7a4_14 : decode cJ5_newCapacity_0f7a4 14 = .ok (.iload_n 2, 1) := by decide +kernel
theorem dJ5_newCapacity_0f7a4_15 : decode cJ5_newCapacity_0f7a4 15 = .ok (.isub, 1) := by decide +kernel
theorem dJ5_newCapacity_0f7a4_16 : decode cJ5_newCapacity_0f7a4 16 = .ok (.istore 4, 2) := by decide +kernel
theorem dJ5_newCapacity_0f7a4_18 : decode cJ5_newCapacity_0f7a4 18 = .ok (.iload_n 2, 1) := by decide +kernel
theorem dJ5_newCapacity_0f7a4_19 : decode cJ5_newCapacity_0f7a4 19 = .ok (.iload 4, 2) := by decide +kernel
theorem dJ5_newCapacity_0f7a4_21 : decode cJ5_newCapacity_0f7a4 21 = .ok (.iload_n 2, 1) := by decide +kernel
theorem dJ5_newCapacity_0f7a4_22 : decode cJ5_newCapacity_0f7a4 22 = .ok (.iconst 2, 1) := by decide +kernel
theorem dJ5_newCapacity_0f7a4_23 : decode cJ5_newCapacity_0f7a4 23 = .ok (.aload_n 0, 1) := by decide +kernel
theorem dJ5_newCapacity_0f7a4_24 : decode cJ5_newCapacity_0f7a4 24 = .ok (.getfield 22, 3) := by decide +kernel
theorem dJ5_newCapacity_0f7a4_27 : decode cJ5_newCapacity_0f7a4 27 = .ok (.ishl, 1) := by decide +kernel
theorem dJ5_newCapacity_0f7a4_28 : decode cJ5_newCapacity_0f7a4 28 = .ok (.iadd, 1) := by decide +kernel
theorem dJ5_newCapacity_0f7a4_29 : decode cJ5_newCapacity_0f7a4 29 = .ok (.invokestatic 114, 3) := by decide +kernel
theorem dJ5_newCapacity_0f7a4_32 : decode cJ5_newCapacity_0f7a4 32 = .ok (.istore 5, 2) := by decide +kernel
theorem dJ5_newCapacity_0f7a4_34 : decode cJ5_newCapacity_0f7a4 34 = .ok (.iload 5, 2) := by decide +kernel
theorem dJ5_newCapacity_0f7a4_36 : decode cJ5_newCapacity_0f7a4 36 = .ok (.ldc 39, 2) := by decide +kernel
theorem dJ5_newCapacity_0f7a4_38 : decode cJ5_newCapacity_0f7a4 38 = .ok (.if_icmp .ne 13, 3) := by decide +kernel
theorem dJ5_newCapacity_0f7a4_41 : decode cJ5_newCapacity_0f7a4 41 = .ok (.new 120, 3) := by decide +kernel
theorem dJ5_newCapacity_0f7a4_44 : decode cJ5_newCapacity_0f7a4 44 = .ok (.dup, 1) := by decide +kernel
theorem dJ5_newCapacity_0f7a4_45 : decode cJ5_newCapacity_0f7a4 45 = .ok (.ldc 122, 2) := by decide +kernel
theorem dJ5_newCapacity_0f7a4_47 : decode cJ5_newCapacity_0f7a4 47 = .ok (.invokespecial 124, 3) := by decide +kernel
theorem dJ5_newCapacity_0f7a4_50 : decode cJ5_newCapacity_0f7a4 50 = .ok (.athrow, 1) := by decide +kernel
theorem dJ5_newCapacity_0f7a4_51 : decode cJ5_newCapacity_0f7a4 51 = .ok (.iload 5, 2) := by decide +kernel
theorem dJ5_newCapacity_0f7a4_53 : decode cJ5_newCapacity_0f7a4 53 = .ok (.aload_n 0, 1) := by decide +kernel
theorem dJ5_newCapacity_0f7a4_54 : decode cJ5_newCapacity_0f7a4 54 = .ok (.getfield 22, 3) := by decide +kernel
theorem dJ5_newCapacity_0f7a4_57 : decode cJ5_newCapacity_0f7a4 57 = .ok (.ishr, 1) := by decide +kernel
theorem dJ5_newCapacity_0f7a4_58 : decode cJ5_newCapacity_0f7a4 58 = .ok (.ireturn, 1) := by decide +kernel
theorem dJ5_inflate_da8c8_0 : decode cJ5_inflate_da8c8 0 = .ok (.aload_n 0, 1) := by decide +kernel
theorem dJ5_inflate_da8c8_1 : decode cJ5_inflate_da8c8 1 = .ok (.invokevirtual 83, 3) := by decide +kernel
theorem dJ5_inflate_da8c8_4 : decode cJ5_inflate_da8c8 4 = .ok (.ifCond .ne 4, 3) := by decide +kernel
theorem dJ5_inflate_da8c8_7 : decode cJ5_inflate_da8c8 7 = .ok (.return_, 1) := by decide +kernel
theorem dJ5_inflate_da8c8_8 : decode cJ5_inflate_da8c8 8 = .ok (.aload_n 0, 1) := by decide +kernel
theorem dJ5_inflate_da8c8_9 : decode cJ5_inflate_da8c8 9 = .ok (.getfield 15, 3) := by decide +kernel
theorem dJ5_inflate_da8c8_12 : decode cJ5_inflate_da8c8 12 = .ok (.arraylength, 1) := by decide +kernel
theorem dJ5_inflate_da8c8_13 : decode cJ5_inflate_da8c8 13 = .ok (.invokestatic 26, 3) := by decide +kernel
theorem dJ5_inflate_da8c8_16 : decode cJ5_inflate_da8c8 16 = .ok (.astore_n 1, 1) := by decide +kernel
theorem dJ5_inflate_da8c8_17 : decode cJ5_inflate_da8c8 17 = .ok (.aload_n 0, 1) := by decide +kernel
theorem dJ5_inflate_da8c8_18 : decode cJ5_inflate_da8c8 18 = .ok (.getfield 15, 3) := by decide +kernel
theorem dJ5_inflate_da8c8_21 : decode cJ5_inflate_da8c8 21 = .ok (.iconst 0, 1) := by decide +kernel
theorem dJ5_inflate_da8c8_22 : decode cJ5_inflate_da8c8 22 = .ok (.aload_n 1, 1) := by decide +kernel
theorem dJ5_inflate_da8c8_23 : decode cJ5_inflate_da8c8 23 = .ok (.iconst 0, 1) := by decide +kernel
theorem dJ5_inflate_da8c8_24 : decode cJ5_inflate_da8c8 24 = .ok (.aload_n 0, 1) := by decide +kernel
theorem dJ5_inflate_da8c8_25 : decode cJ5_inflate_da8c8 25 = .ok (.getfield 79, 3) := by decide +kernel
theorem dJ5_inflate_da8c8_28 : decode cJ5_inflate_da8c8 28 = .ok (.invokestatic 125, 3) := by decide +kernel
theorem dJ5_inflate_da8c8_31 : decode cJ5_inflate_da8c8 31 = .ok (.aload_n 0, 1) := by decide +kernel
theorem dJ5_inflate_da8c8_32 : decode cJ5_inflate_da8c8 32 = .ok (.aload_n 1, 1) := by decide +kernel
theorem dJ5_inflate_da8c8_33 : decode cJ5_inflate_da8c8 33 = .ok (.putfield 15, 3) := by decide +kernel
theorem dJ5_inflate_da8c8_36 : decode cJ5_inflate_da8c8 36 = .ok (.aload_n 0, 1) := by decide +kernel
theorem dJ5_inflate_da8c8_37 : decode cJ5_inflate_da8c8 37 = .ok (.iconst 1, 1) := by decide +kernel
theorem dJ5_inflate_da8c8_38 : decode cJ5_inflate_da8c8 38 = .ok (.putfield 22, 3) := by decide +kernel
theorem dJ5_inflate_da8c8_41 : decode cJ5_inflate_da8c8 41 = .ok (.return_, 1) := by decide +kernel
theorem dJ5_setLength_d00df_0 : decode cJ5_setLength_d00df 0 = .ok (.iload_n 1, 1) := by decide +kernel
theorem dJ5_setLength_d00df_1 : decode cJ5_setLength_d00df 1 = .ok (.ifCond .ge 12, 3) := by decide +kernel
theorem dJ5_setLength_d00df_4 : decode cJ5_setLength_d00df 4 = .ok (.new 129, 3) := by decide +kernel
theorem dJ5_setLength_d00df_7 : decode cJ5_setLength_d00df 7 = .ok (.dup, 1) := by decide +kernel
theorem dJ5_setLength_d00df_8 : decode cJ5_setLength_d00df 8 = .ok (.iload_n 1, 1) := by decide +kernel
theorem dJ5_setLength_d00df_9 : decode cJ5_setLength_d00df 9 = .ok (.invokespecial 131, 3) := by decide +kernel
theorem dJ5_setLength_d00df_12 : decode cJ5_setLength_d00df 12 = .ok (.athrow, 1) := by decide +kernel
theorem dJ5_setLength_d00df_13 : decode cJ5_setLength_d00df 13 = .ok (.aload_n 0, 1) := by decide +kernel
theorem dJ5_setLength_d00df_14 : decode cJ5_setLength_d00df 14 = .ok (.iload_n 1, 1) := by decide +kernel
theorem dJ5_setLength_d00df_15 : decode cJ5_setLength_d00df 15 = .ok (.invokevirtual 100, 3) := by decide +kernel
theorem dJ5_setLength_d00df_18 : decode cJ5_setLength_d00df 18 = .ok (.aload_n 0, 1) := by decide +kernel
theorem dJ5_setLength_d00df_19 : decode cJ5_setLength_d00df 19 = .ok (.getfield 79, 3) := by decide +kernel
theorem dJ5_setLength_d00df_22 : decode cJ5_setLength_d00df 22 = .ok (.iload_n 1, 1) := by decide +kernel
theorem dJ5_setLength_d00df_23 : decode cJ5_setLength_d00df 23 = .ok (.if_icmp .ge 40, 3) := by decide +kernel
theorem dJ5_setLength_d00df_26 : decode cJ5_setLength_d00df 26 = .ok (.aload_n 0, 1) := by decide +kernel
theorem dJ5_setLength_d00df_27 : decode cJ5_setLength_d00df 27 = .ok (.invokevirtual 83, 3) := by decide +kernel
theorem dJ5_setLength_d00df_30 : decode cJ5_setLength_d00df 30 = .ok (.ifCond .eq 18, 3) := by decide +kernel
theorem dJ5_setLength_d00df_33 : decode cJ5_setLength_d00df 33 = .ok (.aload_n 0, 1) := by decide +kernel
theorem dJ5_setLength_d00df_34 : decode cJ5_setLength_d00df 34 = .ok (.getfield 15, 3) := by decide +kernel
theorem dJ5_setLength_d00df_37 : decode cJ5_setLength_d00df 37 = .ok (.aload_n 0, 1) := by decide +kernel
theorem dJ5_setLength_d00df_38 : decode cJ5_setLength_d00df 38 = .ok (.getfield 79, 3) := by decide +kernel
theorem dJ5_setLength_d00df_41 : decode cJ5_setLength_d00df 41 = .ok (.iload_n 1, 1) := by decide +kernel
theorem dJ5_setLength_d00df_42 : decode cJ5_setLength_d00df 42 = .ok (.invokestatic 133, 3) := by decide +kernel
theorem dJ5_setLength_d00df_45 : decode cJ5_setLength_d00df 45 = .ok (.goto 31, 3) := by decide +kernel
theorem dJ5_setLength_d00df_48 : decode cJ5_setLength_d00df 48 = .ok (.aload_n 0, 1) := by decide +kernel
theorem dJ5_setLength_d00df_49 : decode cJ5_setLength_d00df 49 = .ok (.getfield 15, 3) := by decide +kernel
theorem dJ5_setLength_d00df_52 : decode cJ5_setLength_d00df 52 = .ok (.aload_n 0, 1) := by decide +kernel
theorem dJ5_setLength_d00df_53 : decode cJ5_setLength_d00df 53 = .ok (.getfield 79, 3) := by decide +kernel
theorem dJ5_setLength_d00df_56 : decode cJ5_setLength_d00df 56 = .ok (.iload_n 1, 1) := by decide +kernel
theorem dJ5_setLength_d00df_57 : decode cJ5_setLength_d00df 57 = .ok (.invokestatic 137, 3) := by decide +kernel
theorem dJ5_setLength_d00df_60 : decode cJ5_setLength_d00df 60 = .ok (.goto 16, 3) := by decide +kernel
theorem dJ5_setLength_d00df_63 : decode cJ5_setLength_d00df 63 = .ok (.aload_n 0, 1) := by decide +kernel
theorem dJ5_setLength_d00df_64 : decode cJ5_setLength_d00df 64 = .ok (.getfield 79, 3) := by decide +kernel
theorem dJ5_setLength_d00df_67 : decode cJ5_setLength_d00df 67 = .ok (.iload_n 1, 1) := by decide +kernel
theorem dJ5_setLength_d00df_68 : decode cJ5_setLength_d00df 68 = .ok (.if_icmp .le 8, 3) := by decide +kernel
theorem dJ5_setLength_d00df_71 : decode cJ5_setLength_d00df 71 = .ok (.aload_n 0, 1) := by decide +kernel
theorem dJ5_setLength_d00df_72 : decode cJ5_setLength_d00df 72 = .ok (.iconst 1, 1) := by decide +kernel
theorem dJ5_setLength_d00df_73 : decode cJ5_setLength_d00df 73 = .ok (.putfield 73, 3) := by decide +kernel
theorem dJ5_setLength_d00df_76 : decode cJ5_setLength_d00df 76 = .ok (.aload_n 0, 1) := by decide +kernel
theorem dJ5_setLength_d00df_77 : decode cJ5_setLength_d00df 77 = .ok (.iload_n 1, 1) := by decide +kernel
theorem dJ5_setLength_d00df_78 : decode cJ5_setLength_d00df 78 = .ok (.putfield 79, 3) := by decide +kernel
theorem dJ5_setLength_d00df_81 : decode cJ5_setLength_d00df 81 = .ok (.return_, 1) := by decide +kernel
theorem dJ5_charAt_5068e_0 : decode cJ5_charAt_5068e 0 = .ok (.aload_n 0, 1) := by decide +kernel
theorem dJ5_charAt_5068e_1 : decode cJ5_charAt_5068e 1 = .ok (.getfield 22, 3) := by decide +kernel
theorem dJ5_charAt_5068e_4 : decode cJ5_charAt_5068e 4 = .ok (.istore_n 2, 1) := by decide +kernel
theorem dJ5_charAt_5068e_5 : decode cJ5_charAt_5068e 5 = .ok (.aload_n 0, 1) := by decide +kernel
theorem dJ5_charAt_5068e_6 : decode cJ5_charAt_5068e 6 = .ok (.getfield 15, 3) := by decide +kernel
theorem dJ5_charAt_5068e_9 : decode cJ5_charAt_5068e 9 = .ok (.astore_n 3, 1) := by decide +kernel
theorem dJ5_charAt_5068e_10 : decode cJ5_charAt_5068e 10 = .ok (.aload_n 0, 1) := by decide +kernel
theorem dJ5_charAt_5068e_11 : decode cJ5_charAt_5068e 11 = .ok (.getfield 79, 3) := by decide +kernel
theorem dJ5_charAt_5068e_14 : decode cJ5_charAt_5068e 14 = .ok (.aload_n 3, 1) := by decide +kernel
theorem dJ5_charAt_5068e_15 : decode cJ5_charAt_5068e 15 = .ok (.arraylength, 1) := by decide +kernel
theorem dJ5_charAt_5068e_16 : decode cJ5_charAt_5068e 16 = .ok (.iload_n 2, 1) := by decide +kernel
theorem dJ5_charAt_5068e_17 : decode cJ5_charAt_5068e 17 = .ok (.ishr, 1) := by decide +kernel
theorem dJ5_charAt_5068e_18 : decode cJ5_charAt_5068e 18 = .ok (.invokestatic 138, 3) := by decide +kernel
theorem dJ5_charAt_5068e_21 : decode cJ5_charAt_5068e 21 = .ok (.istore 4, 2) := by decide +kernel
theorem dJ5_charAt_5068e_23 : decode cJ5_charAt_5068e 23 = .ok (.iload_n 1, 1) := by decide +kernel
theorem dJ5_charAt_5068e_24 : decode cJ5_charAt_5068e 24 = .ok (.iload 4, 2) := by decide +kernel
theorem dJ5_charAt_5068e_26 : decode cJ5_charAt_5068e 26 = .ok (.invokestatic 144, 3) := by decide +kernel
theorem dJ5_charAt_5068e_29 : decode cJ5_charAt_5068e 29 = .ok (.iload_n 2, 1) := by decide +kernel
theorem dJ5_charAt_5068e_30 : decode cJ5_charAt_5068e 30 = .ok (.ifCond .ne 12, 3) := by decide +kernel
theorem dJ5_charAt_5068e_33 : decode cJ5_charAt_5068e 33 = .ok (.aload_n 3, 1) := by decide +kernel
theorem dJ5_charAt_5068e_34 : decode cJ5_charAt_5068e 34 = .ok (.iload_n 1, 1) := by decide +kernel
theorem dJ5_charAt_5068e_35 : decode cJ5_charAt_5068e 35 = .ok (.baload, 1) := by decide +kernel
theorem dJ5_charAt_5068e_36 : decode cJ5_charAt_5068e 36 = .ok (.sipush 255, 3) := by decide +kernel
theorem dJ5_charAt_5068e_39 : decode cJ5_charAt_5068e 39 = .ok (.iand, 1) := by decide +kernel
theorem dJ5_charAt_5068e_40 : decode cJ5_charAt_5068e 40 = .ok (.i2c, 1) := by decide +kernel
theorem dJ5_charAt_5068e_41 : decode cJ5_charAt_5068e 41 = .ok (.ireturn, 1) := by decide +kernel
theorem dJ5_charAt_5068e_42 : decode cJ5_charAt_5068e 42 = .ok (.aload_n 3, 1) := by decide +kernel
theorem dJ5_charAt_5068e_43 : decode cJ5_charAt_5068e 43 = .ok (.iload_n 1, 1) := by decide +kernel
theorem dJ5_charAt_5068e_44 : decode cJ5_charAt_5068e 44 = .ok (.invokestatic 148, 3) := by decide +kernel
theorem dJ5_charAt_5068e_47 : decode cJ5_charAt_5068e 47 = .ok (.ireturn, 1) := by decide +kernel
theorem dJ5_append_cf1ce_0 : decode cJ5_append_cf1ce 0 = .ok (.aload_n 1, 1) := by decide +kernel
theorem dJ5_append_cf1ce_1 : decode cJ5_append_cf1ce 1 = .ok (.ifnonnull 8, 3) := by decide +kernel
theorem dJ5_append_cf1ce_4 : decode cJ5_append_cf1ce 4 = .ok (.aload_n 0, 1) := by decide +kernel
theorem dJ5_append_cf1ce_5 : decode cJ5_append_cf1ce 5 = .ok (.invokevirtual 204, 3) := by decide +kernel
theorem dJ5_append_cf1ce_8 : decode cJ5_append_cf1ce 8 = .ok (.areturn, 1) := by decide +kernel
theorem dJ5_append_cf1ce_9 : decode cJ5_append_cf1ce 9 = .ok (.aload_n 1, 1) := by decide +kernel
theorem dJ5_append_cf1ce_10 : decode cJ5_append_cf1ce 10 = .ok (.invokevirtual 32, 3) := by decide +kernel
theorem dJ5_append_cf1ce_13 : decode cJ5_append_cf1ce 13 = .ok (.istore_n 2, 1) := by decide +kernel
theorem dJ5_append_cf1ce_14 : decode cJ5_append_cf1ce 14 = .ok (.aload_n 0, 1) := by decide +kernel
theorem dJ5_append_cf1ce_15 : decode cJ5_append_cf1ce 15 = .ok (.aload_n 0, 1) := by decide +kernel
theorem dJ5_append_cf1ce_16 : decode cJ5_append_cf1ce 16 = .ok (.getfield 79, 3) := by decide +kernel
theorem dJ5_append_cf1ce_19 : decode cJ5_append_cf1ce 19 = .ok (.iload_n 2, 1) := by decide +kernel
theorem dJ5_append_cf1ce_20 : decode cJ5_append_cf1ce 20 = .ok (.iadd, 1) := by decide +kernel
theorem dJ5_append_cf1ce_21 : decode cJ5_append_cf1ce 21 = .ok (.invokevirtual 100, 3) := by decide +kernel
theorem dJ5_append_cf1ce_24 : decode cJ5_append_cf1ce 24 = .ok (.aload_n 0, 1) := by decide +kernel
theorem dJ5_append_cf1ce_25 : decode cJ5_append_cf1ce 25 = .ok (.aload_n 0, 1) := by decide +kernel
theorem dJ5_append_cf1ce_26 : decode cJ5_append_cf1ce 26 = .ok (.getfield 79, 3) := by decide +kernel
theorem dJ5_append_cf1ce_29 : decode cJ5_append_cf1ce 29 = .ok (.aload_n 1, 1) := by decide +kernel
theorem dJ5_append_cf1ce_30 : decode cJ5_append_cf1ce 30 = .ok (.invokevirtual 208, 3) := by decide +kernel
theorem dJ5_append_cf1ce_33 : decode cJ5_append_cf1ce 33 = .ok (.aload_n 0, 1) := by decide +kernel
theorem dJ5_append_cf1ce_34 : decode cJ5_append_cf1ce 34 = .ok (.dup, 1) := by decide +kernel
theorem dJ5_append_cf1ce_35 : decode cJ5_append_cf1ce 35 = .ok (.getfield 79, 3) := by decide +kernel
theorem dJ5_append_cf1ce_38 : decode cJ5_append_cf1ce 38 = .ok (.iload_n 2, 1) := by decide +kernel
theorem dJ5_append_cf1ce_39 : decode cJ5_append_cf1ce 39 = .ok (.iadd, 1) := by decide +kernel
theorem dJ5_append_cf1ce_40 : decode cJ5_append_cf1ce 40 = .ok (.putfield 79, 3) := by decide +kernel
theorem dJ5_append_cf1ce_43 : decode cJ5_append_cf1ce 43 = .ok (.aload_n 0, 1) := by decide +kernel
theorem dJ5_append_cf1ce_44 : decode cJ5_append_cf1ce 44 = .ok (.areturn, 1) := by decide +kernel
theorem dJ5_appendNull_278bc_0 : decode cJ5_appendNull_278bc 0 = .ok (.aload_n 0, 1) := by decide +kernel
theorem dJ5_appendNull_278bc_1 : decode cJ5_appendNull_278bc 1 = .ok (.aload_n 0, 1) := by decide +kernel
theorem dJ5_appendNull_278bc_2 : decode cJ5_appendNull_278bc 2 = .ok (.getfield 79, 3) := by decide +kernel
theorem dJ5_appendNull_278bc_5 : decode cJ5_appendNull_278bc 5 = .ok (.iconst 4, 1) := by decide +kernel
theorem dJ5_appendNull_278bc_6 : decode cJ5_appendNull_278bc 6 = .ok (.iadd, 1) := by decide +kernel
theorem dJ5_appendNull_278bc_7 : decode cJ5_appendNull_278bc 7 = .ok (.invokevirtual 100, 3) := by decide +kernel
theorem dJ5_appendNull_278bc_10 : decode cJ5_appendNull_278bc 10 = .ok (.aload_n 0, 1) := by decide +kernel
theorem dJ5_appendNull_278bc_11 : decode cJ5_appendNull_278bc 11 = .ok (.getfield 79, 3) := by decide +kernel
theorem dJ5_appendNull_278bc_14 : decode cJ5_appendNull_278bc 14 = .ok (.istore_n 1, 1) := by decide +kernel
theorem dJ5_appendNull_278bc_15 : decode cJ5_appendNull_278bc 15 = .ok (.aload_n 0, 1) := by decide +kernel
theorem dJ5_appendNull_278bc_16 : decode cJ5_appendNull_278bc 16 = .ok (.getfield 15, 3) := by decide +kernel
theorem dJ5_appendNull_278bc_19 : decode cJ5_appendNull_278bc 19 = .ok (.astore_n 2, 1) := by decide +kernel
theorem dJ5_appendNull_278bc_20 : decode cJ5_appendNull_278bc 20 = .ok (.aload_n 0, 1) := by decide +kernel
theorem dJ5_appendNull_278bc_21 : decode cJ5_appendNull_278bc 21 = .ok (.invokevirtual 83, 3) := by decide +kernel
theorem dJ5_appendNull_278bc_24 : decode cJ5_appendNull_278bc 24 = .ok (.ifCond .eq 38, 3) := by decide +kernel
theorem dJ5_appendNull_278bc_27 : decode cJ5_appendNull_278bc 27 = .ok (.aload_n 2, 1) := by decide +kernel
theorem dJ5_appendNull_278bc_28 : decode cJ5_appendNull_278bc 28 = .ok (.iload_n 1, 1) := by decide +kernel
theorem dJ5_appendNull_278bc_29 : decode cJ5_appendNull_278bc 29 = .ok (.iinc 1 1, 3) := by decide +kernel
theorem dJ5_appendNull_278bc_32 : decode cJ5_appendNull_278bc 32 = .ok (.bipush 110, 2) := by decide +kernel
theorem dJ5_appendNull_278bc_34 : decode cJ5_appendNull_278bc 34 = .ok (.bastore, 1) := by decide +kernel
theorem dJ5_appendNull_278bc_35 : decode cJ5_appendNull_278bc 35 = .ok (.aload_n 2, 1) := by decide +kernel
theorem dJ5_appendNull_278bc_36 : decode cJ5_appendNull_278bc 36 = .ok (.iload_n 1, 1) := by decide +kernel
theorem dJ5_appendNull_278bc_37 : decode cJ5_appendNull_278bc 37 = .ok (.iinc 1 1, 3) := by decide +kernel
theorem dJ5_appendNull_278bc_40 : decode cJ5_appendNull_278bc 40 = .ok (.bipush 117, 2) := by decide +kernel
theorem dJ5_appendNull_278bc_42 : decode cJ5_appendNull_278bc 42 = .ok (.bastore, 1) := by decide +kernel
theorem dJ5_appendNull_278bc_43 : decode cJ5_appendNull_278bc 43 = .ok (.aload_n 2, 1) := by decide +kernel
theorem dJ5_appendNull_278bc_44 : decode cJ5_appendNull_278bc 44 = .ok (.iload_n 1, 1) := by decide +kernel
theorem dJ5_appendNull_278bc_45 : decode cJ5_appendNull_278bc 45 = .ok (.iinc 1 1, 3) := by decide +kernel
theorem dJ5_appendNull_278bc_48 : decode cJ5_appendNull_278bc 48 = .ok (.bipush 108, 2) := by decide +kernel
theorem dJ5_appendNull_278bc_50 : decode cJ5_appendNull_278bc 50 = .ok (.bastore, 1) := by decide +kernel
theorem dJ5_appendNull_278bc_51 : decode cJ5_appendNull_278bc 51 = .ok (.aload_n 2, 1) := by decide +kernel
theorem dJ5_appendNull_278bc_52 : decode cJ5_appendNull_278bc 52 = .ok (.iload_n 1, 1) := by decide +kernel
theorem dJ5_appendNull_278bc_53 : decode cJ5_appendNull_278bc 53 = .ok (.iinc 1 1, 3) := by decide +kernel
theorem dJ5_appendNull_278bc_56 : decode cJ5_appendNull_278bc 56 = .ok (.bipush 108, 2) := by decide +kernel
theorem dJ5_appendNull_278bc_58 : decode cJ5_appendNull_278bc 58 = .ok (.bastore, 1) := by decide +kernel
theorem dJ5_appendNull_278bc_59 : decode cJ5_appendNull_278bc 59 = .ok (.goto 17, 3) := by decide +kernel
theorem dJ5_appendNull_278bc_62 : decode cJ5_appendNull_278bc 62 = .ok (.aload_n 2, 1) := by decide +kernel
theorem dJ5_appendNull_278bc_63 : decode cJ5_appendNull_278bc 63 = .ok (.iload_n 1, 1) := by decide +kernel
theorem dJ5_appendNull_278bc_64 : decode cJ5_appendNull_278bc 64 = .ok (.bipush 110, 2) := by decide +kernel
theorem dJ5_appendNull_278bc_66 : decode cJ5_appendNull_278bc 66 = .ok (.bipush 117, 2) := by decide +kernel
theorem dJ5_appendNull_278bc_68 : decode cJ5_appendNull_278bc 68 = .ok (.bipush 108, 2) := by decide +kernel
theorem dJ5_appendNull_278bc_70 : decode cJ5_appendNull_278bc 70 = .ok (.bipush 108, 2) := by decide +kernel
theorem dJ5_appendNull_278bc_72 : decode cJ5_appendNull_278bc 72 = .ok (.invokestatic 226, 3) := by decide +kernel
theorem dJ5_appendNull_278bc_75 : decode cJ5_appendNull_278bc 75 = .ok (.istore_n 1, 1) := by decide +kernel
theorem dJ5_appendNull_278bc_76 : decode cJ5_appendNull_278bc 76 = .ok (.aload_n 0, 1) := by decide +kernel
theorem dJ5_appendNull_278bc_77 : decode cJ5_appendNull_278bc 77 = .ok (.iload_n 1, 1) := by decide +kernel
theorem dJ5_appendNull_278bc_78 : decode cJ5_appendNull_278bc 78 = .ok (.putfield 79, 3) := by decide +kernel
theorem dJ5_appendNull_278bc_81 : decode cJ5_appendNull_278bc 81 = .ok (.aload_n 0, 1) := by decide +kernel
theorem dJ5_appendNull_278bc_82 : decode cJ5_appendNull_278bc 82 = .ok (.areturn, 1) := by decide +kernel
theorem dJ5_append_3fe6f_0 : decode cJ5_append_3fe6f 0 = .ok (.aload_n 0, 1) := by decide +kernel
theorem dJ5_append_3fe6f_1 : decode cJ5_append_3fe6f 1 = .ok (.aload_n 0, 1) := by decide +kernel
theorem dJ5_append_3fe6f_2 : decode cJ5_append_3fe6f 2 = .ok (.getfield 79, 3) := by decide +kernel
theorem dJ5_append_3fe6f_5 : decode cJ5_append_3fe6f 5 = .ok (.iconst 1, 1) := by decide +kernel
theorem dJ5_append_3fe6f_6 : decode cJ5_append_3fe6f 6 = .ok (.iadd, 1) := by decide +kernel
theorem dJ5_append_3fe6f_7 : decode cJ5_append_3fe6f 7 = .ok (.invokevirtual 100, 3) := by decide +kernel
theorem dJ5_append_3fe6f_10 : decode cJ5_append_3fe6f 10 = .ok (.aload_n 0, 1) := by decide +kernel
theorem dJ5_append_3fe6f_11 : decode cJ5_append_3fe6f 11 = .ok (.invokevirtual 83, 3) := by decide +kernel
theorem dJ5_append_3fe6f_14 : decode cJ5_append_3fe6f 14 = .ok (.ifCond .eq 31, 3) := by decide +kernel
theorem dJ5_append_3fe6f_17 : decode cJ5_append_3fe6f 17 = .ok (.iload_n 1, 1) := by decide +kernel
theorem dJ5_append_3fe6f_18 : decode cJ5_append_3fe6f 18 = .ok (.invokestatic 191, 3) := by decide +kernel
theorem dJ5_append_3fe6f_21 : decode cJ5_append_3fe6f 21 = .ok (.ifCond .eq 24, 3) := by decide +kernel
theorem dJ5_append_3fe6f_24 : decode cJ5_append_3fe6f 24 = .ok (.aload_n 0, 1) := by decide +kernel
theorem dJ5_append_3fe6f_25 : decode cJ5_append_3fe6f 25 = .ok (.getfield 15, 3) := by decide +kernel
theorem dJ5_append_3fe6f_28 : decode cJ5_append_3fe6f 28 = .ok (.aload_n 0, 1) := by decide +kernel
theorem dJ5_append_3fe6f_29 : decode cJ5_append_3fe6f 29 = .ok (.dup, 1) := by decide +kernel
theorem dJ5_append_3fe6f_30 : decode cJ5_append_3fe6f 30 = .ok (.getfield 79, 3) := by decide +kernel
theorem dJ5_append_3fe6f_33 : decode cJ5_append_3fe6f 33 = .ok (.dup_x1, 1) := by decide +kernel
theorem dJ5_append_3fe6f_34 : decode cJ5_append_3fe6f 34 = .ok (.iconst 1, 1) := by decide +kernel
theorem dJ5_append_3fe6f_35 : decode cJ5_append_3fe6f 35 = .ok (.iadd, 1) := by decide +kernel
theorem dJ5_append_3fe6f_36 : decode cJ5_append_3fe6f 36 = .ok (.putfield 79, 3) := by decide +kernel
theorem dJ5_append_3fe6f_39 : decode cJ5_append_3fe6f 39 = .ok (.iload_n 1, 1) := by decide +kernel
theorem dJ5_append_3fe6f_40 : decode cJ5_append_3fe6f 40 = .ok (.i2b, 1) := by decide +kernel
theorem dJ5_append_3fe6f_41 : decode cJ5_append_3fe6f 41 = .ok (.bastore, 1) := by decide +kernel
theorem dJ5_append_3fe6f_42 : decode cJ5_append_3fe6f 42 = .ok (.goto 33, 3) := by decide +kernel
theorem dJ5_append_3fe6f_45 : decode cJ5_append_3fe6f 45 = .ok (.aload_n 0, 1) := by decide +kernel
theorem dJ5_append_3fe6f_46 : decode cJ5_append_3fe6f 46 = .ok (.invokevirtual 83, 3) := by decide +kernel
theorem dJ5_append_3fe6f_49 : decode cJ5_append_3fe6f 49 = .ok (.ifCond .eq 7, 3) := by decide +kernel
theorem dJ5_append_3fe6f_52 : decode cJ5_append_3fe6f 52 = .ok (.aload_n 0, 1) := by decide +kernel
theorem dJ5_append_3fe6f_53 : decode cJ5_append_3fe6f 53 = .ok (.invokevirtual 195, 3) := by decide +kernel
theorem dJ5_append_3fe6f_56 : decode cJ5_append_3fe6f 56 = .ok (.aload_n 0, 1) := by decide +kernel
theorem dJ5_append_3fe6f_57 : decode cJ5_append_3fe6f 57 = .ok (.getfield 15, 3) := by decide +kernel
theorem dJ5_append_3fe6f_60 : decode cJ5_append_3fe6f 60 = .ok (.aload_n 0, 1) := by decide +kernel
theorem dJ5_append_3fe6f_61 : decode cJ5_append_3fe6f 61 = .ok (.dup, 1) := by decide +kernel
theorem dJ5_append_3fe6f_62 : decode cJ5_append_3fe6f 62 = .ok (.getfield 79, 3) := by decide +kernel
theorem dJ5_append_3fe6f_65 : decode cJ5_append_3fe6f 65 = .ok (.dup_x1, 1) := by decide +kernel
theorem dJ5_append_3fe6f_66 : decode cJ5_append_3fe6f 66 = .ok (.iconst 1, 1) := by decide +kernel
theorem dJ5_append_3fe6f_67 : decode cJ5_append_3fe6f 67 = .ok (.iadd, 1) := by decide +kernel
theorem dJ5_append_3fe6f_68 : decode cJ5_append_3fe6f 68 = .ok (.putfield 79, 3) := by decide +kernel
theorem dJ5_append_3fe6f_71 : decode cJ5_append_3fe6f 71 = .ok (.iload_n 1, 1) := by decide +kernel
theorem dJ5_append_3fe6f_72 : decode cJ5_append_3fe6f 72 = .ok (.invokestatic 197, 3) := by decide +kernel
theorem dJ5_append_3fe6f_75 : decode cJ5_append_3fe6f 75 = .ok (.aload_n 0, 1) := by decide +kernel
theorem dJ5_append_3fe6f_76 : decode cJ5_append_3fe6f 76 = .ok (.areturn, 1) := by decide +kernel
theorem dJ5_append_c97b9_0 : decode cJ5_append_c97b9 0 = .ok (.aload_n 0, 1) := by decide +kernel
theorem dJ5_append_c97b9_1 : decode cJ5_append_c97b9 1 = .ok (.getfield 79, 3) := by decide +kernel
theorem dJ5_append_c97b9_4 : decode cJ5_append_c97b9 4 = .ok (.istore_n 2, 1) := by decide +kernel
theorem dJ5_append_c97b9_5 : decode cJ5_append_c97b9 5 = .ok (.iload_n 2, 1) := by decide +kernel
theorem dJ5_append_c97b9_6 : decode cJ5_append_c97b9 6 = .ok (.iload_n 1, 1) := by decide +kernel
theorem dJ5_append_c97b9_7 : decode cJ5_append_c97b9 7 = .ok (.invokestatic 245, 3) := by decide +kernel
theorem dJ5_append_c97b9_10 : decode cJ5_append_c97b9 10 = .ok (.iadd, 1) := by decide +kernel
theorem dJ5_append_c97b9_11 : decode cJ5_append_c97b9 11 = .ok (.istore_n 3, 1) := by decide +kernel
theorem dJ5_append_c97b9_12 : decode cJ5_append_c97b9 12 = .ok (.aload_n 0, 1) := by decide +kernel
theorem dJ5_append_c97b9_13 : decode cJ5_append_c97b9 13 = .ok (.iload_n 3, 1) := by decide +kernel
theorem dJ5_append_c97b9_14 : decode cJ5_append_c97b9 14 = .ok (.invokevirtual 100, 3) := by decide +kernel
theorem dJ5_append_c97b9_17 : decode cJ5_append_c97b9 17 = .ok (.aload_n 0, 1) := by decide +kernel
theorem dJ5_append_c97b9_18 : decode cJ5_append_c97b9 18 = .ok (.invokevirtual 83, 3) := by decide +kernel
theorem dJ5_append_c97b9_21 : decode cJ5_append_c97b9 21 = .ok (.ifCond .eq 16, 3) := by decide +kernel
theorem dJ5_append_c97b9_24 : decode cJ5_append_c97b9 24 = .ok (.iload_n 1, 1) := by decide +kernel
theorem dJ5_append_c97b9_25 : decode cJ5_append_c97b9 25 = .ok (.iload_n 3, 1) := by decide +kernel
theorem dJ5_append_c97b9_26 : decode cJ5_append_c97b9 26 = .ok (.aload_n 0, 1) := by decide +kernel
theorem dJ5_append_c97b9_27 : decode cJ5_append_c97b9 27 = .ok (.getfield 15, 3) := by decide +kernel
theorem dJ5_append_c97b9_30 : decode cJ5_append_c97b9 30 = .ok (.invokestatic 248, 3) := by decide +kernel
theorem dJ5_append_c97b9_33 : decode cJ5_append_c97b9 33 = .ok (.pop, 1) := by decide +kernel
theorem dJ5_append_c97b9_34 : decode cJ5_append_c97b9 34 = .ok (.goto 14, 3) := by decide +kernel
theorem dJ5_append_c97b9_37 : decode cJ5_append_c97b9 37 = .ok (.iload_n 1, 1) := by decide +kernel
theorem dJ5_append_c97b9_38 : decode cJ5_append_c97b9 38 = .ok (.iload_n 2, 1) := by decide +kernel
theorem dJ5_append_c97b9_39 : decode cJ5_append_c97b9 39 = .ok (.iload_n 3, 1) := by decide +kernel
theorem dJ5_append_c97b9_40 : decode cJ5_append_c97b9 40 = .ok (.aload_n 0, 1) := by decide +kernel
theorem dJ5_append_c97b9_41 : decode cJ5_append_c97b9 41 = .ok (.getfield 15, 3) := by decide +kernel
theorem dJ5_append_c97b9_44 : decode cJ5_append_c97b9 44 = .ok (.invokestatic 251, 3) := by decide +kernel
theorem dJ5_append_c97b9_47 : decode cJ5_append_c97b9 47 = .ok (.pop, 1) := by decide +kernel
theorem dJ5_append_c97b9_48 : decode cJ5_append_c97b9 48 = .ok (.aload_n 0, 1) := by decide +kernel
theorem dJ5_append_c97b9_49 : decode cJ5_append_c97b9 49 = .ok (.iload_n 3, 1) := by decide +kernel
theorem dJ5_append_c97b9_50 : decode cJ5_append_c97b9 50 = .ok (.putfield 79, 3) := by decide +kernel
theorem dJ5_append_c97b9_53 : decode cJ5_append_c97b9 53 = .ok (.aload_n 0, 1) := by decide +kernel
theorem dJ5_append_c97b9_54 : decode cJ5_append_c97b9 54 = .ok (.areturn, 1) := by decide +kernel
theorem dJ5_getValue_6d5f1_0 : decode cJ5_getValue_6d5f1 0 = .ok (.aload_n 0, 1) := by decide +kernel
theorem dJ5_getValue_6d5f1_1 : decode cJ5_getValue_6d5f1 1 = .ok (.getfield 15, 3) := by decide +kernel
theorem dJ5_getValue_6d5f1_4 : decode cJ5_getValue_6d5f1 4 = .ok (.areturn, 1) := by decide +kernel
theorem dJ5_isLatin1_aae02_0 : decode cJ5_isLatin1_aae02 0 = .ok (.getstatic 18, 3) := by decide +kernel
theorem dJ5_isLatin1_aae02_3 : decode cJ5_isLatin1_aae02 3 = .ok (.ifCond .eq 14, 3) := by decide +kernel
theorem dJ5_isLatin1_aae02_6 : decode cJ5_isLatin1_aae02 6 = .ok (.aload_n 0, 1) := by decide +kernel
theorem dJ5_isLatin1_aae02_7 : decode cJ5_isLatin1_aae02 7 = .ok (.getfield 22, 3) := by decide +kernel
theorem dJ5_isLatin1_aae02_10 : decode cJ5_isLatin1_aae02 10 = .ok (.ifCond .ne 7, 3) := by decide +kernel
theorem dJ5_isLatin1_aae02_13 : decode cJ5_isLatin1_aae02 13 = .ok (.iconst 1, 1) := by decide +kernel
theorem dJ5_isLatin1_aae02_14 : decode cJ5_isLatin1_aae02 14 = .ok (.goto 4, 3) := by decide +kernel
theorem dJ5_isLatin1_aae02_17 : decode cJ5_isLatin1_aae02 17 = .ok (.iconst 0, 1) := by decide +kernel
theorem dJ5_isLatin1_aae02_18 : decode cJ5_isLatin1_aae02 18 = .ok (.ireturn, 1) := by decide +kernel
theorem dJ5_inflateIfNeededFor_a7421_0 : decode cJ5_inflateIfNeededFor_a7421 0 = .ok (.getstatic 18, 3) := by decide +kernel
theorem dJ5_inflateIfNeededFor_a7421_3 : decode cJ5_inflateIfNeededFor_a7421 3 = .ok (.ifCond .eq 18, 3) := by decide +kernel
theorem dJ5_inflateIfNeededFor_a7421_6 : decode cJ5_inflateIfNeededFor_a7421 6 = .ok (.aload_n 0, 1) := by decide +kernel
theorem dJ5_inflateIfNeededFor_a7421_7 : decode cJ5_inflateIfNeededFor_a7421 7 = .ok (.getfield 22, 3) := by decide +kernel
theorem dJ5_inflateIfNeededFor_a7421_10 : decode cJ5_inflateIfNeededFor_a7421 10 = .ok (.aload_n 1, 1) := by decide +kernel
theorem dJ5_inflateIfNeededFor_a7421_11 : decode cJ5_inflateIfNeededFor_a7421 11 = .ok (.invokevirtual 40, 3) := by decide +kernel
theorem dJ5_inflateIfNeededFor_a7421_14 : decode cJ5_inflateIfNeededFor_a7421 14 = .ok (.if_icmp .eq 7, 3) := by decide +kernel
theorem dJ5_inflateIfNeededFor_a7421_17 : decode cJ5_inflateIfNeededFor_a7421 17 = .ok (.aload_n 0, 1) := by decide +kernel
theorem dJ5_inflateIfNeededFor_a7421_18 : decode cJ5_inflateIfNeededFor_a7421 18 = .ok (.invokevirtual 195, 3) := by decide +kernel
theorem dJ5_inflateIfNeededFor_a7421_21 : decode cJ5_inflateIfNeededFor_a7421 21 = .ok (.return_, 1) := by decide +kernel
theorem dJ5_putStringAt_47b60_0 : decode cJ5_putStringAt_47b60 0 = .ok (.aload_n 0, 1) := by decide +kernel
theorem dJ5_putStringAt_47b60_1 : decode cJ5_putStringAt_47b60 1 = .ok (.aload_n 2, 1) := by decide +kernel
theorem dJ5_putStringAt_47b60_2 : decode cJ5_putStringAt_47b60 2 = .ok (.invokevirtual 397, 3) := by decide +kernel
theorem dJ5_putStringAt_47b60_5 : decode cJ5_putStringAt_47b60 5 = .ok (.aload_n 2, 1) := by decide +kernel
theorem dJ5_putStringAt_47b60_6 : decode cJ5_putStringAt_47b60 6 = .ok (.aload_n 0, 1) := by decide +kernel
theorem dJ5_putStringAt_47b60_7 : decode cJ5_putStringAt_47b60 7 = .ok (.getfield 15, 3) := by decide +kernel
theorem dJ5_putStringAt_47b60_10 : decode cJ5_putStringAt_47b60 10 = .ok (.iload_n 1, 1) := by decide +kernel
theorem dJ5_putStringAt_47b60_11 : decode cJ5_putStringAt_47b60 11 = .ok (.aload_n 0, 1) := by decide +kernel
theorem dJ5_putStringAt_47b60_12 : decode cJ5_putStringAt_47b60 12 = .ok (.getfield 22, 3) := by decide +kernel
theorem dJ5_putStringAt_47b60_15 : decode cJ5_putStringAt_47b60 15 = .ok (.invokevirtual 399, 3) := by decide +kernel
theorem dJ5_putStringAt_47b60_18 : decode cJ5_putStringAt_47b60 18 = .ok (.return_, 1) := by decide +kernel
theorem dJx00060_init_a7421_0 : decode cJx00060_init_a7421 0 = .ok (.aload_n 0, 1) := by decide +kernel
theorem dJx00060_init_a7421_1 : decode cJx00060_init_a7421 1 = .ok (.aload_n 1, 1) := by decide +kernel
theorem dJx00060_init_a7421_2 : decode cJx00060_init_a7421 2 = .ok (.invokespecial 7, 3) := by decide +kernel
theorem dJx00060_init_a7421_5 : decode cJx00060_init_a7421 5 = .ok (.return_, 1) := by decide +kernel
theorem dJx00060_init_d00df_0 : decode cJx00060_init_d00df 0 = .ok (.aload_n 0, 1) := by decide +kernel
theorem dJx00060_init_d00df_1 : decode cJx00060_init_d00df 1 = .ok (.new 10, 3) := by decide +kernel
theorem dJx00060_init_d00df_4 : decode cJx00060_init_d00df 4 = .ok (.dup, 1) := by decide +kernel
theorem dJx00060_init_d00df_5 : decode cJx00060_init_d00df 5 = .ok (.invokespecial 12, 3) := by decide +kernel
theorem dJx00060_init_d00df_8 : decode cJx00060_init_d00df 8 = .ok (.ldc 13, 2) := by decide +kernel
theorem dJx00060_init_d00df_10 : decode cJx00060_init_d00df 10 = .ok (.invokevirtual 15, 3) := by decide +kernel
theorem dJx00060_init_d00df_13 : decode cJx00060_init_d00df 13 = .ok (.iload_n 1, 1) := by decide +kernel
theorem dJx00060_init_d00df_14 : decode cJx00060_init_d00df 14 = .ok (.invokevirtual 19, 3) := by decide +kernel
theorem dJx00060_init_d00df_17 : decode cJx00060_init_d00df 17 = .ok (.invokevirtual 22, 3) := by decide +kernel
theorem dJx00060_init_d00df_20 : decode cJx00060_init_d00df 20 = .ok (.invokespecial 7, 3) := by decide +kernel
theorem dJx00060_init_d00df_23 : decode cJx00060_init_d00df 23 = .ok (.return_, 1) := by decide +kernel
theorem dJ6_getChars_ba4f3_0 : decode cJ6_getChars_ba4f3 0 = .ok (.iload_n 1, 1) := by decide +kernel
theorem dJ6_getChars_ba4f3_1 : decode cJ6_getChars_ba4f3 1 = .ok (.istore 5, 2) := by decide +kernel
theorem dJ6_getChars_ba4f3_3 : decode cJ6_getChars_ba4f3 3 = .ok (.iload_n 0, 1) := by decide +kernel
theorem dJ6_getChars_ba4f3_4 : decode cJ6_getChars_ba4f3 4 = .ok (.ifCond .ge 7, 3) := by decide +kernel
theorem dJ6_getChars_ba4f3_7 : decode cJ6_getChars_ba4f3 7 = .ok (.iconst 1, 1) := by decide +kernel
theorem dJ6_getChars_ba4f3_8 : decode cJ6_getChars_ba4f3 8 = .ok (.goto 4, 3) := by decide +kernel
theorem dJ6_getChars_ba4f3_11 : decode cJ6_getChars_ba4f3 11 = .ok (.iconst 0, 1) := by decide +kernel
theorem dJ6_getChars_ba4f3_12 : decode cJ6_getChars_ba4f3 12 = .ok (.istore 6, 2) := by decide +kernel
theorem dJ6_getChars_ba4f3_14 : decode cJ6_getChars_ba4f3 14 = .ok (.iload 6, 2) := by decide +kernel
theorem dJ6_getChars_ba4f3_16 : decode cJ6_getChars_ba4f3 16 = .ok (.ifCond .ne 6, 3) := by decide +kernel
theorem dJ6_getChars_ba4f3_19 : decode cJ6_getChars_ba4f3 19 = .ok (.iload_n 0, 1) := by decide +kernel
theorem dJ6_getChars_ba4f3_20 : decode cJ6_getChars_ba4f3 20 = .ok (.ineg, 1) := by decide +kernel
theorem dJ6_getChars_ba4f3_21 : decode cJ6_getChars_ba4f3 21 = .ok (.istore_n 0, 1) := by decide +kernel
theorem dJ6_getChars_ba4f3_22 : decode cJ6_getChars_ba4f3 22 = .ok (.iload_n 0, 1) := by decide +kernel
theorem dJ6_getChars_ba4f3_23 : decode cJ6_getChars_ba4f3 23 = .ok (.bipush (-100), 2) := by decide +kernel
theorem dJ6_getChars_ba4f3_25 : decode cJ6_getChars_ba4f3 25 = .ok (.if_icmp .gt 47, 3) := by decide +kernel
theorem dJ6_getChars_ba4f3_28 : decode cJ6_getChars_ba4f3 28 = .ok (.iload_n 0, 1) := by decide +kernel
theorem dJ6_getChars_ba4f3_29 : decode cJ6_getChars_ba4f3 29 = .ok (.bipush 100, 2) := by decide +kernel
theorem dJ6_getChars_ba4f3_31 : decode cJ6_getChars_ba4f3 31 = .ok (.idiv, 1) := by decide +kernel
theorem dJ6_getChars_ba4f3_32 : decode cJ6_getChars_ba4f3 32 = .ok (.istore_n 3, 1) := by decide +kernel
theorem dJ6_getChars_ba4f3_33 : decode cJ6_getChars_ba4f3 33 = .ok (.iload_n 3, 1) := by decide +kernel
theorem dJ6_getChars_ba4f3_34 : decode cJ6_getChars_ba4f3 34 = .ok (.bipush 100, 2) := by decide +kernel
theorem dJ6_getChars_ba4f3_36 : decode cJ6_getChars_ba4f3 36 = .ok (.imul, 1) := by decide +kernel
theorem dJ6_getChars_ba4f3_37 : decode cJ6_getChars_ba4f3 37 = .ok (.iload_n 0, 1) := by decide +kernel
theorem dJ6_getChars_ba4f3_38 : decode cJ6_getChars_ba4f3 38 = .ok (.isub, 1) := by decide +kernel
theorem dJ6_getChars_ba4f3_39 : decode cJ6_getChars_ba4f3 39 = .ok (.istore 4, 2) := by decide +kernel
theorem dJ6_getChars_ba4f3_41 : decode cJ6_getChars_ba4f3 41 = .ok (.iload_n 3, 1) := by decide +kernel
theorem dJ6_getChars_ba4f3_42 : decode cJ6_getChars_ba4f3 42 = .ok (.istore_n 0, 1) := by decide +kernel
theorem dJ6_getChars_ba4f3_43 : decode cJ6_getChars_ba4f3 43 = .ok (.aload_n 2, 1) := by decide +kernel
theorem dJ6_getChars_ba4f3_44 : decode cJ6_getChars_ba4f3 44 = .ok (.iinc 5 (-1), 3) := by decide +kernel
theorem dJ6_getChars_ba4f3_47 : decode cJ6_getChars_ba4f3 47 = .ok (.iload 5, 2) := by decide +kernel
theorem dJ6_getChars_ba4f3_49 : decode cJ6_getChars_ba4f3 49 = .ok (.getstatic 83, 3) := by decide +kernel
theorem dJ6_getChars_ba4f3_52 : decode cJ6_getChars_ba4f3 52 = .ok (.iload 4, 2) := by decide +kernel
theorem dJ6_getChars_ba4f3_54 : decode cJ6_getChars_ba4f3 54 = .ok (.baload, 1) := by decide +kernel
theorem dJ6_getChars_ba4f3_55 : decode cJ6_getChars_ba4f3 55 = .ok (.bastore, 1) := by decide +kernel
theorem dJ6_getChars_ba4f3_56 : decode cJ6_getChars_ba4f3 56 = .ok (.aload_n 2, 1) := by decide +kernel
theorem dJ6_getChars_ba4f3_57 : decode cJ6_getChars_ba4f3 57 = .ok (.iinc 5 (-1), 3) := by decide +kernel
theorem dJ6_getChars_ba4f3_60 : decode cJ6_getChars_ba4f3 60 = .ok (.iload 5, 2) := by decide +kernel
theorem dJ6_getChars_ba4f3_62 : decode cJ6_getChars_ba4f3 62 = .ok (.getstatic 87, 3) := by decide +kernel
theorem dJ6_getChars_ba4f3_65 : decode cJ6_getChars_ba4f3 65 = .ok (.iload 4, 2) := by decide +kernel
theorem dJ6_getChars_ba4f3_67 : decode cJ6_getChars_ba4f3 67 = .ok (.baload, 1) := by decide +kernel
theorem dJ6_getChars_ba4f3_68 : decode cJ6_getChars_ba4f3 68 = .ok (.bastore, 1) := by decide +kernel
theorem dJ6_getChars_ba4f3_69 : decode cJ6_getChars_ba4f3 69 = .ok (.goto (-47), 3) := by decide +kernel
theorem dJ6_getChars_ba4f3_72 : decode cJ6_getChars_ba4f3 72 = .ok (.aload_n 2, 1) := by decide +kernel
theorem dJ6_getChars_ba4f3_73 : decode cJ6_getChars_ba4f3 73 = .ok (.iinc 5 (-1), 3) := by decide +kernel
theorem dJ6_getChars_ba4f3_76 : decode cJ6_getChars_ba4f3 76 = .ok (.iload 5, 2) := by decide +kernel
theorem dJ6_getChars_ba4f3_78 : decode cJ6_getChars_ba4f3 78 = .ok (.getstatic 83, 3) := by decide +kernel
theorem dJ6_getChars_ba4f3_81 : decode cJ6_getChars_ba4f3 81 = .ok (.iload_n 0, 1) := by decide +kernel
theorem dJ6_getChars_ba4f3_82 : decode cJ6_getChars_ba4f3 82 = .ok (.ineg, 1) := by decide +kernel
theorem dJ6_getChars_ba4f3_83 : decode cJ6_getChars_ba4f3 83 = .ok (.baload, 1) := by decide +kernel
theorem dJ6_getChars_ba4f3_84 : decode cJ6_getChars_ba4f3 84 = .ok (.bastore, 1) := by decide +kernel
theorem dJ6_getChars_ba4f3_85 : decode cJ6_getChars_ba4f3 85 = .ok (.iload_n 0, 1) := by decide +kernel
theorem dJ6_getChars_ba4f3_86 : decode cJ6_getChars_ba4f3 86 = .ok (.bipush (-9), 2) := by decide +kernel
theorem dJ6_getChars_ba4f3_88 : decode cJ6_getChars_ba4f3 88 = .ok (.if_icmp .ge 16, 3) := by decide +kernel
theorem dJ6_getChars_ba4f3_91 : decode cJ6_getChars_ba4f3 91 = .ok (.aload_n 2, 1) := by decide +kernel
theorem dJ6_getChars_ba4f3_92 : decode cJ6_getChars_ba4f3 92 = .ok (.iinc 5 (-1), 3) := by decide +kernel
theorem dJ6_getChars_ba4f3_95 : decode cJ6_getChars_ba4f3 95 = .ok (.iload 5, 2) := by decide +kernel
theorem dJ6_getChars_ba4f3_97 : decode cJ6_getChars_ba4f3 97 = .ok (.getstatic 87, 3) := by decide +kernel
theorem dJ6_getChars_ba4f3_100 : decode cJ6_getChars_ba4f3 100 = .ok (.iload_n 0, 1) := by decide +kernel
theorem dJ6_getChars_ba4f3_101 : decode cJ6_getChars_ba4f3 101 = .ok (.ineg, 1) := by decide +kernel
theorem dJ6_getChars_ba4f3_102 : decode cJ6_getChars_ba4f3 102 = .ok (.baload, 1) := by decide +kernel
theorem dJ6_getChars_ba4f3_103 : decode cJ6_getChars_ba4f3 103 = .ok (.bastore, 1) := by decide +kernel
theorem dJ6_getChars_ba4f3_104 : decode cJ6_getChars_ba4f3 104 = .ok (.iload 6, 2) := by decide +kernel
theorem dJ6_getChars_ba4f3_106 : decode cJ6_getChars_ba4f3 106 = .ok (.ifCond .eq 12, 3) := by decide +kernel
theorem dJ6_getChars_ba4f3_109 : decode cJ6_getChars_ba4f3 109 = .ok (.aload_n 2, 1) := by decide +kernel
theorem dJ6_getChars_ba4f3_110 : decode cJ6_getChars_ba4f3 110 = .ok (.iinc 5 (-1), 3) := by decide +kernel
theorem dJ6_getChars_ba4f3_113 : decode cJ6_getChars_ba4f3 113 = .ok (.iload 5, 2) := by decide +kernel
theorem dJ6_getChars_ba4f3_115 : decode cJ6_getChars_ba4f3 115 = .ok (.bipush 45, 2) := by decide +kernel
theorem dJ6_getChars_ba4f3_117 : decode cJ6_getChars_ba4f3 117 = .ok (.bastore, 1) := by decide +kernel
theorem dJ6_getChars_ba4f3_118 : decode cJ6_getChars_ba4f3 118 = .ok (.iload 5, 2) := by decide +kernel
theorem dJ6_getChars_ba4f3_120 : decode cJ6_getChars_ba4f3 120 = .ok (.ireturn, 1) := by decide +kernel
theorem dJ6_stringSize_0f7a4_0 : decode cJ6_stringSize_0f7a4 0 = .ok (.iconst 1, 1) := by decide +kernel
theorem dJ6_stringSize_0f7a4_1 : decode cJ6_stringSize_0f7a4 1 = .ok (.istore_n 1, 1) := by decide +kernel
theorem dJ6_stringSize_0f7a4_2 : decode cJ6_stringSize_0f7a4 2 = .ok (.iload_n 0, 1) := by decide +kernel
theorem dJ6_stringSize_0f7a4_3 : decode cJ6_stringSize_0f7a4 3 = .ok (.ifCond .lt 8, 3) := by decide +kernel
theorem dJ6_stringSize_0f7a4_6 : decode cJ6_stringSize_0f7a4 6 = .ok (.iconst 0, 1) := by decide +kernel
theorem dJ6_stringSize_0f7a4_7 : decode cJ6_stringSize_0f7a4 7 = .ok (.istore_n 1, 1) := by decide +kernel
theorem dJ6_stringSize_0f7a4_8 : decode cJ6_stringSize_0f7a4 8 = .ok (.iload_n 0, 1) := by decide +kernel
theorem dJ6_stringSize_0f7a4_9 : decode cJ6_stringSize_0f7a4 9 = .ok (.ineg, 1) := by decide +kernel
theorem dJ6_stringSize_0f7a4_10 : decode cJ6_stringSize_0f7a4 10 = .ok (.istore_n 0, 1) := by decide +kernel
theorem dJ6_stringSize_0f7a4_11 : decode cJ6_stringSize_0f7a4 11 = .ok (.bipush (-10), 2) := by decide +kernel
theorem dJ6_stringSize_0f7a4_13 : decode cJ6_stringSize_0f7a4 13 = .ok (.istore_n 2, 1) := by decide +kernel
theorem dJ6_stringSize_0f7a4_14 : decode cJ6_stringSize_0f7a4 14 = .ok (.iconst 1, 1) := by decide +kernel
theorem dJ6_stringSize_0f7a4_15 : decode cJ6_stringSize_0f7a4 15 = .ok (.istore_n 3, 1) := by decide +kernel
theorem dJ6_stringSize_0f7a4_16 : decode cJ6_stringSize_0f7a4 16 = .ok (.iload_n 3, 1) := by decide +kernel
theorem dJ6_stringSize_0f7a4_17 : decode cJ6_stringSize_0f7a4 17 = .ok (.bipush 10, 2) := by decide +kernel
theorem dJ6_stringSize_0f7a4_19 : decode cJ6_stringSize_0f7a4 19 = .ok (.if_icmp .ge 23, 3) := by decide +kernel
theorem dJ6_stringSize_0f7a4_22 : decode cJ6_stringSize_0f7a4 22 = .ok (.iload_n 0, 1) := by decide +kernel
theorem dJ6_stringSize_0f7a4_23 : decode cJ6_stringSize_0f7a4 23 = .ok (.iload_n 2, 1) := by decide +kernel
theorem dJ6_stringSize_0f7a4_24 : decode cJ6_stringSize_0f7a4 24 = .ok (.if_icmp .le 7, 3) := by decide +kernel
theorem dJ6_stringSize_0f7a4_27 : decode cJ6_stringSize_0f7a4 27 = .ok (.iload_n 3, 1) := by decide +kernel
theorem dJ6_stringSize_0f7a4_28 : decode cJ6_stringSize_0f7a4 28 = .ok (.iload_n 1, 1) := by decide +kernel
theorem dJ6_stringSize_0f7a4_29 : decode cJ6_stringSize_0f7a4 29 = .ok (.iadd, 1) := by decide +kernel
theorem dJ6_stringSize_0f7a4_30 : decode cJ6_stringSize_0f7a4 30 = .ok (.ireturn, 1) := by decide +kernel
theorem dJ6_stringSize_0f7a4_31 : decode cJ6_stringSize_0f7a4 31 = .ok (.bipush 10, 2) := by decide +kernel
theorem dJ6_stringSize_0f7a4_33 : decode cJ6_stringSize_0f7a4 33 = .ok (.iload_n 2, 1) := by decide +kernel
theorem dJ6_stringSize_0f7a4_34 : decode cJ6_stringSize_0f7a4 34 = .ok (.imul, 1) := by decide +kernel
theorem dJ6_stringSize_0f7a4_35 : decode cJ6_stringSize_0f7a4 35 = .ok (.istore_n 2, 1) := by decide +kernel
theorem dJ6_stringSize_0f7a4_36 : decode cJ6_stringSize_0f7a4 36 = .ok (.iinc 3 1, 3) := by decide +kernel
theorem dJ6_stringSize_0f7a4_39 : decode cJ6_stringSize_0f7a4 39 = .ok (.goto (-23), 3) := by decide +kernel
theorem dJ6_stringSize_0f7a4_42 : decode cJ6_stringSize_0f7a4 42 = .ok (.bipush 10, 2) := by decide +kernel
theorem dJ6_stringSize_0f7a4_44 : decode cJ6_stringSize_0f7a4 44 = .ok (.iload_n 1, 1) := by decide +kernel
theorem dJ6_stringSize_0f7a4_45 : decode cJ6_stringSize_0f7a4 45 = .ok (.iadd, 1) := by decide +kernel
theorem dJ6_stringSize_0f7a4_46 : decode cJ6_stringSize_0f7a4 46 = .ok (.ireturn, 1) := by decide +kernel
theorem dJ6_bitCount_0f7a4_0 : decode cJ6_bitCount_0f7a4 0 = .ok (.iload_n 0, 1) := by decide +kernel
theorem dJ6_bitCount_0f7a4_1 : decode cJ6_bitCount_0f7a4 1 = .ok (.iload_n 0, 1) := by decide +kernel
theorem dJ6_bitCount_0f7a4_2 : decode cJ6_bitCount_0f7a4 2 = .ok (.iconst 1, 1) := by decide +kernel
theorem dJ6_bitCount_0f7a4_3 : decode cJ6_bitCount_0f7a4 3 = .ok (.iushr, 1) := by decide +kernel
theorem dJ6_bitCount_0f7a4_4 : decode cJ6_bitCount_0f7a4 4 = .ok (.ldc_w 265, 3) := by decide +kernel
theorem dJ6_bitCount_0f7a4_7 : decode cJ6_bitCount_0f7a4 7 = .ok (.iand, 1) := by decide +kernel
theorem dJ6_bitCount_0f7a4_8 : decode cJ6_bitCount_0f7a4 8 = .ok (.isub, 1) := by decide +kernel
theorem dJ6_bitCount_0f7a4_9 : decode cJ6_bitCount_0f7a4 9 = .ok (.istore_n 0, 1) := by decide +kernel
theorem dJ6_bitCount_0f7a4_10 : decode cJ6_bitCount_0f7a4 10 = .ok (.iload_n 0, 1) := by decide +kernel
theorem dJ6_bitCount_0f7a4_11 : decode cJ6_bitCount_0f7a4 11 = .ok (.ldc_w 266, 3) := by decide +kernel
theorem dJ6_bitCount_0f7a4_14 : decode cJ6_bitCount_0f7a4 14 = .ok (.iand, 1) := by decide +kernel
theorem dJ6_bitCount_0f7a4_15 : decode cJ6_bitCount_0f7a4 15 = .ok (.iload_n 0, 1) := by decide +kernel
theorem dJ6_bitCount_0f7a4_16 : decode cJ6_bitCount_0f7a4 16 = .ok (.iconst 2, 1) := by decide +kernel
theorem dJ6_bitCount_0f7a4_17 : decode cJ6_bitCount_0f7a4 17 = .ok (.iushr, 1) := by decide +kernel
theorem dJ6_bitCount_0f7a4_18 : decode cJ6_bitCount_0f7a4 18 = .ok (.ldc_w 266, 3) := by decide +kernel
theorem dJ6_bitCount_0f7a4_21 : decode cJ6_bitCount_0f7a4 21 = .ok (.iand, 1) := by decide +kernel
theorem dJ6_bitCount_0f7a4_22 : decode cJ6_bitCount_0f7a4 22 = .ok (.iadd, 1) := by decide +kernel
theorem dJ6_bitCount_0f7a4_23 : decode cJ6_bitCount_0f7a4 23 = .ok (.istore_n 0, 1) := by decide +kernel
theorem dJ6_bitCount_0f7a4_24 : decode cJ6_bitCount_0f7a4 24 = .ok (.iload_n 0, 1) := by decide +kernel
theorem dJ6_bitCount_0f7a4_25 : decode cJ6_bitCount_0f7a4 25 = .ok (.iload_n 0, 1) := by decide +kernel
theorem dJ6_bitCount_0f7a4_26 : decode cJ6_bitCount_0f7a4 26 = .ok (.iconst 4, 1) := by decide +kernel
theorem dJ6_bitCount_0f7a4_27 : decode cJ6_bitCount_0f7a4 27 = .ok (.iushr, 1) := by decide +kernel
theorem dJ6_bitCount_0f7a4_28 : decode cJ6_bitCount_0f7a4 28 = .ok (.iadd, 1) := by decide +kernel
theorem dJ6_bitCount_0f7a4_29 : decode cJ6_bitCount_0f7a4 29 = .ok (.ldc_w 267, 3) := by decide +kernel
theorem dJ6_bitCount_0f7a4_32 : decode cJ6_bitCount_0f7a4 32 = .ok (.iand, 1) := by decide +kernel
theorem dJ6_bitCount_0f7a4_33 : decode cJ6_bitCount_0f7a4 33 = .ok (.istore_n 0, 1) := by decide +kernel
theorem dJ6_bitCount_0f7a4_34 : decode cJ6_bitCount_0f7a4 34 = .ok (.iload_n 0, 1) := by decide +kernel
theorem dJ6_bitCount_0f7a4_35 : decode cJ6_bitCount_0f7a4 35 = .ok (.iload_n 0, 1) := by decide +kernel
theorem dJ6_bitCount_0f7a4_36 : decode cJ6_bitCount_0f7a4 36 = .ok (.bipush 8, 2) := by decide +kernel
theorem dJ6_bitCount_0f7a4_38 : decode cJ6_bitCount_0f7a4 38 = .ok (.iushr, 1) := by decide +kernel
theorem dJ6_bitCount_0f7a4_39 : decode cJ6_bitCount_0f7a4 39 = .ok (.iadd, 1) := by decide +kernel
theorem dJ6_bitCount_0f7a4_40 : decode cJ6_bitCount_0f7a4 40 = .ok (.istore_n 0, 1) := by decide +kernel
theorem dJ6_bitCount_0f7a4_41 : decode cJ6_bitCount_0f7a4 41 = .ok (.iload_n 0, 1) := by decide +kernel
theorem dJ6_bitCount_0f7a4_42 : decode cJ6_bitCount_0f7a4 42 = .ok (.iload_n 0, 1) := by decide +kernel
theorem dJ6_bitCount_0f7a4_43 : decode cJ6_bitCount_0f7a4 43 = .ok (.bipush 16, 2) := by decide +kernel
theorem dJ6_bitCount_0f7a4_45 : decode cJ6_bitCount_0f7a4 45 = .ok (.iushr, 1) := by decide +kernel
theorem dJ6_bitCount_0f7a4_46 : decode cJ6_bitCount_0f7a4 46 = .ok (.iadd, 1) := by decide +kernel
theorem dJ6_bitCount_0f7a4_47 : decode cJ6_bitCount_0f7a4 47 = .ok (.istore_n 0, 1) := by decide +kernel
theorem dJ6_bitCount_0f7a4_48 : decode cJ6_bitCount_0f7a4 48 = .ok (.iload_n 0, 1) := by decide +kernel
theorem dJ6_bitCount_0f7a4_49 : decode cJ6_bitCount_0f7a4 49 = .ok (.bipush 63, 2) := by decide +kernel
theorem dJ6_bitCount_0f7a4_51 : decode cJ6_bitCount_0f7a4 51 = .ok (.iand, 1) := by decide +kernel
theorem dJ6_bitCount_0f7a4_52 : decode cJ6_bitCount_0f7a4 52 = .ok (.ireturn, 1) := by decide +kernel
theorem dJ9_abs_0f7a4_0 : decode cJ9_abs_0f7a4 0 = .ok (.iload_n 0, 1) := by decide +kernel
theorem dJ9_abs_0f7a4_1 : decode cJ9_abs_0f7a4 1 = .ok (.ifCond .ge 8, 3) := by decide +kernel
theorem dJ9_abs_0f7a4_4 : decode cJ9_abs_0f7a4 4 = .ok (.iload_n 0, 1) := by decide +kernel
theorem dJ9_abs_0f7a4_5 : decode cJ9_abs_0f7a4 5 = .ok (.ineg, 1) := by decide +kernel
theorem dJ9_abs_0f7a4_6 : decode cJ9_abs_0f7a4 6 = .ok (.goto 4, 3) := by decide +kernel
theorem dJ9_abs_0f7a4_9 : decode cJ9_abs_0f7a4 9 = .ok (.iload_n 0, 1) := by decide +kernel
theorem dJ9_abs_0f7a4_10 : decode cJ9_abs_0f7a4 10 = .ok (.ireturn, 1) := by decide +kernel
theorem dJ9_max_7cf53_0 : decode cJ9_max_7cf53 0 = .ok (.iload_n 0, 1) := by decide +kernel
theorem dJ9_max_7cf53_1 : decode cJ9_max_7cf53 1 = .ok (.iload_n 1, 1) := by decide +kernel
theorem dJ9_max_7cf53_2 : decode cJ9_max_7cf53 2 = .ok (.if_icmp .lt 7, 3) := by decide +kernel
theorem dJ9_max_7cf53_5 : decode cJ9_max_7cf53 5 = .ok (.iload_n 0, 1) := by decide +kernel
theorem dJ9_max_7cf53_6 : decode cJ9_max_7cf53 6 = .ok (.goto 4, 3) := by decide +kernel
theorem dJ9_max_7cf53_9 : decode cJ9_max_7cf53 9 = .ok (.iload_n 1, 1) := by decide +kernel
theorem dJ9_max_7cf53_10 : decode cJ9_max_7cf53 10 = .ok (.ireturn, 1) := by decide +kernel
theorem dJ9_min_7cf53_0 : decode cJ9_min_7cf53 0 = .ok (.iload_n 0, 1) := by decide +kernel
theorem dJ9_min_7cf53_1 : decode cJ9_min_7cf53 1 = .ok (.iload_n 1, 1) := by decide +kernel
theorem dJ9_min_7cf53_2 : decode cJ9_min_7cf53 2 = .ok (.if_icmp .gt 7, 3) := by decide +kernel
theorem dJ9_min_7cf53_5 : decode cJ9_min_7cf53 5 = .ok (.iload_n 0, 1) := by decide +kernel
theorem dJ9_min_7cf53_6 : decode cJ9_min_7cf53 6 = .ok (.goto 4, 3) := by decide +kernel
theorem dJ9_min_7cf53_9 : decode cJ9_min_7cf53 9 = .ok (.iload_n 1, 1) := by decide +kernel
theorem dJ9_min_7cf53_10 : decode cJ9_min_7cf53 10 = .ok (.ireturn, 1) := by decide +kernel
theorem dJ0_init_81219_0 : decode cJ0_init_81219 0 = .ok (.aload_n 0, 1) := by decide +kernel
theorem dJ0_init_81219_1 : decode cJ0_init_81219 1 = .ok (.aload_n 1, 1) := by decide +kernel
theorem dJ0_init_81219_2 : decode cJ0_init_81219 2 = .ok (.aconst_null, 1) := by decide +kernel
theorem dJ0_init_81219_3 : decode cJ0_init_81219 3 = .ok (.invokespecial 489, 3) := by decide +kernel
theorem dJ0_init_81219_6 : decode cJ0_init_81219 6 = .ok (.return_, 1) := by decide +kernel
theorem dJ0_length_8abf5_0 : decode cJ0_length_8abf5 0 = .ok (.aload_n 0, 1) := by decide +kernel
theorem dJ0_length_8abf5_1 : decode cJ0_length_8abf5 1 = .ok (.getfield 9, 3) := by decide +kernel
theorem dJ0_length_8abf5_4 : decode cJ0_length_8abf5 4 = .ok (.arraylength, 1) := by decide +kernel
theorem dJ0_length_8abf5_5 : decode cJ0_length_8abf5 5 = .ok (.aload_n 0, 1) := by decide +kernel
theorem dJ0_length_8abf5_6 : decode cJ0_length_8abf5 6 = .ok (.invokevirtual 335, 3) := by decide +kernel
theorem dJ0_length_8abf5_9 : decode cJ0_length_8abf5 9 = .ok (.ishr, 1) := by decide +kernel
theorem dJ0_length_8abf5_10 : decode cJ0_length_8abf5 10 = .ok (.ireturn, 1) := by decide +kernel
theorem dJ0_charAt_5068e_0 : decode cJ0_charAt_5068e 0 = .ok (.aload_n 0, 1) := by decide +kernel
theorem dJ0_charAt_5068e_1 : decode cJ0_charAt_5068e 1 = .ok (.invokevirtual 492, 3) := by decide +kernel
theorem dJ0_charAt_5068e_4 : decode cJ0_charAt_5068e 4 = .ok (.ifCond .eq 12, 3) := by decide +kernel
theorem dJ0_charAt_5068e_7 : decode cJ0_charAt_5068e 7 = .ok (.aload_n 0, 1) := by decide +kernel
theorem dJ0_charAt_5068e_8 : decode cJ0_charAt_5068e 8 = .ok (.getfield 9, 3) := by decide +kernel
theorem dJ0_charAt_5068e_11 : decode cJ0_charAt_5068e 11 = .ok (.iload_n 1, 1) := by decide +kernel
theorem dJ0_charAt_5068e_12 : decode cJ0_charAt_5068e 12 = .ok (.invokestatic 495, 3) := by decide +kernel
theorem dJ0_charAt_5068e_15 : decode cJ0_charAt_5068e 15 = .ok (.ireturn, 1) := by decide +kernel
theorem dJ0_charAt_5068e_16 : decode cJ0_charAt_5068e 16 = .ok (.aload_n 0, 1) := by decide +kernel
theorem dJ0_charAt_5068e_17 : decode cJ0_charAt_5068e 17 = .ok (.getfield 9, 3) := by decide +kernel
theorem dJ0_charAt_5068e_20 : decode cJ0_charAt_5068e 20 = .ok (.iload_n 1, 1) := by decide +kernel
theorem dJ0_charAt_5068e_21 : decode cJ0_charAt_5068e 21 = .ok (.invokestatic 498, 3) := by decide +kernel
theorem dJ0_charAt_5068e_24 : decode cJ0_charAt_5068e 24 = .ok (.ireturn, 1) := by decide +kernel
theorem dJ0_getBytes_840e7_0 : decode cJ0_getBytes_840e7 0 = .ok (.aload_n 0, 1) := by decide +kernel
theorem dJ0_getBytes_840e7_1 : decode cJ0_getBytes_840e7 1 = .ok (.invokevirtual 335, 3) := by decide +kernel
theorem dJ0_getBytes_840e7_4 : decode cJ0_getBytes_840e7 4 = .ok (.iload_n 3, 1) := by decide +kernel
theorem dJ0_getBytes_840e7_5 : decode cJ0_getBytes_840e7 5 = .ok (.if_icmp .ne 23, 3) := by decide +kernel
theorem dJ0_getBytes_840e7_8 : decode cJ0_getBytes_840e7 8 = .ok (.aload_n 0, 1) := by decide +kernel
theorem dJ0_getBytes_840e7_9 : decode cJ0_getBytes_840e7 9 = .ok (.getfield 9, 3) := by decide +kernel
theorem dJ0_getBytes_840e7_12 : decode cJ0_getBytes_840e7 12 = .ok (.iconst 0, 1) := by decide +kernel
theorem dJ0_getBytes_840e7_13 : decode cJ0_getBytes_840e7 13 = .ok (.aload_n 1, 1) := by decide +kernel
theorem dJ0_getBytes_840e7_14 : decode cJ0_getBytes_840e7 14 = .ok (.iload_n 2, 1) := by decide +kernel
theorem dJ0_getBytes_840e7_15 : decode cJ0_getBytes_840e7 15 = .ok (.iload_n 3, 1) := by decide +kernel
theorem dJ0_getBytes_840e7_16 : decode cJ0_getBytes_840e7 16 = .ok (.ishl, 1) := by decide +kernel
theorem dJ0_getBytes_840e7_17 : decode cJ0_getBytes_840e7 17 = .ok (.aload_n 0, 1) := by decide +kernel
theorem dJ0_getBytes_840e7_18 : decode cJ0_getBytes_840e7 18 = .ok (.getfield 9, 3) := by decide +kernel
theorem dJ0_getBytes_840e7_21 : decode cJ0_getBytes_840e7 21 = .ok (.arraylength, 1) := by decide +kernel
theorem dJ0_getBytes_840e7_22 : decode cJ0_getBytes_840e7 22 = .ok (.invokestatic 212, 3) := by decide +kernel
theorem dJ0_getBytes_840e7_25 : decode cJ0_getBytes_840e7 25 = .ok (.goto 18, 3) := by decide +kernel
theorem dJ0_getBytes_840e7_28 : decode cJ0_getBytes_840e7 28 = .ok (.aload_n 0, 1) := by decide +kernel
theorem dJ0_getBytes_840e7_29 : decode cJ0_getBytes_840e7 29 = .ok (.getfield 9, 3) := by decide +kernel
theorem dJ0_getBytes_840e7_32 : decode cJ0_getBytes_840e7 32 = .ok (.iconst 0, 1) := by decide +kernel
theorem dJ0_getBytes_840e7_33 : decode cJ0_getBytes_840e7 33 = .ok (.aload_n 1, 1) := by decide +kernel
theorem dJ0_getBytes_840e7_34 : decode cJ0_getBytes_840e7 34 = .ok (.iload_n 2, 1) := by decide +kernel
theorem dJ0_getBytes_840e7_35 : decode cJ0_getBytes_840e7 35 = .ok (.aload_n 0, 1) := by decide +kernel
theorem dJ0_getBytes_840e7_36 : decode cJ0_getBytes_840e7 36 = .ok (.getfield 9, 3) := by decide +kernel
theorem dJ0_getBytes_840e7_39 : decode cJ0_getBytes_840e7 39 = .ok (.arraylength, 1) := by decide +kernel
theorem dJ0_getBytes_840e7_40 : decode cJ0_getBytes_840e7 40 = .ok (.invokestatic 106, 3) := by decide +kernel
theorem dJ0_getBytes_840e7_43 : decode cJ0_getBytes_840e7 43 = .ok (.return_, 1) := by decide +kernel
theorem dJ0_init_db425_0 : decode cJ0_init_db425 0 = .ok (.aload_n 0, 1) := by decide +kernel
theorem dJ0_init_db425_1 : decode cJ0_init_db425 1 = .ok (.invokespecial 1, 3) := by decide +kernel
theorem dJ0_init_db425_4 : decode cJ0_init_db425 4 = .ok (.aload_n 1, 1) := by decide +kernel
theorem dJ0_init_db425_5 : decode cJ0_init_db425 5 = .ok (.invokevirtual 552, 3) := by decide +kernel
theorem dJ0_init_db425_8 : decode cJ0_init_db425 8 = .ok (.astore_n 3, 1) := by decide +kernel
theorem dJ0_init_db425_9 : decode cJ0_init_db425 9 = .ok (.aload_n 1, 1) := by decide +kernel
theorem dJ0_init_db425_10 : decode cJ0_init_db425 10 = .ok (.invokevirtual 549, 3) := by decide +kernel
theorem dJ0_init_db425_13 : decode cJ0_init_db425 13 = .ok (.istore 4, 2) := by decide +kernel
theorem dJ0_init_db425_15 : decode cJ0_init_db425 15 = .ok (.aload_n 1, 1) := by decide +kernel
theorem dJ0_init_db425_16 : decode cJ0_init_db425 16 = .ok (.invokevirtual 1047, 3) := by decide +kernel
theorem dJ0_init_db425_19 : decode cJ0_init_db425 19 = .ok (.ifCond .eq 22, 3) := by decide +kernel
theorem dJ0_init_db425_22 : decode cJ0_init_db425 22 = .ok (.aload_n 0, 1) := by decide +kernel
theorem dJ0_init_db425_23 : decode cJ0_init_db425 23 = .ok (.iconst 0, 1) := by decide +kernel
theorem dJ0_init_db425_24 : decode cJ0_init_db425 24 = .ok (.putfield 15, 3) := by decide +kernel
theorem dJ0_init_db425_27 : decode cJ0_init_db425 27 = .ok (.aload_n 0, 1) := by decide +kernel
theorem dJ0_init_db425_28 : decode cJ0_init_db425 28 = .ok (.aload_n 3, 1) := by decide +kernel
theorem dJ0_init_db425_29 : decode cJ0_init_db425 29 = .ok (.iconst 0, 1) := by decide +kernel
theorem dJ0_init_db425_30 : decode cJ0_init_db425 30 = .ok (.iload 4, 2) := by decide +kernel
theorem dJ0_init_db425_32 : decode cJ0_init_db425 32 = .ok (.invokestatic 54, 3) := by decide +kernel
theorem dJ0_init_db425_35 : decode cJ0_init_db425 35 = .ok (.putfield 9, 3) := by decide +kernel
theorem dJ0_init_db425_38 : decode cJ0_init_db425 38 = .ok (.goto 59, 3) := by decide +kernel
theorem dJ0_init_db425_41 : decode cJ0_init_db425 41 = .ok (.getstatic 38, 3) := by decide +kernel
theorem dJ0_init_db425_44 : decode cJ0_init_db425 44 = .ok (.ifCond .eq 35, 3) := by decide +kernel
theorem dJ0_init_db425_47 : decode cJ0_init_db425 47 = .ok (.aload_n 1, 1) := by decide +kernel
theorem dJ0_init_db425_48 : decode cJ0_init_db425 48 = .ok (.getfield 1048, 3) := by decide +kernel
theorem dJ0_init_db425_51 : decode cJ0_init_db425 51 = .ok (.ifCond .eq 28, 3) := by decide +kernel
theorem dJ0_init_db425_54 : decode cJ0_init_db425 54 = .ok (.aload_n 0, 1) := by decide +kernel
theorem dJ0_init_db425_55 : decode cJ0_init_db425 55 = .ok (.aload_n 3, 1) := by decide +kernel
theorem dJ0_init_db425_56 : decode cJ0_init_db425 56 = .ok (.iconst 0, 1) := by decide +kernel
theorem dJ0_init_db425_57 : decode cJ0_init_db425 57 = .ok (.iload 4, 2) := by decide +kernel
theorem dJ0_init_db425_59 : decode cJ0_init_db425 59 = .ok (.invokestatic 1051, 3) := by decide +kernel
theorem dJ0_init_db425_62 : decode cJ0_init_db425 62 = .ok (.putfield 9, 3) := by decide +kernel
theorem dJ0_init_db425_65 : decode cJ0_init_db425 65 = .ok (.aload_n 0, 1) := by decide +kernel
theorem dJ0_init_db425_66 : decode cJ0_init_db425 66 = .ok (.aload_n 0, 1) := by decide +kernel
theorem dJ0_init_db425_67 : decode cJ0_init_db425 67 = .ok (.getfield 9, 3) := by decide +kernel
theorem dJ0_init_db425_70 : decode cJ0_init_db425 70 = .ok (.iload 4, 2) := by decide +kernel
theorem dJ0_init_db425_72 : decode cJ0_init_db425 72 = .ok (.invokestatic 47, 3) := by decide +kernel
theorem dJ0_init_db425_75 : decode cJ0_init_db425 75 = .ok (.putfield 15, 3) := by decide +kernel
theorem dJ0_init_db425_78 : decode cJ0_init_db425 78 = .ok (.return_, 1) := by decide +kernel
theorem dJ0_init_db425_79 : decode cJ0_init_db425 79 = .ok (.aload_n 0, 1) := by decide +kernel
theorem dJ0_init_db425_80 : decode cJ0_init_db425 80 = .ok (.iconst 1, 1) := by decide +kernel
theorem dJ0_init_db425_81 : decode cJ0_init_db425 81 = .ok (.putfield 15, 3) := by decide +kernel
theorem dJ0_init_db425_84 : decode cJ0_init_db425 84 = .ok (.aload_n 0, 1) := by decide +kernel
theorem dJ0_init_db425_85 : decode cJ0_init_db425 85 = .ok (.aload_n 3, 1) := by decide +kernel
theorem dJ0_init_db425_86 : decode cJ0_init_db425 86 = .ok (.iconst 0, 1) := by decide +kernel
theorem dJ0_init_db425_87 : decode cJ0_init_db425 87 = .ok (.iload 4, 2) := by decide +kernel
theorem dJ0_init_db425_89 : decode cJ0_init_db425 89 = .ok (.iconst 1, 1) := by decide +kernel
theorem dJ0_init_db425_90 : decode cJ0_init_db425 90 = .ok (.ishl, 1) := by decide +kernel
theorem dJ0_init_db425_91 : decode cJ0_init_db425 91 = .ok (.invokestatic 54, 3) := by decide +kernel
theorem dJ0_init_db425_94 : decode cJ0_init_db425 94 = .ok (.putfield 9, 3) := by decide +kernel
theorem dJ0_init_db425_97 : decode cJ0_init_db425 97 = .ok (.return_, 1) := by decide +kernel
theorem dJ0_coder_7d493_0 : decode cJ0_coder_7d493 0 = .ok (.getstatic 38, 3) := by decide +kernel
theorem dJ0_coder_7d493_3 : decode cJ0_coder_7d493 3 = .ok (.ifCond .eq 10, 3) := by decide +kernel
theorem dJ0_coder_7d493_6 : decode cJ0_coder_7d493 6 = .ok (.aload_n 0, 1) := by decide +kernel
theorem dJ0_coder_7d493_7 : decode cJ0_coder_7d493 7 = .ok (.getfield 15, 3) := by decide +kernel
theorem dJ0_coder_7d493_10 : decode cJ0_coder_7d493 10 = .ok (.goto 4, 3) := by decide +kernel
theorem dJ0_coder_7d493_13 : decode cJ0_coder_7d493 13 = .ok (.iconst 1, 1) := by decide +kernel
theorem dJ0_coder_7d493_14 : decode cJ0_coder_7d493 14 = .ok (.ireturn, 1) := by decide +kernel
theorem dJ0_isLatin1_aae02_0 : decode cJ0_isLatin1_aae02 0 = .ok (.getstatic 38, 3) := by decide +kernel
theorem dJ0_isLatin1_aae02_3 : decode cJ0_isLatin1_aae02 3 = .ok (.ifCond .eq 14, 3) := by decide +kernel
theorem dJ0_isLatin1_aae02_6 : decode cJ0_isLatin1_aae02 6 = .ok (.aload_n 0, 1) := by decide +kernel
theorem dJ0_isLatin1_aae02_7 : decode cJ0_isLatin1_aae02 7 = .ok (.getfield 15, 3) := by decide +kernel
theorem dJ0_isLatin1_aae02_10 : decode cJ0_isLatin1_aae02 10 = .ok (.ifCond .ne 7, 3) := by decide +kernel
theorem dJ0_isLatin1_aae02_13 : decode cJ0_isLatin1_aae02 13 = .ok (.iconst 1, 1) := by decide +kernel
theorem dJ0_isLatin1_aae02_14 : decode cJ0_isLatin1_aae02 14 = .ok (.goto 4, 3) := by decide +kernel
theorem dJ0_isLatin1_aae02_17 : decode cJ0_isLatin1_aae02 17 = .ok (.iconst 0, 1) := by decide +kernel
theorem dJ0_isLatin1_aae02_18 : decode cJ0_isLatin1_aae02 18 = .ok (.ireturn, 1) := by decide +kernel
theorem dJ0_checkIndex_df160_0 : decode cJ0_checkIndex_df160 0 = .ok (.iload_n 0, 1) := by decide +kernel
theorem dJ0_checkIndex_df160_1 : decode cJ0_checkIndex_df160 1 = .ok (.iload_n 1, 1) := by decide +kernel
theorem dJ0_checkIndex_df160_2 : decode cJ0_checkIndex_df160 2 = .ok (.getstatic 1053, 3) := by decide +kernel
theorem dJ0_checkIndex_df160_5 : decode cJ0_checkIndex_df160 5 = .ok (.invokestatic 1059, 3) := by decide +kernel
theorem dJ0_checkIndex_df160_8 : decode cJ0_checkIndex_df160 8 = .ok (.pop, 1) := by decide +kernel
theorem dJ0_checkIndex_df160_9 : decode cJ0_checkIndex_df160 9 = .ok (.return_, 1) := by decide +kernel
theorem dJ0_checkBoundsOffCount_cabcc_0 : decode cJ0_checkBoundsOffCount_cabcc 0 = .ok (.iload_n 0, 1) := by decide +kernel
theorem dJ0_checkBoundsOffCount_cabcc_1 : decode cJ0_checkBoundsOffCount_cabcc 1 = .ok (.iload_n 1, 1) := by decide +kernel
theorem dJ0_checkBoundsOffCount_cabcc_2 : decode cJ0_checkBoundsOffCount_cabcc 2 = .ok (.iload_n 2, 1) := by decide +kernel
theorem dJ0_checkBoundsOffCount_cabcc_3 : decode cJ0_checkBoundsOffCount_cabcc 3 = .ok (.getstatic 1053, 3) := by decide +kernel
theorem dJ0_checkBoundsOffCount_cabcc_6 : decode cJ0_checkBoundsOffCount_cabcc 6 = .ok (.invokestatic 1065, 3) := by decide +kernel
theorem dJ0_checkBoundsOffCount_cabcc_9 : decode cJ0_checkBoundsOffCount_cabcc 9 = .ok (.ireturn, 1) := by decide +kernel
theorem dJ0_checkBoundsBeginEnd_23922_0 : decode cJ0_checkBoundsBeginEnd_23922 0 = .ok (.iload_n 0, 1) := by decide +kernel
theorem dJ0_checkBoundsBeginEnd_23922_1 : decode cJ0_checkBoundsBeginEnd_23922 1 = .ok (.iload_n 1, 1) := by decide +kernel
theorem dJ0_checkBoundsBeginEnd_23922_2 : decode cJ0_checkBoundsBeginEnd_23922 2 = .ok (.iload_n 2, 1) := by decide +kernel
theorem dJ0_checkBoundsBeginEnd_23922_3 : decode cJ0_checkBoundsBeginEnd_23922 3 = .ok (.getstatic 1053, 3) := by decide +kernel
theorem dJ0_checkBoundsBeginEnd_23922_6 : decode cJ0_checkBoundsBeginEnd_23922 6 = .ok (.invokestatic 1062, 3) := by decide +kernel
theorem dJ0_checkBoundsBeginEnd_23922_9 : decode cJ0_checkBoundsBeginEnd_23922 9 = .ok (.pop, 1) := by decide +kernel
theorem dJ0_checkBoundsBeginEnd_23922_10 : decode cJ0_checkBoundsBeginEnd_23922 10 = .ok (.return_, 1) := by decide +kernel
theorem dJ4_init_da8c8_0 : decode cJ4_init_da8c8 0 = .ok (.aload_n 0, 1) := by decide +kernel
theorem dJ4_init_da8c8_1 : decode cJ4_init_da8c8 1 = .ok (.bipush 16, 2) := by decide +kernel
theorem dJ4_init_da8c8_3 : decode cJ4_init_da8c8 3 = .ok (.invokespecial 1, 3) := by decide +kernel
theorem dJ4_init_da8c8_6 : decode cJ4_init_da8c8 6 = .ok (.return_, 1) := by decide +kernel
theorem dJ4_append_15ec4_0 : decode cJ4_append_15ec4 0 = .ok (.aload_n 0, 1) := by decide +kernel
theorem dJ4_append_15ec4_1 : decode cJ4_append_15ec4 1 = .ok (.aload_n 1, 1) := by decide +kernel
theorem dJ4_append_15ec4_2 : decode cJ4_append_15ec4 2 = .ok (.invokespecial 29, 3) := by decide +kernel
theorem dJ4_append_15ec4_5 : decode cJ4_append_15ec4 5 = .ok (.pop, 1) := by decide +kernel
theorem dJ4_append_15ec4_6 : decode cJ4_append_15ec4 6 = .ok (.aload_n 0, 1) := by decide +kernel
theorem dJ4_append_15ec4_7 : decode cJ4_append_15ec4 7 = .ok (.areturn, 1) := by decide +kernel
theorem dJ4_append_cf468_0 : decode cJ4_append_cf468 0 = .ok (.aload_n 0, 1) := by decide +kernel
theorem dJ4_append_cf468_1 : decode cJ4_append_cf468 1 = .ok (.iload_n 1, 1) := by decide +kernel
theorem dJ4_append_cf468_2 : decode cJ4_append_cf468 2 = .ok (.invokespecial 50, 3) := by decide +kernel
theorem dJ4_append_cf468_5 : decode cJ4_append_cf468 5 = .ok (.pop, 1) := by decide +kernel
theorem dJ4_append_cf468_6 : decode cJ4_append_cf468 6 = .ok (.aload_n 0, 1) := by decide +kernel
theorem dJ4_append_cf468_7 : decode cJ4_append_cf468 7 = .ok (.areturn, 1) := by decide +kernel
theorem dJ4_append_bf812_0 : decode cJ4_append_bf812 0 = .ok (.aload_n 0, 1) := by decide +kernel
theorem dJ4_append_bf812_1 : decode cJ4_append_bf812 1 = .ok (.iload_n 1, 1) := by decide +kernel
theorem dJ4_append_bf812_2 : decode cJ4_append_bf812 2 = .ok (.invokespecial 53, 3) := by decide +kernel
theorem dJ4_append_bf812_5 : decode cJ4_append_bf812 5 = .ok (.pop, 1) := by decide +kernel
theorem dJ4_append_bf812_6 : decode cJ4_append_bf812 6 = .ok (.aload_n 0, 1) := by decide +kernel
theorem dJ4_append_bf812_7 : decode cJ4_append_bf812 7 = .ok (.areturn, 1) := by decide +kernel
theorem dJ4_toString_0e30d_0 : decode cJ4_toString_0e30d 0 = .ok (.new 18, 3) := by decide +kernel
theorem dJ4_toString_0e30d_3 : decode cJ4_toString_0e30d 3 = .ok (.dup, 1) := by decide +kernel
theorem dJ4_toString_0e30d_4 : decode cJ4_toString_0e30d 4 = .ok (.aload_n 0, 1) := by decide +kernel
theorem dJ4_toString_0e30d_5 : decode cJ4_toString_0e30d 5 = .ok (.invokespecial 137, 3) := by decide +kernel
theorem dJ4_toString_0e30d_8 : decode cJ4_toString_0e30d 8 = .ok (.areturn, 1) := by decide +kernel
theorem dJ4_charAt_5068e_0 : decode cJ4_charAt_5068e 0 = .ok (.aload_n 0, 1) := by decide +kernel
theorem dJ4_charAt_5068e_1 : decode cJ4_charAt_5068e 1 = .ok (.iload_n 1, 1) := by decide +kernel
theorem dJ4_charAt_5068e_2 : decode cJ4_charAt_5068e 2 = .ok (.invokespecial 329, 3) := by decide +kernel
theorem dJ4_charAt_5068e_5 : decode cJ4_charAt_5068e 5 = .ok (.ireturn, 1) := by decide +kernel
theorem dJ4_setLength_d00df_0 : decode cJ4_setLength_d00df 0 = .ok (.aload_n 0, 1) := by decide +kernel
theorem dJ4_setLength_d00df_1 : decode cJ4_setLength_d00df 1 = .ok (.iload_n 1, 1) := by decide +kernel
theorem dJ4_setLength_d00df_2 : decode cJ4_setLength_d00df 2 = .ok (.invokespecial 333, 3) := by decide +kernel
theorem dJ4_setLength_d00df_5 : decode cJ4_setLength_d00df 5 = .ok (.return_, 1) := by decide +kernel
theorem dJ4_length_8abf5_0 : decode cJ4_length_8abf5 0 = .ok (.aload_n 0, 1) := by decide +kernel
theorem dJ4_length_8abf5_1 : decode cJ4_length_8abf5 1 = .ok (.invokespecial 343, 3) := by decide +kernel
theorem dJ4_length_8abf5_4 : decode cJ4_length_8abf5 4 = .ok (.ireturn, 1) := by decide +kernel
theorem dJx7c733_init_d00df_0 : decode cJx7c733_init_d00df 0 = .ok (.aload_n 0, 1) := by decide +kernel
theorem dJx7c733_init_d00df_1 : decode cJx7c733_init_d00df 1 = .ok (.new 10, 3) := by decide +kernel
theorem dJx7c733_init_d00df_4 : decode cJx7c733_init_d00df 4 = .ok (.dup, 1) := by decide +kernel
theorem dJx7c733_init_d00df_5 : decode cJx7c733_init_d00df 5 = .ok (.invokespecial 12, 3) := by decide +kernel
theorem dJx7c733_init_d00df_8 : decode cJx7c733_init_d00df 8 = .ok (.ldc 13, 2) := by decide +kernel
theorem dJx7c733_init_d00df_10 : decode cJx7c733_init_d00df 10 = .ok (.invokevirtual 15, 3) := by decide +kernel
theorem dJx7c733_init_d00df_13 : decode cJx7c733_init_d00df 13 = .ok (.iload_n 1, 1) := by decide +kernel
theorem dJx7c733_init_d00df_14 : decode cJx7c733_init_d00df 14 = .ok (.invokevirtual 19, 3) := by decide +kernel
theorem dJx7c733_init_d00df_17 : decode cJx7c733_init_d00df 17 = .ok (.invokevirtual 22, 3) := by decide +kernel
theorem dJx7c733_init_d00df_20 : decode cJx7c733_init_d00df 20 = .ok (.invokespecial 7, 3) := by decide +kernel
theorem dJx7c733_init_d00df_23 : decode cJx7c733_init_d00df 23 = .ok (.return_, 1) := by decide +kernel
theorem dJ1_charAt_3b067_0 : decode cJ1_charAt_3b067 0 = .ok (.iload_n 1, 1) := by decide +kernel
theorem dJ1_charAt_3b067_1 : decode cJ1_charAt_3b067 1 = .ok (.aload_n 0, 1) := by decide +kernel
theorem dJ1_charAt_3b067_2 : decode cJ1_charAt_3b067 2 = .ok (.arraylength, 1) := by decide +kernel
theorem dJ1_charAt_3b067_3 : decode cJ1_charAt_3b067 3 = .ok (.invokestatic 9, 3) := by decide +kernel
theorem dJ1_charAt_3b067_6 : decode cJ1_charAt_3b067 6 = .ok (.aload_n 0, 1) := by decide +kernel
theorem dJ1_charAt_3b067_7 : decode cJ1_charAt_3b067 7 = .ok (.iload_n 1, 1) := by decide +kernel
theorem dJ1_charAt_3b067_8 : decode cJ1_charAt_3b067 8 = .ok (.baload, 1) := by decide +kernel
theorem dJ1_charAt_3b067_9 : decode cJ1_charAt_3b067 9 = .ok (.sipush 255, 3) := by decide +kernel
theorem dJ1_charAt_3b067_12 : decode cJ1_charAt_3b067 12 = .ok (.iand, 1) := by decide +kernel
theorem dJ1_charAt_3b067_13 : decode cJ1_charAt_3b067 13 = .ok (.i2c, 1) := by decide +kernel
theorem dJ1_charAt_3b067_14 : decode cJ1_charAt_3b067 14 = .ok (.ireturn, 1) := by decide +kernel
theorem dJ1_canEncode_fc78d_0 : decode cJ1_canEncode_fc78d 0 = .ok (.iload_n 0, 1) := by decide +kernel
theorem dJ1_canEncode_fc78d_1 : decode cJ1_canEncode_fc78d 1 = .ok (.sipush 255, 3) := by decide +kernel
theorem dJ1_canEncode_fc78d_4 : decode cJ1_canEncode_fc78d 4 = .ok (.if_icmp .gt 7, 3) := by decide +kernel
theorem dJ1_canEncode_fc78d_7 : decode cJ1_canEncode_fc78d 7 = .ok (.iconst 1, 1) := by decide +kernel
theorem dJ1_canEncode_fc78d_8 : decode cJ1_canEncode_fc78d 8 = .ok (.goto 4, 3) := by decide +kernel
theorem dJ1_canEncode_fc78d_11 : decode cJ1_canEncode_fc78d 11 = .ok (.iconst 0, 1) := by decide +kernel
theorem dJ1_canEncode_fc78d_12 : decode cJ1_canEncode_fc78d 12 = .ok (.ireturn, 1) := by decide +kernel
theorem dJ1_fillNull_b72d1_0 : decode cJ1_fillNull_b72d1 0 = .ok (.aload_n 0, 1) := by decide +kernel
theorem dJ1_fillNull_b72d1_1 : decode cJ1_fillNull_b72d1 1 = .ok (.iload_n 1, 1) := by decide +kernel
theorem dJ1_fillNull_b72d1_2 : decode cJ1_fillNull_b72d1 2 = .ok (.iload_n 2, 1) := by decide +kernel
theorem dJ1_fillNull_b72d1_3 : decode cJ1_fillNull_b72d1 3 = .ok (.iconst 0, 1) := by decide +kernel
theorem dJ1_fillNull_b72d1_4 : decode cJ1_fillNull_b72d1 4 = .ok (.invokestatic 236, 3) := by decide +kernel
theorem dJ1_fillNull_b72d1_7 : decode cJ1_fillNull_b72d1 7 = .ok (.return_, 1) := by decide +kernel
theorem dJ1_inflate_0e8fd_0 : decode cJ1_inflate_0e8fd 0 = .ok (.aload_n 0, 1) := by decide +kernel
theorem dJ1_inflate_0e8fd_1 : decode cJ1_inflate_0e8fd 1 = .ok (.iload_n 1, 1) := by decide +kernel
theorem dJ1_inflate_0e8fd_2 : decode cJ1_inflate_0e8fd 2 = .ok (.aload_n 2, 1) := by decide +kernel
theorem dJ1_inflate_0e8fd_3 : decode cJ1_inflate_0e8fd 3 = .ok (.iload_n 3, 1) := by decide +kernel
theorem dJ1_inflate_0e8fd_4 : decode cJ1_inflate_0e8fd 4 = .ok (.iload 4, 2) := by decide +kernel
theorem dJ1_inflate_0e8fd_6 : decode cJ1_inflate_0e8fd 6 = .ok (.invokestatic 240, 3) := by decide +kernel
theorem dJ1_inflate_0e8fd_9 : decode cJ1_inflate_0e8fd 9 = .ok (.return_, 1) := by decide +kernel
theorem dJ2_newBytesFor_77867_0 : decode cJ2_newBytesFor_77867 0 = .ok (.iload_n 0, 1) := by decide +kernel
theorem dJ2_newBytesFor_77867_1 : decode cJ2_newBytesFor_77867 1 = .ok (.invokestatic 11, 3) := by decide +kernel
theorem dJ2_newBytesFor_77867_4 : decode cJ2_newBytesFor_77867 4 = .ok (.newarray .byte, 2) := by decide +kernel
theorem dJ2_newBytesFor_77867_6 : decode cJ2_newBytesFor_77867 6 = .ok (.areturn, 1) := by decide +kernel
theorem dJ2_newBytesLength_0f7a4_0 : decode cJ2_newBytesLength_0f7a4 0 = .ok (.iload_n 0, 1) := by decide +kernel
theorem dJ2_newBytesLength_0f7a4_1 : decode cJ2_newBytesLength_0f7a4 1 = .ok (.ifCond .ge 11, 3) := by decide +kernel
theorem dJ2_newBytesLength_0f7a4_4 : decode cJ2_newBytesLength_0f7a4 4 = .ok (.new 17, 3) := by decide +kernel
theorem dJ2_newBytesLength_0f7a4_7 : decode cJ2_newBytesLength_0f7a4 7 = .ok (.dup, 1) := by decide +kernel
theorem dJ2_newBytesLength_0f7a4_8 : decode cJ2_newBytesLength_0f7a4 8 = .ok (.invokespecial 19, 3) := by decide +kernel
theorem dJ2_newBytesLength_0f7a4_11 : decode cJ2_newBytesLength_0f7a4 11 = .ok (.athrow, 1) := by decide +kernel
theorem dJ2_newBytesLength_0f7a4_12 : decode cJ2_newBytesLength_0f7a4 12 = .ok (.iload_n 0, 1) := by decide +kernel
theorem dJ2_newBytesLength_0f7a4_13 : decode cJ2_newBytesLength_0f7a4 13 = .ok (.ldc 20, 2) := by decide +kernel
theorem dJ2_newBytesLength_0f7a4_15 : decode cJ2_newBytesLength_0f7a4 15 = .ok (.if_icmp .lt 40, 3) := by decide +kernel
theorem dJ2_newBytesLength_0f7a4_18 : decode cJ2_newBytesLength_0f7a4 18 = .ok (.new 21, 3) := by decide +kernel
theorem dJ2_newBytesLength_0f7a4_21 : decode cJ2_newBytesLength_0f7a4 21 = .ok (.dup, 1) := by decide +kernel
theorem dJ2_newBytesLength_0f7a4_22 : decode cJ2_newBytesLength_0f7a4 22 = .ok (.new 23, 3) := by decide +kernel
theorem dJ2_newBytesLength_0f7a4_25 : decode cJ2_newBytesLength_0f7a4 25 = .ok (.dup, 1) := by decide +kernel
theorem dJ2_newBytesLength_0f7a4_26 : decode cJ2_newBytesLength_0f7a4 26 = .ok (.invokespecial 25, 3) := by decide +kernel
theorem dJ2_newBytesLength_0f7a4_29 : decode cJ2_newBytesLength_0f7a4 29 = .ok (.ldc 26, 2) := by decide +kernel
theorem dJ2_newBytesLength_0f7a4_31 : decode cJ2_newBytesLength_0f7a4 31 = .ok (.invokevirtual 28, 3) := by decide +kernel
theorem dJ2_newBytesLength_0f7a4_34 : decode cJ2_newBytesLength_0f7a4 34 = .ok (.iload_n 0, 1) := by decide +kernel
theorem dJ2_newBytesLength_0f7a4_35 : decode cJ2_newBytesLength_0f7a4 35 = .ok (.invokevirtual 32, 3) := by decide +kernel
theorem dJ2_newBytesLength_0f7a4_38 : decode cJ2_newBytesLength_0f7a4 38 = .ok (.ldc 35, 2) := by decide +kernel
theorem dJ2_newBytesLength_0f7a4_40 : decode cJ2_newBytesLength_0f7a4 40 = .ok (.invokevirtual 28, 3) := by decide +kernel
theorem dJ2_newBytesLength_0f7a4_43 : decode cJ2_newBytesLength_0f7a4 43 = .ok (.ldc 20, 2) := by decide +kernel
theorem dJ2_newBytesLength_0f7a4_45 : decode cJ2_newBytesLength_0f7a4 45 = .ok (.invokevirtual 32, 3) := by decide +kernel
theorem dJ2_newBytesLength_0f7a4_48 : decode cJ2_newBytesLength_0f7a4 48 = .ok (.invokevirtual 37, 3) := by decide +kernel
theorem dJ2_newBytesLength_0f7a4_51 : decode cJ2_newBytesLength_0f7a4 51 = .ok (.invokespecial 41, 3) := by decide +kernel
theorem dJ2_newBytesLength_0f7a4_54 : decode cJ2_newBytesLength_0f7a4 54 = .ok (.athrow, 1) := by decide +kernel
theorem dJ2_newBytesLength_0f7a4_55 : decode cJ2_newBytesLength_0f7a4 55 = .ok (.iload_n 0, 1) := by decide +kernel
theorem dJ2_newBytesLength_0f7a4_56 : decode cJ2_newBytesLength_0f7a4 56 = .ok (.iconst 1, 1) := by decide +kernel
theorem dJ2_newBytesLength_0f7a4_57 : decode cJ2_newBytesLength_0f7a4 57 = .ok (.ishl, 1) := by decide +kernel
theorem dJ2_newBytesLength_0f7a4_58 : decode cJ2_newBytesLength_0f7a4 58 = .ok (.ireturn, 1) := by decide +kernel
theorem dJ2_putChar_b72d1_0 : decode cJ2_putChar_b72d1 0 = .ok (.getstatic 44, 3) := by decide +kernel
theorem dJ2_putChar_b72d1_3 : decode cJ2_putChar_b72d1 3 = .ok (.ifCond .ne 25, 3) := by decide +kernel
theorem dJ2_putChar_b72d1_6 : decode cJ2_putChar_b72d1 6 = .ok (.iload_n 1, 1) := by decide +kernel
theorem dJ2_putChar_b72d1_7 : decode cJ2_putChar_b72d1 7 = .ok (.ifCond .lt 11, 3) := by decide +kernel
theorem dJ2_putChar_b72d1_10 : decode cJ2_putChar_b72d1 10 = .ok (.iload_n 1, 1) := by decide +kernel
theorem dJ2_putChar_b72d1_11 : decode cJ2_putChar_b72d1 11 = .ok (.aload_n 0, 1) := by decide +kernel
theorem dJ2_putChar_b72d1_12 : decode cJ2_putChar_b72d1 12 = .ok (.invokestatic 48, 3) := by decide +kernel
theorem dJ2_putChar_b72d1_15 : decode cJ2_putChar_b72d1 15 = .ok (.if_icmp .lt 13, 3) := by decide +kernel
theorem dJ2_putChar_b72d1_18 : decode cJ2_putChar_b72d1 18 = .ok (.new 52, 3) := by decide +kernel
theorem dJ2_putChar_b72d1_21 : decode cJ2_putChar_b72d1 21 = .ok (.dup, 1) := by decide +kernel
theorem dJ2_putChar_b72d1_22 : decode cJ2_putChar_b72d1 22 = .ok (.ldc 54, 2) := by decide +kernel
theorem dJ2_putChar_b72d1_24 : decode cJ2_putChar_b72d1 24 = .ok (.invokespecial 56, 3) := by decide +kernel
theorem dJ2_putChar_b72d1_27 : decode cJ2_putChar_b72d1 27 = .ok (.athrow, 1) := by decide +kernel
theorem dJ2_putChar_b72d1_28 : decode cJ2_putChar_b72d1 28 = .ok (.iload_n 1, 1) := by decide +kernel
theorem dJ2_putChar_b72d1_29 : decode cJ2_putChar_b72d1 29 = .ok (.iconst 1, 1) := by decide +kernel
theorem dJ2_putChar_b72d1_30 : decode cJ2_putChar_b72d1 30 = .ok (.ishl, 1) := by decide +kernel
theorem dJ2_putChar_b72d1_31 : decode cJ2_putChar_b72d1 31 = .ok (.istore_n 1, 1) := by decide +kernel
theorem dJ2_putChar_b72d1_32 : decode cJ2_putChar_b72d1 32 = .ok (.aload_n 0, 1) := by decide +kernel
theorem dJ2_putChar_b72d1_33 : decode cJ2_putChar_b72d1 33 = .ok (.iload_n 1, 1) := by decide +kernel
theorem dJ2_putChar_b72d1_34 : decode cJ2_putChar_b72d1 34 = .ok (.iinc 1 1, 3) := by decide +kernel
theorem dJ2_putChar_b72d1_37 : decode cJ2_putChar_b72d1 37 = .ok (.iload_n 2, 1) := by decide +kernel
theorem dJ2_putChar_b72d1_38 : decode cJ2_putChar_b72d1 38 = .ok (.getstatic 59, 3) := by decide +kernel
theorem dJ2_putChar_b72d1_41 : decode cJ2_putChar_b72d1 41 = .ok (.ishr, 1) := by decide +kernel
theorem dJ2_putChar_b72d1_42 : decode cJ2_putChar_b72d1 42 = .ok (.i2b, 1) := by decide +kernel
theorem dJ2_putChar_b72d1_43 : decode cJ2_putChar_b72d1 43 = .ok (.bastore, 1) := by decide +kernel
theorem dJ2_putChar_b72d1_44 : decode cJ2_putChar_b72d1 44 = .ok (.aload_n 0, 1) := by decide +kernel
theorem dJ2_putChar_b72d1_45 : decode cJ2_putChar_b72d1 45 = .ok (.iload_n 1, 1) := by decide +kernel
theorem dJ2_putChar_b72d1_46 : decode cJ2_putChar_b72d1 46 = .ok (.iload_n 2, 1) := by decide +kernel
theorem dJ2_putChar_b72d1_47 : decode cJ2_putChar_b72d1 47 = .ok (.getstatic 63, 3) := by decide +kernel
theorem dJ2_putChar_b72d1_50 : decode cJ2_putChar_b72d1 50 = .ok (.ishr, 1) := by decide +kernel
theorem dJ2_putChar_b72d1_51 : decode cJ2_putChar_b72d1 51 = .ok (.i2b, 1) := by decide +kernel
theorem dJ2_putChar_b72d1_52 : decode cJ2_putChar_b72d1 52 = .ok (.bastore, 1) := by decide +kernel
theorem dJ2_putChar_b72d1_53 : decode cJ2_putChar_b72d1 53 = .ok (.return_, 1) := by decide +kernel
theorem dJ2_getChar_3b067_0 : decode cJ2_getChar_3b067 0 = .ok (.getstatic 44, 3) := by decide +kernel
theorem dJ2_getChar_3b067_3 : decode cJ2_getChar_3b067 3 = .ok (.ifCond .ne 25, 3) := by decide +kernel
theorem dJ2_getChar_3b067_6 : decode cJ2_getChar_3b067 6 = .ok (.iload_n 1, 1) := by decide +kernel
theorem dJ2_getChar_3b067_7 : decode cJ2_getChar_3b067 7 = .ok (.ifCond .lt 11, 3) := by decide +kernel
theorem dJ2_getChar_3b067_10 : decode cJ2_getChar_3b067 10 = .ok (.iload_n 1, 1) := by decide +kernel
theorem dJ2_getChar_3b067_11 : decode cJ2_getChar_3b067 11 = .ok (.aload_n 0, 1) := by decide +kernel
theorem dJ2_getChar_3b067_12 : decode cJ2_getChar_3b067 12 = .ok (.invokestatic 48, 3) := by decide +kernel
theorem dJ2_getChar_3b067_15 : decode cJ2_getChar_3b067 15 = .ok (.if_icmp .lt 13, 3) := by decide +kernel
theorem dJ2_getChar_3b067_18 : decode cJ2_getChar_3b067 18 = .ok (.new 52, 3) := by decide +kernel
theorem dJ2_getChar_3b067_21 : decode cJ2_getChar_3b067 21 = .ok (.dup, 1) := by decide +kernel
theorem dJ2_getChar_3b067_22 : decode cJ2_getChar_3b067 22 = .ok (.ldc 54, 2) := by decide +kernel
theorem dJ2_getChar_3b067_24 : decode cJ2_getChar_3b067 24 = .ok (.invokespecial 56, 3) := by decide +kernel
theorem dJ2_getChar_3b067_27 : decode cJ2_getChar_3b067 27 = .ok (.athrow, 1) := by decide +kernel
theorem dJ2_getChar_3b067_28 : decode cJ2_getChar_3b067 28 = .ok (.iload_n 1, 1) := by decide +kernel
theorem dJ2_getChar_3b067_29 : decode cJ2_getChar_3b067 29 = .ok (.iconst 1, 1) := by decide +kernel
theorem dJ2_getChar_3b067_30 : decode cJ2_getChar_3b067 30 = .ok (.ishl, 1) := by decide +kernel
theorem dJ2_getChar_3b067_31 : decode cJ2_getChar_3b067 31 = .ok (.istore_n 1, 1) := by decide +kernel
theorem dJ2_getChar_3b067_32 : decode cJ2_getChar_3b067 32 = .ok (.aload_n 0, 1) := by decide +kernel
theorem dJ2_getChar_3b067_33 : decode cJ2_getChar_3b067 33 = .ok (.iload_n 1, 1) := by decide +kernel
theorem dJ2_getChar_3b067_34 : decode cJ2_getChar_3b067 34 = .ok (.iinc 1 1, 3) := by decide +kernel
theorem dJ2_getChar_3b067_37 : decode cJ2_getChar_3b067 37 = .ok (.baload, 1) := by decide +kernel
theorem dJ2_getChar_3b067_38 : decode cJ2_getChar_3b067 38 = .ok (.sipush 255, 3) := by decide +kernel
theorem dJ2_getChar_3b067_41 : decode cJ2_getChar_3b067 41 = .ok (.iand, 1) := by decide +kernel
theorem dJ2_getChar_3b067_42 : decode cJ2_getChar_3b067 42 = .ok (.getstatic 59, 3) := by decide +kernel
theorem dJ2_getChar_3b067_45 : decode cJ2_getChar_3b067 45 = .ok (.ishl, 1) := by decide +kernel
theorem dJ2_getChar_3b067_46 : decode cJ2_getChar_3b067 46 = .ok (.aload_n 0, 1) := by decide +kernel
theorem dJ2_getChar_3b067_47 : decode cJ2_getChar_3b067 47 = .ok (.iload_n 1, 1) := by decide +kernel
theorem dJ2_getChar_3b067_48 : decode cJ2_getChar_3b067 48 = .ok (.baload, 1) := by decide +kernel
theorem dJ2_getChar_3b067_49 : decode cJ2_getChar_3b067 49 = .ok (.sipush 255, 3) := by decide +kernel
theorem dJ2_getChar_3b067_52 : decode cJ2_getChar_3b067 52 = .ok (.iand, 1) := by decide +kernel
theorem dJ2_getChar_3b067_53 : decode cJ2_getChar_3b067 53 = .ok (.getstatic 63, 3) := by decide +kernel
theorem dJ2_getChar_3b067_56 : decode cJ2_getChar_3b067 56 = .ok (.ishl, 1) := by decide +kernel
theorem dJ2_getChar_3b067_57 : decode cJ2_getChar_3b067 57 = .ok (.ior, 1) := by decide +kernel
