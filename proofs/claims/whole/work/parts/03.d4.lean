theorem dX6_goes_24 : decode cX6_goes 24 = .ok (.getfield 57, 3) := by decide +kernel
theorem dX6_goes_27 : decode cX6_goes 27 = .ok (.if_icmp .ge 35, 3) := by decide +kernel
theorem dX6_goes_30 : decode cX6_goes 30 = .ok (.aload_n 0, 1) := by decide +kernel
theorem dX6_goes_31 : decode cX6_goes 31 = .ok (.iload_n 3, 1) := by decide +kernel
theorem dX6_goes_32 : decode cX6_goes 32 = .ok (.iconst 2, 1) := by decide +kernel
theorem dX6_goes_33 : decode cX6_goes 33 = .ok (.invokevirtual 81, 3) := by decide +kernel
theorem dX6_goes_36 : decode cX6_goes 36 = .ok (.ifCond .le 11, 3) := by decide +kernel
theorem dX6_goes_39 : decode cX6_goes 39 = .ok (.aload_n 0, 1) := by decide +kernel
theorem dX6_goes_40 : decode cX6_goes 40 = .ok (.iload_n 3, 1) := by decide +kernel
theorem dX6_goes_41 : decode cX6_goes 41 = .ok (.invokevirtual 126, 3) := by decide +kernel
theorem dX6_goes_44 : decode cX6_goes 44 = .ok (.goto 12, 3) := by decide +kernel
theorem dX6_goes_47 : decode cX6_goes 47 = .ok (.iload_n 2, 1) := by decide +kernel
theorem dX6_goes_48 : decode cX6_goes 48 = .ok (.ifCond .eq 8, 3) := by decide +kernel
theorem dX6_goes_51 : decode cX6_goes 51 = .ok (.aload_n 0, 1) := by decide +kernel
theorem dX6_goes_52 : decode cX6_goes 52 = .ok (.iload_n 3, 1) := by decide +kernel
theorem dX6_goes_53 : decode cX6_goes 53 = .ok (.invokevirtual 130, 3) := by decide +kernel
theorem dX6_goes_56 : decode cX6_goes 56 = .ok (.iinc 3 1, 3) := by decide +kernel
theorem dX6_goes_59 : decode cX6_goes 59 = .ok (.goto (-37), 3) := by decide +kernel
theorem dX6_goes_62 : decode cX6_goes 62 = .ok (.aload_n 0, 1) := by decide +kernel
theorem dX6_goes_63 : decode cX6_goes 63 = .ok (.aload_n 0, 1) := by decide +kernel
theorem dX6_goes_64 : decode cX6_goes 64 = .ok (.getfield 114, 3) := by decide +kernel
theorem dX6_goes_67 : decode cX6_goes 67 = .ok (.putfield 133, 3) := by decide +kernel
theorem dX6_goes_70 : decode cX6_goes 70 = .ok (.iconst 1, 1) := by decide +kernel
theorem dX6_goes_71 : decode cX6_goes 71 = .ok (.istore_n 3, 1) := by decide +kernel
theorem dX6_goes_72 : decode cX6_goes 72 = .ok (.iconst 0, 1) := by decide +kernel
theorem dX6_goes_73 : decode cX6_goes 73 = .ok (.istore 4, 2) := by decide +kernel
theorem dX6_goes_75 : decode cX6_goes 75 = .ok (.iload 4, 2) := by decide +kernel
theorem dX6_goes_77 : decode cX6_goes 77 = .ok (.aload_n 0, 1) := by decide +kernel
theorem dX6_goes_78 : decode cX6_goes 78 = .ok (.getfield 64, 3) := by decide +kernel
theorem dX6_goes_81 : decode cX6_goes 81 = .ok (.if_icmp .ge 62, 3) := by decide +kernel
theorem dX6_goes_84 : decode cX6_goes 84 = .ok (.aload_n 0, 1) := by decide +kernel
theorem dX6_goes_85 : decode cX6_goes 85 = .ok (.getfield 133, 3) := by decide +kernel
theorem dX6_goes_88 : decode cX6_goes 88 = .ok (.aload_n 0, 1) := by decide +kernel
theorem dX6_goes_89 : decode cX6_goes 89 = .ok (.getfield 22, 3) := by decide +kernel
theorem dX6_goes_92 : decode cX6_goes 92 = .ok (.iload 4, 2) := by decide +kernel
theorem dX6_goes_94 : decode cX6_goes 94 = .ok (.iaload, 1) := by decide +kernel
theorem dX6_goes_95 : decode cX6_goes 95 = .ok (.aload_n 0, 1) := by decide +kernel
theorem dX6_goes_96 : decode cX6_goes 96 = .ok (.getfield 9, 3) := by decide +kernel
theorem dX6_goes_99 : decode cX6_goes 99 = .ok (.bipush 12, 2) := by decide +kernel
theorem dX6_goes_101 : decode cX6_goes 101 = .ok (.iload 4, 2) := by decide +kernel
theorem dX6_goes_103 : decode cX6_goes 103 = .ok (.iadd, 1) := by decide +kernel
theorem dX6_goes_104 : decode cX6_goes 104 = .ok (.iaload, 1) := by decide +kernel
theorem dX6_goes_105 : decode cX6_goes 105 = .ok (.isub, 1) := by decide +kernel
theorem dX6_goes_106 : decode cX6_goes 106 = .ok (.invokestatic 111, 3) := by decide +kernel
theorem dX6_goes_109 : decode cX6_goes 109 = .ok (.istore 5, 2) := by decide +kernel
theorem dX6_goes_111 : decode cX6_goes 111 = .ok (.aload_n 0, 1) := by decide +kernel
theorem dX6_goes_112 : decode cX6_goes 112 = .ok (.getfield 9, 3) := by decide +kernel
theorem dX6_goes_115 : decode cX6_goes 115 = .ok (.bipush 12, 2) := by decide +kernel
theorem dX6_goes_117 : decode cX6_goes 117 = .ok (.iload 4, 2) := by decide +kernel
theorem dX6_goes_119 : decode cX6_goes 119 = .ok (.iadd, 1) := by decide +kernel
theorem dX6_goes_120 : decode cX6_goes 120 = .ok (.dup2, 1) := by decide +kernel
theorem dX6_goes_121 : decode cX6_goes 121 = .ok (.iaload, 1) := by decide +kernel
theorem dX6_goes_122 : decode cX6_goes 122 = .ok (.iload 5, 2) := by decide +kernel
theorem dX6_goes_124 : decode cX6_goes 124 = .ok (.iadd, 1) := by decide +kernel
theorem dX6_goes_125 : decode cX6_goes 125 = .ok (.iastore, 1) := by decide +kernel
theorem dX6_goes_126 : decode cX6_goes 126 = .ok (.aload_n 0, 1) := by decide +kernel
theorem dX6_goes_127 : decode cX6_goes 127 = .ok (.dup, 1) := by decide +kernel
theorem dX6_goes_128 : decode cX6_goes 128 = .ok (.getfield 133, 3) := by decide +kernel
theorem dX6_goes_131 : decode cX6_goes 131 = .ok (.iload 5, 2) := by decide +kernel
theorem dX6_goes_133 : decode cX6_goes 133 = .ok (.isub, 1) := by decide +kernel
theorem dX6_goes_134 : decode cX6_goes 134 = .ok (.putfield 133, 3) := by decide +kernel
theorem dX6_goes_137 : decode cX6_goes 137 = .ok (.iinc 4 1, 3) := by decide +kernel
theorem dX6_goes_140 : decode cX6_goes 140 = .ok (.goto (-65), 3) := by decide +kernel
theorem dX6_goes_143 : decode cX6_goes 143 = .ok (.iconst 0, 1) := by decide +kernel
theorem dX6_goes_144 : decode cX6_goes 144 = .ok (.istore 4, 2) := by decide +kernel
theorem dX6_goes_146 : decode cX6_goes 146 = .ok (.iload 4, 2) := by decide +kernel
theorem dX6_goes_148 : decode cX6_goes 148 = .ok (.aload_n 0, 1) := by decide +kernel
theorem dX6_goes_149 : decode cX6_goes 149 = .ok (.getfield 64, 3) := by decide +kernel
theorem dX6_goes_152 : decode cX6_goes 152 = .ok (.if_icmp .ge 95, 3) := by decide +kernel
theorem dX6_goes_155 : decode cX6_goes 155 = .ok (.aload_n 0, 1) := by decide +kernel
theorem dX6_goes_156 : decode cX6_goes 156 = .ok (.getfield 25, 3) := by decide +kernel
theorem dX6_goes_159 : decode cX6_goes 159 = .ok (.bipush 48, 2) := by decide +kernel
theorem dX6_goes_161 : decode cX6_goes 161 = .ok (.iload 4, 2) := by decide +kernel
theorem dX6_goes_163 : decode cX6_goes 163 = .ok (.imul, 1) := by decide +kernel
theorem dX6_goes_164 : decode cX6_goes 164 = .ok (.iload_n 1, 1) := by decide +kernel
theorem dX6_goes_165 : decode cX6_goes 165 = .ok (.iadd, 1) := by decide +kernel
theorem dX6_goes_166 : decode cX6_goes 166 = .ok (.iaload, 1) := by decide +kernel
theorem dX6_goes_167 : decode cX6_goes 167 = .ok (.istore 5, 2) := by decide +kernel
theorem dX6_goes_169 : decode cX6_goes 169 = .ok (.iload 5, 2) := by decide +kernel
theorem dX6_goes_171 : decode cX6_goes 171 = .ok (.aload_n 0, 1) := by decide +kernel
theorem dX6_goes_172 : decode cX6_goes 172 = .ok (.getfield 9, 3) := by decide +kernel
theorem dX6_goes_175 : decode cX6_goes 175 = .ok (.bipush 12, 2) := by decide +kernel
theorem dX6_goes_177 : decode cX6_goes 177 = .ok (.iload 4, 2) := by decide +kernel
theorem dX6_goes_179 : decode cX6_goes 179 = .ok (.iadd, 1) := by decide +kernel
theorem dX6_goes_180 : decode cX6_goes 180 = .ok (.iaload, 1) := by decide +kernel
theorem dX6_goes_181 : decode cX6_goes 181 = .ok (.invokestatic 111, 3) := by decide +kernel
theorem dX6_goes_184 : decode cX6_goes 184 = .ok (.istore 6, 2) := by decide +kernel
theorem dX6_goes_186 : decode cX6_goes 186 = .ok (.aload_n 0, 1) := by decide +kernel
theorem dX6_goes_187 : decode cX6_goes 187 = .ok (.getfield 9, 3) := by decide +kernel
theorem dX6_goes_190 : decode cX6_goes 190 = .ok (.bipush 12, 2) := by decide +kernel
theorem dX6_goes_192 : decode cX6_goes 192 = .ok (.iload 4, 2) := by decide +kernel
theorem dX6_goes_194 : decode cX6_goes 194 = .ok (.iadd, 1) := by decide +kernel
theorem dX6_goes_195 : decode cX6_goes 195 = .ok (.dup2, 1) := by decide +kernel
theorem dX6_goes_196 : decode cX6_goes 196 = .ok (.iaload, 1) := by decide +kernel
theorem dX6_goes_197 : decode cX6_goes 197 = .ok (.iload 6, 2) := by decide +kernel
theorem dX6_goes_199 : decode cX6_goes 199 = .ok (.isub, 1) := by decide +kernel
theorem dX6_goes_200 : decode cX6_goes 200 = .ok (.iastore, 1) := by decide +kernel
theorem dX6_goes_201 : decode cX6_goes 201 = .ok (.aload_n 0, 1) := by decide +kernel
theorem dX6_goes_202 : decode cX6_goes 202 = .ok (.dup, 1) := by decide +kernel
theorem dX6_goes_203 : decode cX6_goes 203 = .ok (.getfield 123, 3) := by decide +kernel
theorem dX6_goes_206 : decode cX6_goes 206 = .ok (.iload 6, 2) := by decide +kernel
theorem dX6_goes_208 : decode cX6_goes 208 = .ok (.iadd, 1) := by decide +kernel
theorem dX6_goes_209 : decode cX6_goes 209 = .ok (.putfield 123, 3) := by decide +kernel
theorem dX6_goes_212 : decode cX6_goes 212 = .ok (.aload_n 0, 1) := by decide +kernel
theorem dX6_goes_213 : decode cX6_goes 213 = .ok (.getfield 51, 3) := by decide +kernel
theorem dX6_goes_216 : decode cX6_goes 216 = .ok (.iload 4, 2) := by decide +kernel
theorem dX6_goes_218 : decode cX6_goes 218 = .ok (.iload 5, 2) := by decide +kernel
theorem dX6_goes_220 : decode cX6_goes 220 = .ok (.iload 6, 2) := by decide +kernel
theorem dX6_goes_222 : decode cX6_goes 222 = .ok (.isub, 1) := by decide +kernel
theorem dX6_goes_223 : decode cX6_goes 223 = .ok (.iastore, 1) := by decide +kernel
theorem dX6_goes_224 : decode cX6_goes 224 = .ok (.iload_n 3, 1) := by decide +kernel
theorem dX6_goes_225 : decode cX6_goes 225 = .ok (.ifCond .eq 14, 3) := by decide +kernel
theorem dX6_goes_228 : decode cX6_goes 228 = .ok (.iload 6, 2) := by decide +kernel
theorem dX6_goes_230 : decode cX6_goes 230 = .ok (.iload 5, 2) := by decide +kernel
theorem dX6_goes_232 : decode cX6_goes 232 = .ok (.if_icmp .ne 7, 3) := by decide +kernel
theorem dX6_goes_235 : decode cX6_goes 235 = .ok (.iconst 1, 1) := by decide +kernel
theorem dX6_goes_236 : decode cX6_goes 236 = .ok (.goto 4, 3) := by decide +kernel
theorem dX6_goes_239 : decode cX6_goes 239 = .ok (.iconst 0, 1) := by decide +kernel
theorem dX6_goes_240 : decode cX6_goes 240 = .ok (.istore_n 3, 1) := by decide +kernel
theorem dX6_goes_241 : decode cX6_goes 241 = .ok (.iinc 4 1, 3) := by decide +kernel
theorem dX6_goes_244 : decode cX6_goes 244 = .ok (.goto (-98), 3) := by decide +kernel
theorem dX6_goes_247 : decode cX6_goes 247 = .ok (.iload_n 3, 1) := by decide +kernel
theorem dX6_goes_248 : decode cX6_goes 248 = .ok (.ireturn, 1) := by decide +kernel
theorem dX6_orderAt_0 : decode cX6_orderAt 0 = .ok (.iconst 0, 1) := by decide +kernel
theorem dX6_orderAt_1 : decode cX6_orderAt 1 = .ok (.istore_n 2, 1) := by decide +kernel
theorem dX6_orderAt_2 : decode cX6_orderAt 2 = .ok (.iload_n 2, 1) := by decide +kernel
theorem dX6_orderAt_3 : decode cX6_orderAt 3 = .ok (.aload_n 0, 1) := by decide +kernel
theorem dX6_orderAt_4 : decode cX6_orderAt 4 = .ok (.getfield 136, 3) := by decide +kernel
theorem dX6_orderAt_7 : decode cX6_orderAt 7 = .ok (.if_icmp .ge 21, 3) := by decide +kernel
theorem dX6_orderAt_10 : decode cX6_orderAt 10 = .ok (.aload_n 0, 1) := by decide +kernel
theorem dX6_orderAt_11 : decode cX6_orderAt 11 = .ok (.getfield 44, 3) := by decide +kernel
theorem dX6_orderAt_14 : decode cX6_orderAt 14 = .ok (.iload_n 2, 1) := by decide +kernel
theorem dX6_orderAt_15 : decode cX6_orderAt 15 = .ok (.iaload, 1) := by decide +kernel
theorem dX6_orderAt_16 : decode cX6_orderAt 16 = .ok (.iload_n 1, 1) := by decide +kernel
theorem dX6_orderAt_17 : decode cX6_orderAt 17 = .ok (.if_icmp .ne 5, 3) := by decide +kernel
theorem dX6_orderAt_20 : decode cX6_orderAt 20 = .ok (.iload_n 2, 1) := by decide +kernel
theorem dX6_orderAt_21 : decode cX6_orderAt 21 = .ok (.ireturn, 1) := by decide +kernel
theorem dX6_orderAt_22 : decode cX6_orderAt 22 = .ok (.iinc 2 1, 3) := by decide +kernel
theorem dX6_orderAt_25 : decode cX6_orderAt 25 = .ok (.goto (-23), 3) := by decide +kernel
theorem dX6_orderAt_28 : decode cX6_orderAt 28 = .ok (.iconst (-1), 1) := by decide +kernel
theorem dX6_orderAt_29 : decode cX6_orderAt 29 = .ok (.ireturn, 1) := by decide +kernel
theorem dX6_forgets_0 : decode cX6_forgets 0 = .ok (.aload_n 0, 1) := by decide +kernel
theorem dX6_forgets_1 : decode cX6_forgets 1 = .ok (.dup, 1) := by decide +kernel
theorem dX6_forgets_2 : decode cX6_forgets 2 = .ok (.getfield 136, 3) := by decide +kernel
theorem dX6_forgets_5 : decode cX6_forgets 5 = .ok (.iconst 1, 1) := by decide +kernel
theorem dX6_forgets_6 : decode cX6_forgets 6 = .ok (.isub, 1) := by decide +kernel
theorem dX6_forgets_7 : decode cX6_forgets 7 = .ok (.putfield 136, 3) := by decide +kernel
theorem dX6_forgets_10 : decode cX6_forgets 10 = .ok (.aload_n 0, 1) := by decide +kernel
theorem dX6_forgets_11 : decode cX6_forgets 11 = .ok (.getfield 44, 3) := by decide +kernel
theorem dX6_forgets_14 : decode cX6_forgets 14 = .ok (.iload_n 1, 1) := by decide +kernel
theorem dX6_forgets_15 : decode cX6_forgets 15 = .ok (.aload_n 0, 1) := by decide +kernel
theorem dX6_forgets_16 : decode cX6_forgets 16 = .ok (.getfield 44, 3) := by decide +kernel
theorem dX6_forgets_19 : decode cX6_forgets 19 = .ok (.aload_n 0, 1) := by decide +kernel
theorem dX6_forgets_20 : decode cX6_forgets 20 = .ok (.getfield 136, 3) := by decide +kernel
theorem dX6_forgets_23 : decode cX6_forgets 23 = .ok (.iaload, 1) := by decide +kernel
theorem dX6_forgets_24 : decode cX6_forgets 24 = .ok (.iastore, 1) := by decide +kernel
theorem dX6_forgets_25 : decode cX6_forgets 25 = .ok (.aload_n 0, 1) := by decide +kernel
theorem dX6_forgets_26 : decode cX6_forgets 26 = .ok (.getfield 47, 3) := by decide +kernel
theorem dX6_forgets_29 : decode cX6_forgets 29 = .ok (.iload_n 1, 1) := by decide +kernel
theorem dX6_forgets_30 : decode cX6_forgets 30 = .ok (.aload_n 0, 1) := by decide +kernel
theorem dX6_forgets_31 : decode cX6_forgets 31 = .ok (.getfield 47, 3) := by decide +kernel
theorem dX6_forgets_34 : decode cX6_forgets 34 = .ok (.aload_n 0, 1) := by decide +kernel
theorem dX6_forgets_35 : decode cX6_forgets 35 = .ok (.getfield 136, 3) := by decide +kernel
theorem dX6_forgets_38 : decode cX6_forgets 38 = .ok (.baload, 1) := by decide +kernel
theorem dX6_forgets_39 : decode cX6_forgets 39 = .ok (.bastore, 1) := by decide +kernel
theorem dX6_forgets_40 : decode cX6_forgets 40 = .ok (.return_, 1) := by decide +kernel
theorem dX6_passes_0 : decode cX6_passes 0 = .ok (.aload_n 0, 1) := by decide +kernel
theorem dX6_passes_1 : decode cX6_passes 1 = .ok (.getfield 139, 3) := by decide +kernel
theorem dX6_passes_4 : decode cX6_passes 4 = .ok (.bipush 48, 2) := by decide +kernel
theorem dX6_passes_6 : decode cX6_passes 6 = .ok (.irem, 1) := by decide +kernel
theorem dX6_passes_7 : decode cX6_passes 7 = .ok (.istore_n 2, 1) := by decide +kernel
theorem dX6_passes_8 : decode cX6_passes 8 = .ok (.aload_n 0, 1) := by decide +kernel
theorem dX6_passes_9 : decode cX6_passes 9 = .ok (.iload_n 2, 1) := by decide +kernel
theorem dX6_passes_10 : decode cX6_passes 10 = .ok (.iload_n 1, 1) := by decide +kernel
theorem dX6_passes_11 : decode cX6_passes 11 = .ok (.invokevirtual 142, 3) := by decide +kernel
theorem dX6_passes_14 : decode cX6_passes 14 = .ok (.pop, 1) := by decide +kernel
theorem dX6_passes_15 : decode cX6_passes 15 = .ok (.aload_n 0, 1) := by decide +kernel
theorem dX6_passes_16 : decode cX6_passes 16 = .ok (.dup, 1) := by decide +kernel
theorem dX6_passes_17 : decode cX6_passes 17 = .ok (.getfield 146, 3) := by decide +kernel
theorem dX6_passes_20 : decode cX6_passes 20 = .ok (.aload_n 0, 1) := by decide +kernel
theorem dX6_passes_21 : decode cX6_passes 21 = .ok (.getfield 114, 3) := by decide +kernel
theorem dX6_passes_24 : decode cX6_passes 24 = .ok (.i2l, 1) := by decide +kernel
theorem dX6_passes_25 : decode cX6_passes 25 = .ok (.ladd, 1) := by decide +kernel
theorem dX6_passes_26 : decode cX6_passes 26 = .ok (.putfield 146, 3) := by decide +kernel
theorem dX6_passes_29 : decode cX6_passes 29 = .ok (.aload_n 0, 1) := by decide +kernel
theorem dX6_passes_30 : decode cX6_passes 30 = .ok (.dup, 1) := by decide +kernel
theorem dX6_passes_31 : decode cX6_passes 31 = .ok (.getfield 150, 3) := by decide +kernel
theorem dX6_passes_34 : decode cX6_passes 34 = .ok (.aload_n 0, 1) := by decide +kernel
theorem dX6_passes_35 : decode cX6_passes 35 = .ok (.getfield 117, 3) := by decide +kernel
theorem dX6_passes_38 : decode cX6_passes 38 = .ok (.i2l, 1) := by decide +kernel
theorem dX6_passes_39 : decode cX6_passes 39 = .ok (.ladd, 1) := by decide +kernel
theorem dX6_passes_40 : decode cX6_passes 40 = .ok (.putfield 150, 3) := by decide +kernel
theorem dX6_passes_43 : decode cX6_passes 43 = .ok (.aload_n 0, 1) := by decide +kernel
theorem dX6_passes_44 : decode cX6_passes 44 = .ok (.dup, 1) := by decide +kernel
theorem dX6_passes_45 : decode cX6_passes 45 = .ok (.getfield 153, 3) := by decide +kernel
theorem dX6_passes_48 : decode cX6_passes 48 = .ok (.aload_n 0, 1) := by decide +kernel
theorem dX6_passes_49 : decode cX6_passes 49 = .ok (.getfield 133, 3) := by decide +kernel
theorem dX6_passes_52 : decode cX6_passes 52 = .ok (.i2l, 1) := by decide +kernel
theorem dX6_passes_53 : decode cX6_passes 53 = .ok (.ladd, 1) := by decide +kernel
theorem dX6_passes_54 : decode cX6_passes 54 = .ok (.putfield 153, 3) := by decide +kernel
theorem dX6_passes_57 : decode cX6_passes 57 = .ok (.aload_n 0, 1) := by decide +kernel
theorem dX6_passes_58 : decode cX6_passes 58 = .ok (.dup, 1) := by decide +kernel
theorem dX6_passes_59 : decode cX6_passes 59 = .ok (.getfield 156, 3) := by decide +kernel
theorem dX6_passes_62 : decode cX6_passes 62 = .ok (.aload_n 0, 1) := by decide +kernel
theorem dX6_passes_63 : decode cX6_passes 63 = .ok (.getfield 123, 3) := by decide +kernel
theorem dX6_passes_66 : decode cX6_passes 66 = .ok (.i2l, 1) := by decide +kernel
theorem dX6_passes_67 : decode cX6_passes 67 = .ok (.ladd, 1) := by decide +kernel
theorem dX6_passes_68 : decode cX6_passes 68 = .ok (.putfield 156, 3) := by decide +kernel
theorem dX6_passes_71 : decode cX6_passes 71 = .ok (.aload_n 0, 1) := by decide +kernel
theorem dX6_passes_72 : decode cX6_passes 72 = .ok (.dup, 1) := by decide +kernel
theorem dX6_passes_73 : decode cX6_passes 73 = .ok (.getfield 159, 3) := by decide +kernel
theorem dX6_passes_76 : decode cX6_passes 76 = .ok (.aload_n 0, 1) := by decide +kernel
theorem dX6_passes_77 : decode cX6_passes 77 = .ok (.getfield 120, 3) := by decide +kernel
theorem dX6_passes_80 : decode cX6_passes 80 = .ok (.aload_n 0, 1) := by decide +kernel
theorem dX6_passes_81 : decode cX6_passes 81 = .ok (.getfield 31, 3) := by decide +kernel
theorem dX6_passes_84 : decode cX6_passes 84 = .ok (.iload_n 2, 1) := by decide +kernel
theorem dX6_passes_85 : decode cX6_passes 85 = .ok (.iaload, 1) := by decide +kernel
theorem dX6_passes_86 : decode cX6_passes 86 = .ok (.imul, 1) := by decide +kernel
theorem dX6_passes_87 : decode cX6_passes 87 = .ok (.i2l, 1) := by decide +kernel
theorem dX6_passes_88 : decode cX6_passes 88 = .ok (.ladd, 1) := by decide +kernel
theorem dX6_passes_89 : decode cX6_passes 89 = .ok (.putfield 159, 3) := by decide +kernel
theorem dX6_passes_92 : decode cX6_passes 92 = .ok (.iconst 0, 1) := by decide +kernel
theorem dX6_passes_93 : decode cX6_passes 93 = .ok (.istore_n 3, 1) := by decide +kernel
theorem dX6_passes_94 : decode cX6_passes 94 = .ok (.iload_n 3, 1) := by decide +kernel
theorem dX6_passes_95 : decode cX6_passes 95 = .ok (.aload_n 0, 1) := by decide +kernel
theorem dX6_passes_96 : decode cX6_passes 96 = .ok (.getfield 64, 3) := by decide +kernel
theorem dX6_passes_99 : decode cX6_passes 99 = .ok (.if_icmp .ge 45, 3) := by decide +kernel
theorem dX6_passes_102 : decode cX6_passes 102 = .ok (.aload_n 0, 1) := by decide +kernel
theorem dX6_passes_103 : decode cX6_passes 103 = .ok (.getfield 28, 3) := by decide +kernel
theorem dX6_passes_106 : decode cX6_passes 106 = .ok (.iload_n 3, 1) := by decide +kernel
theorem dX6_passes_107 : decode cX6_passes 107 = .ok (.dup2, 1) := by decide +kernel
theorem dX6_passes_108 : decode cX6_passes 108 = .ok (.iaload, 1) := by decide +kernel
theorem dX6_passes_109 : decode cX6_passes 109 = .ok (.aload_n 0, 1) := by decide +kernel
theorem dX6_passes_110 : decode cX6_passes 110 = .ok (.getfield 51, 3) := by decide +kernel
theorem dX6_passes_113 : decode cX6_passes 113 = .ok (.iload_n 3, 1) := by decide +kernel
theorem dX6_passes_114 : decode cX6_passes 114 = .ok (.iaload, 1) := by decide +kernel
theorem dX6_passes_115 : decode cX6_passes 115 = .ok (.iadd, 1) := by decide +kernel
theorem dX6_passes_116 : decode cX6_passes 116 = .ok (.iastore, 1) := by decide +kernel
theorem dX6_passes_117 : decode cX6_passes 117 = .ok (.aload_n 0, 1) := by decide +kernel
theorem dX6_passes_118 : decode cX6_passes 118 = .ok (.dup, 1) := by decide +kernel
theorem dX6_passes_119 : decode cX6_passes 119 = .ok (.getfield 162, 3) := by decide +kernel
theorem dX6_passes_122 : decode cX6_passes 122 = .ok (.aload_n 0, 1) := by decide +kernel
theorem dX6_passes_123 : decode cX6_passes 123 = .ok (.getfield 25, 3) := by decide +kernel
theorem dX6_passes_126 : decode cX6_passes 126 = .ok (.bipush 48, 2) := by decide +kernel
theorem dX6_passes_128 : decode cX6_passes 128 = .ok (.iload_n 3, 1) := by decide +kernel
theorem dX6_passes_129 : decode cX6_passes 129 = .ok (.imul, 1) := by decide +kernel
theorem dX6_passes_130 : decode cX6_passes 130 = .ok (.iload_n 2, 1) := by decide +kernel
theorem dX6_passes_131 : decode cX6_passes 131 = .ok (.iadd, 1) := by decide +kernel
theorem dX6_passes_132 : decode cX6_passes 132 = .ok (.iaload, 1) := by decide +kernel
theorem dX6_passes_133 : decode cX6_passes 133 = .ok (.i2l, 1) := by decide +kernel
theorem dX6_passes_134 : decode cX6_passes 134 = .ok (.ladd, 1) := by decide +kernel
theorem dX6_passes_135 : decode cX6_passes 135 = .ok (.putfield 162, 3) := by decide +kernel
theorem dX6_passes_138 : decode cX6_passes 138 = .ok (.iinc 3 1, 3) := by decide +kernel
theorem dX6_passes_141 : decode cX6_passes 141 = .ok (.goto (-47), 3) := by decide +kernel
theorem dX6_passes_144 : decode cX6_passes 144 = .ok (.aload_n 0, 1) := by decide +kernel
theorem dX6_passes_145 : decode cX6_passes 145 = .ok (.aload_n 0, 1) := by decide +kernel
theorem dX6_passes_146 : decode cX6_passes 146 = .ok (.getfield 139, 3) := by decide +kernel
theorem dX6_passes_149 : decode cX6_passes 149 = .ok (.invokevirtual 165, 3) := by decide +kernel
theorem dX6_passes_152 : decode cX6_passes 152 = .ok (.iconst (-1), 1) := by decide +kernel
theorem dX6_passes_153 : decode cX6_passes 153 = .ok (.if_icmp .eq 15, 3) := by decide +kernel
theorem dX6_passes_156 : decode cX6_passes 156 = .ok (.aload_n 0, 1) := by decide +kernel
theorem dX6_passes_157 : decode cX6_passes 157 = .ok (.aload_n 0, 1) := by decide +kernel
theorem dX6_passes_158 : decode cX6_passes 158 = .ok (.aload_n 0, 1) := by decide +kernel
theorem dX6_passes_159 : decode cX6_passes 159 = .ok (.getfield 139, 3) := by decide +kernel
theorem dX6_passes_162 : decode cX6_passes 162 = .ok (.invokevirtual 165, 3) := by decide +kernel
theorem dX6_passes_165 : decode cX6_passes 165 = .ok (.invokevirtual 168, 3) := by decide +kernel
theorem dX6_passes_168 : decode cX6_passes 168 = .ok (.aload_n 0, 1) := by decide +kernel
theorem dX6_passes_169 : decode cX6_passes 169 = .ok (.dup, 1) := by decide +kernel
theorem dX6_passes_170 : decode cX6_passes 170 = .ok (.getfield 139, 3) := by decide +kernel
theorem dX6_passes_173 : decode cX6_passes 173 = .ok (.iconst 1, 1) := by decide +kernel
theorem dX6_passes_174 : decode cX6_passes 174 = .ok (.iadd, 1) := by decide +kernel
theorem dX6_passes_175 : decode cX6_passes 175 = .ok (.putfield 139, 3) := by decide +kernel
theorem dX6_passes_178 : decode cX6_passes 178 = .ok (.return_, 1) := by decide +kernel
theorem dX6_pass_0 : decode cX6_pass 0 = .ok (.aload_n 0, 1) := by decide +kernel
theorem dX6_pass_1 : decode cX6_pass 1 = .ok (.iconst 0, 1) := by decide +kernel
theorem dX6_pass_2 : decode cX6_pass 2 = .ok (.putfield 54, 3) := by decide +kernel
theorem dX6_pass_5 : decode cX6_pass 5 = .ok (.aload_n 0, 1) := by decide +kernel
theorem dX6_pass_6 : decode cX6_pass 6 = .ok (.iload_n 1, 1) := by decide +kernel
theorem dX6_pass_7 : decode cX6_pass 7 = .ok (.invokevirtual 171, 3) := by decide +kernel
theorem dX6_pass_10 : decode cX6_pass 10 = .ok (.aload_n 0, 1) := by decide +kernel
theorem dX6_pass_11 : decode cX6_pass 11 = .ok (.getfield 114, 3) := by decide +kernel
theorem dX6_pass_14 : decode cX6_pass 14 = .ok (.ireturn, 1) := by decide +kernel
theorem dX6_run_0 : decode cX6_run 0 = .ok (.aload_n 0, 1) := by decide +kernel
theorem dX6_run_1 : decode cX6_run 1 = .ok (.iload_n 1, 1) := by decide +kernel
theorem dX6_run_2 : decode cX6_run 2 = .ok (.i2l, 1) := by decide +kernel
theorem dX6_run_3 : decode cX6_run 3 = .ok (.lconst 1, 1) := by decide +kernel
theorem dX6_run_4 : decode cX6_run 4 = .ok (.ldc2_w 175, 3) := by decide +kernel
theorem dX6_run_7 : decode cX6_run 7 = .ok (.invokestatic 60, 3) := by decide +kernel
theorem dX6_run_10 : decode cX6_run 10 = .ok (.ifCond .eq 7, 3) := by decide +kernel
theorem dX6_run_13 : decode cX6_run 13 = .ok (.iconst 0, 1) := by decide +kernel
theorem dX6_run_14 : decode cX6_run 14 = .ok (.goto 4, 3) := by decide +kernel
theorem dX6_run_17 : decode cX6_run 17 = .ok (.iconst 1, 1) := by decide +kernel
theorem dX6_run_18 : decode cX6_run 18 = .ok (.putfield 54, 3) := by decide +kernel
theorem dX6_run_21 : decode cX6_run 21 = .ok (.aload_n 0, 1) := by decide +kernel
theorem dX6_run_22 : decode cX6_run 22 = .ok (.getfield 54, 3) := by decide +kernel
theorem dX6_run_25 : decode cX6_run 25 = .ok (.ifCond .le 5, 3) := by decide +kernel
theorem dX6_run_28 : decode cX6_run 28 = .ok (.iconst (-1), 1) := by decide +kernel
theorem dX6_run_29 : decode cX6_run 29 = .ok (.ireturn, 1) := by decide +kernel
theorem dX6_run_30 : decode cX6_run 30 = .ok (.iconst 0, 1) := by decide +kernel
theorem dX6_run_31 : decode cX6_run 31 = .ok (.istore_n 2, 1) := by decide +kernel
theorem dX6_run_32 : decode cX6_run 32 = .ok (.iconst 0, 1) := by decide +kernel
theorem dX6_run_33 : decode cX6_run 33 = .ok (.istore_n 3, 1) := by decide +kernel
theorem dX6_run_34 : decode cX6_run 34 = .ok (.iload_n 3, 1) := by decide +kernel
theorem dX6_run_35 : decode cX6_run 35 = .ok (.iload_n 1, 1) := by decide +kernel
theorem dX6_run_36 : decode cX6_run 36 = .ok (.if_icmp .ge 98, 3) := by decide +kernel
theorem dX6_run_39 : decode cX6_run 39 = .ok (.aload_n 0, 1) := by decide +kernel
theorem dX6_run_40 : decode cX6_run 40 = .ok (.aload_n 0, 1) := by decide +kernel
theorem dX6_run_41 : decode cX6_run 41 = .ok (.getfield 139, 3) := by decide +kernel
theorem dX6_run_44 : decode cX6_run 44 = .ok (.invokevirtual 165, 3) := by decide +kernel
theorem dX6_run_47 : decode cX6_run 47 = .ok (.istore 4, 2) := by decide +kernel
theorem dX6_run_49 : decode cX6_run 49 = .ok (.iconst 1, 1) := by decide +kernel
theorem dX6_run_50 : decode cX6_run 50 = .ok (.istore 5, 2) := by decide +kernel
theorem dX6_run_52 : decode cX6_run 52 = .ok (.iload 4, 2) := by decide +kernel
theorem dX6_run_54 : decode cX6_run 54 = .ok (.iconst (-1), 1) := by decide +kernel
theorem dX6_run_55 : decode cX6_run 55 = .ok (.if_icmp .eq 15, 3) := by decide +kernel
theorem dX6_run_58 : decode cX6_run 58 = .ok (.aload_n 0, 1) := by decide +kernel
theorem dX6_run_59 : decode cX6_run 59 = .ok (.getfield 47, 3) := by decide +kernel
theorem dX6_run_62 : decode cX6_run 62 = .ok (.iload 4, 2) := by decide +kernel
theorem dX6_run_64 : decode cX6_run 64 = .ok (.baload, 1) := by decide +kernel
theorem dX6_run_65 : decode cX6_run 65 = .ok (.istore 5, 2) := by decide +kernel
theorem dX6_run_67 : decode cX6_run 67 = .ok (.goto 42, 3) := by decide +kernel
theorem dX6_run_70 : decode cX6_run 70 = .ok (.aload_n 0, 1) := by decide +kernel
theorem dX6_run_71 : decode cX6_run 71 = .ok (.aload_n 0, 1) := by decide +kernel
theorem dX6_run_72 : decode cX6_run 72 = .ok (.getfield 41, 3) := by decide +kernel
theorem dX6_run_75 : decode cX6_run 75 = .ok (.invokevirtual 177, 3) := by decide +kernel
theorem dX6_run_78 : decode cX6_run 78 = .ok (.aload_n 0, 1) := by decide +kernel
theorem dX6_run_79 : decode cX6_run 79 = .ok (.getfield 180, 3) := by decide +kernel
theorem dX6_run_82 : decode cX6_run 82 = .ok (.ifCond .eq 20, 3) := by decide +kernel
theorem dX6_run_85 : decode cX6_run 85 = .ok (.aload_n 0, 1) := by decide +kernel
theorem dX6_run_86 : decode cX6_run 86 = .ok (.getfield 183, 3) := by decide +kernel
theorem dX6_run_89 : decode cX6_run 89 = .ok (.aload_n 0, 1) := by decide +kernel
theorem dX6_run_90 : decode cX6_run 90 = .ok (.getfield 41, 3) := by decide +kernel
theorem dX6_run_93 : decode cX6_run 93 = .ok (.iconst 1, 1) := by decide +kernel
theorem dX6_run_94 : decode cX6_run 94 = .ok (.isub, 1) := by decide +kernel
theorem dX6_run_95 : decode cX6_run 95 = .ok (.ishr, 1) := by decide +kernel
theorem dX6_run_96 : decode cX6_run 96 = .ok (.iconst 1, 1) := by decide +kernel
theorem dX6_run_97 : decode cX6_run 97 = .ok (.iand, 1) := by decide +kernel
theorem dX6_run_98 : decode cX6_run 98 = .ok (.iconst 1, 1) := by decide +kernel
theorem dX6_run_99 : decode cX6_run 99 = .ok (.if_icmp .ne 7, 3) := by decide +kernel
theorem dX6_run_102 : decode cX6_run 102 = .ok (.iconst 1, 1) := by decide +kernel
theorem dX6_run_103 : decode cX6_run 103 = .ok (.goto 4, 3) := by decide +kernel
theorem dX6_run_106 : decode cX6_run 106 = .ok (.iconst 0, 1) := by decide +kernel
theorem dX6_run_107 : decode cX6_run 107 = .ok (.istore 5, 2) := by decide +kernel
theorem dX6_run_109 : decode cX6_run 109 = .ok (.iload_n 2, 1) := by decide +kernel
theorem dX6_run_110 : decode cX6_run 110 = .ok (.iload 5, 2) := by decide +kernel
theorem dX6_run_112 : decode cX6_run 112 = .ok (.ifCond .eq 7, 3) := by decide +kernel
theorem dX6_run_115 : decode cX6_run 115 = .ok (.iconst 1, 1) := by decide +kernel
theorem dX6_run_116 : decode cX6_run 116 = .ok (.goto 4, 3) := by decide +kernel
theorem dX6_run_119 : decode cX6_run 119 = .ok (.iconst 0, 1) := by decide +kernel
theorem dX6_run_120 : decode cX6_run 120 = .ok (.iadd, 1) := by decide +kernel
theorem dX6_run_121 : decode cX6_run 121 = .ok (.istore_n 2, 1) := by decide +kernel
theorem dX6_run_122 : decode cX6_run 122 = .ok (.aload_n 0, 1) := by decide +kernel
theorem dX6_run_123 : decode cX6_run 123 = .ok (.iload 5, 2) := by decide +kernel
theorem dX6_run_125 : decode cX6_run 125 = .ok (.invokevirtual 171, 3) := by decide +kernel
theorem dX6_run_128 : decode cX6_run 128 = .ok (.iinc 3 1, 3) := by decide +kernel
theorem dX6_run_131 : decode cX6_run 131 = .ok (.goto (-97), 3) := by decide +kernel
theorem dX6_run_134 : decode cX6_run 134 = .ok (.iload_n 2, 1) := by decide +kernel
theorem dX6_run_135 : decode cX6_run 135 = .ok (.ireturn, 1) := by decide +kernel
theorem dX6_setHorizon_0 : decode cX6_setHorizon 0 = .ok (.aload_n 0, 1) := by decide +kernel
theorem dX6_setHorizon_1 : decode cX6_setHorizon 1 = .ok (.iload_n 1, 1) := by decide +kernel
theorem dX6_setHorizon_2 : decode cX6_setHorizon 2 = .ok (.i2l, 1) := by decide +kernel
theorem dX6_setHorizon_3 : decode cX6_setHorizon 3 = .ok (.lconst 1, 1) := by decide +kernel
theorem dX6_setHorizon_4 : decode cX6_setHorizon 4 = .ok (.ldc2_w 186, 3) := by decide +kernel
theorem dX6_setHorizon_7 : decode cX6_setHorizon 7 = .ok (.invokestatic 60, 3) := by decide +kernel
theorem dX6_setHorizon_10 : decode cX6_setHorizon 10 = .ok (.ifCond .eq 7, 3) := by decide +kernel
theorem dX6_setHorizon_13 : decode cX6_setHorizon 13 = .ok (.iconst 0, 1) := by decide +kernel
theorem dX6_setHorizon_14 : decode cX6_setHorizon 14 = .ok (.goto 4, 3) := by decide +kernel
theorem dX6_setHorizon_17 : decode cX6_setHorizon 17 = .ok (.iconst 1, 1) := by decide +kernel
theorem dX6_setHorizon_18 : decode cX6_setHorizon 18 = .ok (.putfield 54, 3) := by decide +kernel
theorem dX6_setHorizon_21 : decode cX6_setHorizon 21 = .ok (.aload_n 0, 1) := by decide +kernel
theorem dX6_setHorizon_22 : decode cX6_setHorizon 22 = .ok (.getfield 41, 3) := by decide +kernel
theorem dX6_setHorizon_25 : decode cX6_setHorizon 25 = .ok (.istore_n 2, 1) := by decide +kernel
theorem dX6_setHorizon_26 : decode cX6_setHorizon 26 = .ok (.aload_n 0, 1) := by decide +kernel
theorem dX6_setHorizon_27 : decode cX6_setHorizon 27 = .ok (.aload_n 0, 1) := by decide +kernel
theorem dX6_setHorizon_28 : decode cX6_setHorizon 28 = .ok (.getfield 54, 3) := by decide +kernel
theorem dX6_setHorizon_31 : decode cX6_setHorizon 31 = .ok (.ifCond .ne 7, 3) := by decide +kernel
theorem dX6_setHorizon_34 : decode cX6_setHorizon 34 = .ok (.iload_n 1, 1) := by decide +kernel
theorem dX6_setHorizon_35 : decode cX6_setHorizon 35 = .ok (.goto 4, 3) := by decide +kernel
theorem dX6_setHorizon_38 : decode cX6_setHorizon 38 = .ok (.iload_n 2, 1) := by decide +kernel
theorem dX6_setHorizon_39 : decode cX6_setHorizon 39 = .ok (.putfield 41, 3) := by decide +kernel
theorem dX6_setHorizon_42 : decode cX6_setHorizon 42 = .ok (.aload_n 0, 1) := by decide +kernel
theorem dX6_setHorizon_43 : decode cX6_setHorizon 43 = .ok (.getfield 54, 3) := by decide +kernel
theorem dX6_setHorizon_46 : decode cX6_setHorizon 46 = .ok (.ifCond .ne 7, 3) := by decide +kernel
theorem dX6_setHorizon_49 : decode cX6_setHorizon 49 = .ok (.iload_n 2, 1) := by decide +kernel
theorem dX6_setHorizon_50 : decode cX6_setHorizon 50 = .ok (.goto 4, 3) := by decide +kernel
theorem dX6_setHorizon_53 : decode cX6_setHorizon 53 = .ok (.iconst (-1), 1) := by decide +kernel
theorem dX6_setHorizon_54 : decode cX6_setHorizon 54 = .ok (.ireturn, 1) := by decide +kernel
theorem dX6_order_0 : decode cX6_order 0 = .ok (.aload_n 0, 1) := by decide +kernel
theorem dX6_order_1 : decode cX6_order 1 = .ok (.iload_n 1, 1) := by decide +kernel
theorem dX6_order_2 : decode cX6_order 2 = .ok (.invokevirtual 165, 3) := by decide +kernel
theorem dX6_order_5 : decode cX6_order 5 = .ok (.istore_n 3, 1) := by decide +kernel
theorem dX6_order_6 : decode cX6_order 6 = .ok (.aload_n 0, 1) := by decide +kernel
theorem dX6_order_7 : decode cX6_order 7 = .ok (.iload_n 1, 1) := by decide +kernel
theorem dX6_order_8 : decode cX6_order 8 = .ok (.aload_n 0, 1) := by decide +kernel
theorem dX6_order_9 : decode cX6_order 9 = .ok (.getfield 139, 3) := by decide +kernel
theorem dX6_order_12 : decode cX6_order 12 = .ok (.if_icmp .ge 7, 3) := by decide +kernel
theorem dX6_order_15 : decode cX6_order 15 = .ok (.iconst 1, 1) := by decide +kernel
theorem dX6_order_16 : decode cX6_order 16 = .ok (.goto 22, 3) := by decide +kernel
theorem dX6_order_19 : decode cX6_order 19 = .ok (.iload_n 3, 1) := by decide +kernel
theorem dX6_order_20 : decode cX6_order 20 = .ok (.iconst (-1), 1) := by decide +kernel
theorem dX6_order_21 : decode cX6_order 21 = .ok (.if_icmp .ne 16, 3) := by decide +kernel
theorem dX6_order_24 : decode cX6_order 24 = .ok (.aload_n 0, 1) := by decide +kernel
theorem dX6_order_25 : decode cX6_order 25 = .ok (.getfield 136, 3) := by decide +kernel
theorem dX6_order_28 : decode cX6_order 28 = .ok (.bipush 6, 2) := by decide +kernel
theorem dX6_order_30 : decode cX6_order 30 = .ok (.if_icmp .ne 7, 3) := by decide +kernel
theorem dX6_order_33 : decode cX6_order 33 = .ok (.iconst 2, 1) := by decide +kernel
theorem dX6_order_34 : decode cX6_order 34 = .ok (.goto 4, 3) := by decide +kernel
theorem dX6_order_37 : decode cX6_order 37 = .ok (.iconst 0, 1) := by decide +kernel
theorem dX6_order_38 : decode cX6_order 38 = .ok (.putfield 54, 3) := by decide +kernel
theorem dX6_order_41 : decode cX6_order 41 = .ok (.aload_n 0, 1) := by decide +kernel
theorem dX6_order_42 : decode cX6_order 42 = .ok (.getfield 54, 3) := by decide +kernel
theorem dX6_order_45 : decode cX6_order 45 = .ok (.ifCond .le 5, 3) := by decide +kernel
theorem dX6_order_48 : decode cX6_order 48 = .ok (.iconst (-1), 1) := by decide +kernel
theorem dX6_order_49 : decode cX6_order 49 = .ok (.ireturn, 1) := by decide +kernel
theorem dX6_order_50 : decode cX6_order 50 = .ok (.iload_n 3, 1) := by decide +kernel
theorem dX6_order_51 : decode cX6_order 51 = .ok (.iconst (-1), 1) := by decide +kernel
theorem dX6_order_52 : decode cX6_order 52 = .ok (.if_icmp .ne 25, 3) := by decide +kernel
theorem dX6_order_55 : decode cX6_order 55 = .ok (.aload_n 0, 1) := by decide +kernel
theorem dX6_order_56 : decode cX6_order 56 = .ok (.getfield 136, 3) := by decide +kernel
theorem dX6_order_59 : decode cX6_order 59 = .ok (.istore_n 3, 1) := by decide +kernel
theorem dX6_order_60 : decode cX6_order 60 = .ok (.aload_n 0, 1) := by decide +kernel
theorem dX6_order_61 : decode cX6_order 61 = .ok (.getfield 44, 3) := by decide +kernel
theorem dX6_order_64 : decode cX6_order 64 = .ok (.iload_n 3, 1) := by decide +kernel
theorem dX6_order_65 : decode cX6_order 65 = .ok (.iload_n 1, 1) := by decide +kernel
theorem dX6_order_66 : decode cX6_order 66 = .ok (.iastore, 1) := by decide +kernel
theorem dX6_order_67 : decode cX6_order 67 = .ok (.aload_n 0, 1) := by decide +kernel
theorem dX6_order_68 : decode cX6_order 68 = .ok (.dup, 1) := by decide +kernel
theorem dX6_order_69 : decode cX6_order 69 = .ok (.getfield 136, 3) := by decide +kernel
theorem dX6_order_72 : decode cX6_order 72 = .ok (.iconst 1, 1) := by decide +kernel
theorem dX6_order_73 : decode cX6_order 73 = .ok (.iadd, 1) := by decide +kernel
theorem dX6_order_74 : decode cX6_order 74 = .ok (.putfield 136, 3) := by decide +kernel
theorem dX6_order_77 : decode cX6_order 77 = .ok (.aload_n 0, 1) := by decide +kernel
theorem dX6_order_78 : decode cX6_order 78 = .ok (.getfield 47, 3) := by decide +kernel
theorem dX6_order_81 : decode cX6_order 81 = .ok (.iload_n 3, 1) := by decide +kernel
theorem dX6_order_82 : decode cX6_order 82 = .ok (.iload_n 2, 1) := by decide +kernel
theorem dX6_order_83 : decode cX6_order 83 = .ok (.bastore, 1) := by decide +kernel
theorem dX6_order_84 : decode cX6_order 84 = .ok (.aload_n 0, 1) := by decide +kernel
theorem dX6_order_85 : decode cX6_order 85 = .ok (.getfield 136, 3) := by decide +kernel
theorem dX6_order_88 : decode cX6_order 88 = .ok (.ireturn, 1) := by decide +kernel
theorem dX6_takeBack_0 : decode cX6_takeBack 0 = .ok (.aload_n 0, 1) := by decide +kernel
theorem dX6_takeBack_1 : decode cX6_takeBack 1 = .ok (.iload_n 1, 1) := by decide +kernel
theorem dX6_takeBack_2 : decode cX6_takeBack 2 = .ok (.invokevirtual 165, 3) := by decide +kernel
theorem dX6_takeBack_5 : decode cX6_takeBack 5 = .ok (.istore_n 2, 1) := by decide +kernel
theorem dX6_takeBack_6 : decode cX6_takeBack 6 = .ok (.aload_n 0, 1) := by decide +kernel
theorem dX6_takeBack_7 : decode cX6_takeBack 7 = .ok (.iload_n 2, 1) := by decide +kernel
theorem dX6_takeBack_8 : decode cX6_takeBack 8 = .ok (.iconst (-1), 1) := by decide +kernel
theorem dX6_takeBack_9 : decode cX6_takeBack 9 = .ok (.if_icmp .ne 7, 3) := by decide +kernel
theorem dX6_takeBack_12 : decode cX6_takeBack 12 = .ok (.iconst 1, 1) := by decide +kernel
theorem dX6_takeBack_13 : decode cX6_takeBack 13 = .ok (.goto 4, 3) := by decide +kernel
theorem dX6_takeBack_16 : decode cX6_takeBack 16 = .ok (.iconst 0, 1) := by decide +kernel
theorem dX6_takeBack_17 : decode cX6_takeBack 17 = .ok (.putfield 54, 3) := by decide +kernel
theorem dX6_takeBack_20 : decode cX6_takeBack 20 = .ok (.aload_n 0, 1) := by decide +kernel
theorem dX6_takeBack_21 : decode cX6_takeBack 21 = .ok (.getfield 54, 3) := by decide +kernel
theorem dX6_takeBack_24 : decode cX6_takeBack 24 = .ok (.ifCond .ne 16, 3) := by decide +kernel
theorem dX6_takeBack_27 : decode cX6_takeBack 27 = .ok (.aload_n 0, 1) := by decide +kernel
theorem dX6_takeBack_28 : decode cX6_takeBack 28 = .ok (.getfield 47, 3) := by decide +kernel
theorem dX6_takeBack_31 : decode cX6_takeBack 31 = .ok (.iload_n 2, 1) := by decide +kernel
theorem dX6_takeBack_32 : decode cX6_takeBack 32 = .ok (.baload, 1) := by decide +kernel
theorem dX6_takeBack_33 : decode cX6_takeBack 33 = .ok (.ifCond .eq 7, 3) := by decide +kernel
theorem dX6_takeBack_36 : decode cX6_takeBack 36 = .ok (.iconst 1, 1) := by decide +kernel
theorem dX6_takeBack_37 : decode cX6_takeBack 37 = .ok (.goto 4, 3) := by decide +kernel
theorem dX6_takeBack_40 : decode cX6_takeBack 40 = .ok (.iconst 0, 1) := by decide +kernel
theorem dX6_takeBack_41 : decode cX6_takeBack 41 = .ok (.istore_n 3, 1) := by decide +kernel
theorem dX6_takeBack_42 : decode cX6_takeBack 42 = .ok (.aload_n 0, 1) := by decide +kernel
theorem dX6_takeBack_43 : decode cX6_takeBack 43 = .ok (.getfield 54, 3) := by decide +kernel
theorem dX6_takeBack_46 : decode cX6_takeBack 46 = .ok (.ifCond .ne 8, 3) := by decide +kernel
theorem dX6_takeBack_49 : decode cX6_takeBack 49 = .ok (.aload_n 0, 1) := by decide +kernel
theorem dX6_takeBack_50 : decode cX6_takeBack 50 = .ok (.iload_n 2, 1) := by decide +kernel
theorem dX6_takeBack_51 : decode cX6_takeBack 51 = .ok (.invokevirtual 168, 3) := by decide +kernel
theorem dX6_takeBack_54 : decode cX6_takeBack 54 = .ok (.iload_n 3, 1) := by decide +kernel
theorem dX6_takeBack_55 : decode cX6_takeBack 55 = .ok (.ireturn, 1) := by decide +kernel
theorem dX6_halfHour_0 : decode cX6_halfHour 0 = .ok (.aload_n 0, 1) := by decide +kernel
theorem dX6_halfHour_1 : decode cX6_halfHour 1 = .ok (.iconst 0, 1) := by decide +kernel
theorem dX6_halfHour_2 : decode cX6_halfHour 2 = .ok (.putfield 54, 3) := by decide +kernel
theorem dX6_halfHour_5 : decode cX6_halfHour 5 = .ok (.aload_n 0, 1) := by decide +kernel
theorem dX6_halfHour_6 : decode cX6_halfHour 6 = .ok (.getfield 139, 3) := by decide +kernel
theorem dX6_halfHour_9 : decode cX6_halfHour 9 = .ok (.ireturn, 1) := by decide +kernel
theorem dX6_isAllowed_0 : decode cX6_isAllowed 0 = .ok (.aload_n 0, 1) := by decide +kernel
theorem dX6_isAllowed_1 : decode cX6_isAllowed 1 = .ok (.iconst 0, 1) := by decide +kernel
theorem dX6_isAllowed_2 : decode cX6_isAllowed 2 = .ok (.putfield 188, 3) := by decide +kernel
theorem dX6_isAllowed_5 : decode cX6_isAllowed 5 = .ok (.iconst 1, 1) := by decide +kernel
theorem dX6_isAllowed_6 : decode cX6_isAllowed 6 = .ok (.istore_n 3, 1) := by decide +kernel
theorem dX6_isAllowed_7 : decode cX6_isAllowed 7 = .ok (.iconst 0, 1) := by decide +kernel
theorem dX6_isAllowed_8 : decode cX6_isAllowed 8 = .ok (.istore 4, 2) := by decide +kernel
theorem dX6_isAllowed_10 : decode cX6_isAllowed 10 = .ok (.iload 4, 2) := by decide +kernel
theorem dX6_isAllowed_12 : decode cX6_isAllowed 12 = .ok (.iload_n 2, 1) := by decide +kernel
theorem dX6_isAllowed_13 : decode cX6_isAllowed 13 = .ok (.if_icmp .ge 125, 3) := by decide +kernel
theorem dX6_isAllowed_16 : decode cX6_isAllowed 16 = .ok (.iload_n 3, 1) := by decide +kernel
theorem dX6_isAllowed_17 : decode cX6_isAllowed 17 = .ok (.ifCond .eq 121, 3) := by decide +kernel
theorem dX6_isAllowed_20 : decode cX6_isAllowed 20 = .ok (.iload_n 1, 1) := by decide +kernel
theorem dX6_isAllowed_21 : decode cX6_isAllowed 21 = .ok (.iload_n 2, 1) := by decide +kernel
theorem dX6_isAllowed_22 : decode cX6_isAllowed 22 = .ok (.iconst 1, 1) := by decide +kernel
theorem dX6_isAllowed_23 : decode cX6_isAllowed 23 = .ok (.isub, 1) := by decide +kernel
theorem dX6_isAllowed_24 : decode cX6_isAllowed 24 = .ok (.iload 4, 2) := by decide +kernel
theorem dX6_isAllowed_26 : decode cX6_isAllowed 26 = .ok (.isub, 1) := by decide +kernel
theorem dX6_isAllowed_27 : decode cX6_isAllowed 27 = .ok (.ishr, 1) := by decide +kernel
theorem dX6_isAllowed_28 : decode cX6_isAllowed 28 = .ok (.iconst 1, 1) := by decide +kernel
theorem dX6_isAllowed_29 : decode cX6_isAllowed 29 = .ok (.iand, 1) := by decide +kernel
theorem dX6_isAllowed_30 : decode cX6_isAllowed 30 = .ok (.iconst 1, 1) := by decide +kernel
theorem dX6_isAllowed_31 : decode cX6_isAllowed 31 = .ok (.if_icmp .ne 7, 3) := by decide +kernel
theorem dX6_isAllowed_34 : decode cX6_isAllowed 34 = .ok (.iconst 1, 1) := by decide +kernel
theorem dX6_isAllowed_35 : decode cX6_isAllowed 35 = .ok (.goto 4, 3) := by decide +kernel
theorem dX6_isAllowed_38 : decode cX6_isAllowed 38 = .ok (.iconst 0, 1) := by decide +kernel
theorem dX6_isAllowed_39 : decode cX6_isAllowed 39 = .ok (.istore 5, 2) := by decide +kernel
theorem dX6_isAllowed_41 : decode cX6_isAllowed 41 = .ok (.aload_n 0, 1) := by decide +kernel
theorem dX6_isAllowed_42 : decode cX6_isAllowed 42 = .ok (.aload_n 0, 1) := by decide +kernel
theorem dX6_isAllowed_43 : decode cX6_isAllowed 43 = .ok (.getfield 139, 3) := by decide +kernel
theorem dX6_isAllowed_46 : decode cX6_isAllowed 46 = .ok (.iload 4, 2) := by decide +kernel
theorem dX6_isAllowed_48 : decode cX6_isAllowed 48 = .ok (.iadd, 1) := by decide +kernel
theorem dX6_isAllowed_49 : decode cX6_isAllowed 49 = .ok (.invokevirtual 165, 3) := by decide +kernel
theorem dX6_isAllowed_52 : decode cX6_isAllowed 52 = .ok (.istore 6, 2) := by decide +kernel
theorem dX6_isAllowed_54 : decode cX6_isAllowed 54 = .ok (.aload_n 0, 1) := by decide +kernel
theorem dX6_isAllowed_55 : decode cX6_isAllowed 55 = .ok (.getfield 139, 3) := by decide +kernel
theorem dX6_isAllowed_58 : decode cX6_isAllowed 58 = .ok (.iload 4, 2) := by decide +kernel
theorem dX6_isAllowed_60 : decode cX6_isAllowed 60 = .ok (.iadd, 1) := by decide +kernel
theorem dX6_isAllowed_61 : decode cX6_isAllowed 61 = .ok (.bipush 48, 2) := by decide +kernel
theorem dX6_isAllowed_63 : decode cX6_isAllowed 63 = .ok (.irem, 1) := by decide +kernel
theorem dX6_isAllowed_64 : decode cX6_isAllowed 64 = .ok (.istore 7, 2) := by decide +kernel
theorem dX6_isAllowed_66 : decode cX6_isAllowed 66 = .ok (.iload 6, 2) := by decide +kernel
theorem dX6_isAllowed_68 : decode cX6_isAllowed 68 = .ok (.iconst (-1), 1) := by decide +kernel
theorem dX6_isAllowed_69 : decode cX6_isAllowed 69 = .ok (.if_icmp .eq 15, 3) := by decide +kernel
theorem dX6_isAllowed_72 : decode cX6_isAllowed 72 = .ok (.aload_n 0, 1) := by decide +kernel
theorem dX6_isAllowed_73 : decode cX6_isAllowed 73 = .ok (.getfield 47, 3) := by decide +kernel
theorem dX6_isAllowed_76 : decode cX6_isAllowed 76 = .ok (.iload 6, 2) := by decide +kernel
theorem dX6_isAllowed_78 : decode cX6_isAllowed 78 = .ok (.baload, 1) := by decide +kernel
theorem dX6_isAllowed_79 : decode cX6_isAllowed 79 = .ok (.iload 5, 2) := by decide +kernel
theorem dX6_isAllowed_81 : decode cX6_isAllowed 81 = .ok (.if_icmp .ne 7, 3) := by decide +kernel
theorem dX6_isAllowed_84 : decode cX6_isAllowed 84 = .ok (.iconst 1, 1) := by decide +kernel
theorem dX6_isAllowed_85 : decode cX6_isAllowed 85 = .ok (.goto 4, 3) := by decide +kernel
theorem dX6_isAllowed_88 : decode cX6_isAllowed 88 = .ok (.iconst 0, 1) := by decide +kernel
theorem dX6_isAllowed_89 : decode cX6_isAllowed 89 = .ok (.istore_n 3, 1) := by decide +kernel
theorem dX6_isAllowed_90 : decode cX6_isAllowed 90 = .ok (.iload_n 3, 1) := by decide +kernel
theorem dX6_isAllowed_91 : decode cX6_isAllowed 91 = .ok (.ifCond .eq 18, 3) := by decide +kernel
theorem dX6_isAllowed_94 : decode cX6_isAllowed 94 = .ok (.aload_n 0, 1) := by decide +kernel
theorem dX6_isAllowed_95 : decode cX6_isAllowed 95 = .ok (.iload 7, 2) := by decide +kernel
theorem dX6_isAllowed_97 : decode cX6_isAllowed 97 = .ok (.iload 5, 2) := by decide +kernel
theorem dX6_isAllowed_99 : decode cX6_isAllowed 99 = .ok (.invokevirtual 142, 3) := by decide +kernel
theorem dX6_isAllowed_102 : decode cX6_isAllowed 102 = .ok (.ifCond .eq 7, 3) := by decide +kernel
theorem dX6_isAllowed_105 : decode cX6_isAllowed 105 = .ok (.iconst 1, 1) := by decide +kernel
theorem dX6_isAllowed_106 : decode cX6_isAllowed 106 = .ok (.goto 4, 3) := by decide +kernel
theorem dX6_isAllowed_109 : decode cX6_isAllowed 109 = .ok (.iconst 0, 1) := by decide +kernel
theorem dX6_isAllowed_110 : decode cX6_isAllowed 110 = .ok (.istore_n 3, 1) := by decide +kernel
theorem dX6_isAllowed_111 : decode cX6_isAllowed 111 = .ok (.aload_n 0, 1) := by decide +kernel
theorem dX6_isAllowed_112 : decode cX6_isAllowed 112 = .ok (.dup, 1) := by decide +kernel
theorem dX6_isAllowed_113 : decode cX6_isAllowed 113 = .ok (.getfield 188, 3) := by decide +kernel
theorem dX6_isAllowed_116 : decode cX6_isAllowed 116 = .ok (.aload_n 0, 1) := by decide +kernel
theorem dX6_isAllowed_117 : decode cX6_isAllowed 117 = .ok (.getfield 120, 3) := by decide +kernel
theorem dX6_isAllowed_120 : decode cX6_isAllowed 120 = .ok (.aload_n 0, 1) := by decide +kernel
theorem dX6_isAllowed_121 : decode cX6_isAllowed 121 = .ok (.getfield 31, 3) := by decide +kernel
theorem dX6_isAllowed_124 : decode cX6_isAllowed 124 = .ok (.iload 7, 2) := by decide +kernel
theorem dX6_isAllowed_126 : decode cX6_isAllowed 126 = .ok (.iaload, 1) := by decide +kernel
theorem dX6_isAllowed_127 : decode cX6_isAllowed 127 = .ok (.imul, 1) := by decide +kernel
theorem dX6_isAllowed_128 : decode cX6_isAllowed 128 = .ok (.iadd, 1) := by decide +kernel
theorem dX6_isAllowed_129 : decode cX6_isAllowed 129 = .ok (.putfield 188, 3) := by decide +kernel
theorem dX6_isAllowed_132 : decode cX6_isAllowed 132 = .ok (.iinc 4 1, 3) := by decide +kernel
theorem dX6_isAllowed_135 : decode cX6_isAllowed 135 = .ok (.goto (-125), 3) := by decide +kernel
theorem dX6_isAllowed_138 : decode cX6_isAllowed 138 = .ok (.iload_n 3, 1) := by decide +kernel
theorem dX6_isAllowed_139 : decode cX6_isAllowed 139 = .ok (.ireturn, 1) := by decide +kernel
theorem dX6_laysBack_0 : decode cX6_laysBack 0 = .ok (.iconst 0, 1) := by decide +kernel
theorem dX6_laysBack_1 : decode cX6_laysBack 1 = .ok (.istore_n 3, 1) := by decide +kernel
theorem dX6_laysBack_2 : decode cX6_laysBack 2 = .ok (.iload_n 3, 1) := by decide +kernel
theorem dX6_laysBack_3 : decode cX6_laysBack 3 = .ok (.aload_n 1, 1) := by decide +kernel
theorem dX6_laysBack_4 : decode cX6_laysBack 4 = .ok (.arraylength, 1) := by decide +kernel
theorem dX6_laysBack_5 : decode cX6_laysBack 5 = .ok (.if_icmp .ge 15, 3) := by decide +kernel
theorem dX6_laysBack_8 : decode cX6_laysBack 8 = .ok (.aload_n 2, 1) := by decide +kernel
theorem dX6_laysBack_9 : decode cX6_laysBack 9 = .ok (.iload_n 3, 1) := by decide +kernel
theorem dX6_laysBack_10 : decode cX6_laysBack 10 = .ok (.aload_n 1, 1) := by decide +kernel
theorem dX6_laysBack_11 : decode cX6_laysBack 11 = .ok (.iload_n 3, 1) := by decide +kernel
theorem dX6_laysBack_12 : decode cX6_laysBack 12 = .ok (.iaload, 1) := by decide +kernel
theorem dX6_laysBack_13 : decode cX6_laysBack 13 = .ok (.iastore, 1) := by decide +kernel
theorem dX6_laysBack_14 : decode cX6_laysBack 14 = .ok (.iinc 3 1, 3) := by decide +kernel
theorem dX6_laysBack_17 : decode cX6_laysBack 17 = .ok (.goto (-15), 3) := by decide +kernel
theorem dX6_laysBack_20 : decode cX6_laysBack 20 = .ok (.return_, 1) := by decide +kernel
theorem dX6_looks_0 : decode cX6_looks 0 = .ok (.aload_n 0, 1) := by decide +kernel
theorem dX6_looks_1 : decode cX6_looks 1 = .ok (.iconst 0, 1) := by decide +kernel
theorem dX6_looks_2 : decode cX6_looks 2 = .ok (.putfield 180, 3) := by decide +kernel
theorem dX6_looks_5 : decode cX6_looks 5 = .ok (.aload_n 0, 1) := by decide +kernel
theorem dX6_looks_6 : decode cX6_looks 6 = .ok (.aload_n 0, 1) := by decide +kernel
theorem dX6_looks_7 : decode cX6_looks 7 = .ok (.getfield 9, 3) := by decide +kernel
theorem dX6_looks_10 : decode cX6_looks 10 = .ok (.aload_n 0, 1) := by decide +kernel
theorem dX6_looks_11 : decode cX6_looks 11 = .ok (.getfield 13, 3) := by decide +kernel
theorem dX6_looks_14 : decode cX6_looks 14 = .ok (.invokevirtual 191, 3) := by decide +kernel
theorem dX6_looks_17 : decode cX6_looks 17 = .ok (.iconst 0, 1) := by decide +kernel
theorem dX6_looks_18 : decode cX6_looks 18 = .ok (.istore_n 2, 1) := by decide +kernel
theorem dX6_looks_19 : decode cX6_looks 19 = .ok (.iload_n 2, 1) := by decide +kernel
theorem dX6_looks_20 : decode cX6_looks 20 = .ok (.iconst 1, 1) := by decide +kernel
theorem dX6_looks_21 : decode cX6_looks 21 = .ok (.iload_n 1, 1) := by decide +kernel
theorem dX6_looks_22 : decode cX6_looks 22 = .ok (.ishl, 1) := by decide +kernel
theorem dX6_looks_23 : decode cX6_looks 23 = .ok (.if_icmp .ge 81, 3) := by decide +kernel
theorem dX6_looks_26 : decode cX6_looks 26 = .ok (.aload_n 0, 1) := by decide +kernel
theorem dX6_looks_27 : decode cX6_looks 27 = .ok (.iload_n 2, 1) := by decide +kernel
theorem dX6_looks_28 : decode cX6_looks 28 = .ok (.iload_n 1, 1) := by decide +kernel
theorem dX6_looks_29 : decode cX6_looks 29 = .ok (.invokevirtual 195, 3) := by decide +kernel
theorem dX6_looks_32 : decode cX6_looks 32 = .ok (.istore_n 3, 1) := by decide +kernel
theorem dX6_looks_33 : decode cX6_looks 33 = .ok (.aload_n 0, 1) := by decide +kernel
theorem dX6_looks_34 : decode cX6_looks 34 = .ok (.aload_n 0, 1) := by decide +kernel
theorem dX6_looks_35 : decode cX6_looks 35 = .ok (.getfield 13, 3) := by decide +kernel
theorem dX6_looks_38 : decode cX6_looks 38 = .ok (.aload_n 0, 1) := by decide +kernel
theorem dX6_looks_39 : decode cX6_looks 39 = .ok (.getfield 9, 3) := by decide +kernel
theorem dX6_looks_42 : decode cX6_looks 42 = .ok (.invokevirtual 191, 3) := by decide +kernel
theorem dX6_looks_45 : decode cX6_looks 45 = .ok (.iload_n 3, 1) := by decide +kernel
theorem dX6_looks_46 : decode cX6_looks 46 = .ok (.ifCond .eq 34, 3) := by decide +kernel
theorem dX6_looks_49 : decode cX6_looks 49 = .ok (.aload_n 0, 1) := by decide +kernel
theorem dX6_looks_50 : decode cX6_looks 50 = .ok (.getfield 180, 3) := by decide +kernel
theorem dX6_looks_53 : decode cX6_looks 53 = .ok (.ifCond .eq 14, 3) := by decide +kernel
theorem dX6_looks_56 : decode cX6_looks 56 = .ok (.aload_n 0, 1) := by decide +kernel
theorem dX6_looks_57 : decode cX6_looks 57 = .ok (.getfield 188, 3) := by decide +kernel
theorem dX6_looks_60 : decode cX6_looks 60 = .ok (.aload_n 0, 1) := by decide +kernel
theorem dX6_looks_61 : decode cX6_looks 61 = .ok (.getfield 199, 3) := by decide +kernel
theorem dX6_looks_64 : decode cX6_looks 64 = .ok (.if_icmp .ge 16, 3) := by decide +kernel
theorem dX6_looks_67 : decode cX6_looks 67 = .ok (.aload_n 0, 1) := by decide +kernel
theorem dX6_looks_68 : decode cX6_looks 68 = .ok (.iload_n 2, 1) := by decide +kernel
theorem dX6_looks_69 : decode cX6_looks 69 = .ok (.putfield 183, 3) := by decide +kernel
theorem dX6_looks_72 : decode cX6_looks 72 = .ok (.aload_n 0, 1) := by decide +kernel
theorem dX6_looks_73 : decode cX6_looks 73 = .ok (.aload_n 0, 1) := by decide +kernel
theorem dX6_looks_74 : decode cX6_looks 74 = .ok (.getfield 188, 3) := by decide +kernel
theorem dX6_looks_77 : decode cX6_looks 77 = .ok (.putfield 199, 3) := by decide +kernel
theorem dX6_looks_80 : decode cX6_looks 80 = .ok (.aload_n 0, 1) := by decide +kernel
theorem dX6_looks_81 : decode cX6_looks 81 = .ok (.dup, 1) := by decide +kernel
theorem dX6_looks_82 : decode cX6_looks 82 = .ok (.getfield 180, 3) := by decide +kernel
theorem dX6_looks_85 : decode cX6_looks 85 = .ok (.iload_n 3, 1) := by decide +kernel
theorem dX6_looks_86 : decode cX6_looks 86 = .ok (.ifCond .eq 7, 3) := by decide +kernel
theorem dX6_looks_89 : decode cX6_looks 89 = .ok (.iconst 1, 1) := by decide +kernel
theorem dX6_looks_90 : decode cX6_looks 90 = .ok (.goto 4, 3) := by decide +kernel
theorem dX6_looks_93 : decode cX6_looks 93 = .ok (.iconst 0, 1) := by decide +kernel
theorem dX6_looks_94 : decode cX6_looks 94 = .ok (.iadd, 1) := by decide +kernel
theorem dX6_looks_95 : decode cX6_looks 95 = .ok (.putfield 180, 3) := by decide +kernel
theorem dX6_looks_98 : decode cX6_looks 98 = .ok (.iinc 2 1, 3) := by decide +kernel
theorem dX6_looks_101 : decode cX6_looks 101 = .ok (.goto (-82), 3) := by decide +kernel
theorem dX6_looks_104 : decode cX6_looks 104 = .ok (.return_, 1) := by decide +kernel
theorem dX6_bestCost_0 : decode cX6_bestCost 0 = .ok (.aload_n 0, 1) := by decide +kernel
theorem dX6_bestCost_1 : decode cX6_bestCost 1 = .ok (.iload_n 1, 1) := by decide +kernel
theorem dX6_bestCost_2 : decode cX6_bestCost 2 = .ok (.i2l, 1) := by decide +kernel
theorem dX6_bestCost_3 : decode cX6_bestCost 3 = .ok (.lconst 1, 1) := by decide +kernel
theorem dX6_bestCost_4 : decode cX6_bestCost 4 = .ok (.ldc2_w 186, 3) := by decide +kernel
theorem dX6_bestCost_7 : decode cX6_bestCost 7 = .ok (.invokestatic 60, 3) := by decide +kernel
theorem dX6_bestCost_10 : decode cX6_bestCost 10 = .ok (.ifCond .eq 7, 3) := by decide +kernel
theorem dX6_bestCost_13 : decode cX6_bestCost 13 = .ok (.iconst 0, 1) := by decide +kernel
theorem dX6_bestCost_14 : decode cX6_bestCost 14 = .ok (.goto 4, 3) := by decide +kernel
theorem dX6_bestCost_17 : decode cX6_bestCost 17 = .ok (.iconst 1, 1) := by decide +kernel
theorem dX6_bestCost_18 : decode cX6_bestCost 18 = .ok (.putfield 54, 3) := by decide +kernel
theorem dX6_bestCost_21 : decode cX6_bestCost 21 = .ok (.aload_n 0, 1) := by decide +kernel
theorem dX6_bestCost_22 : decode cX6_bestCost 22 = .ok (.getfield 54, 3) := by decide +kernel
theorem dX6_bestCost_25 : decode cX6_bestCost 25 = .ok (.ifCond .le 5, 3) := by decide +kernel
theorem dX6_bestCost_28 : decode cX6_bestCost 28 = .ok (.iconst (-1), 1) := by decide +kernel
theorem dX6_bestCost_29 : decode cX6_bestCost 29 = .ok (.ireturn, 1) := by decide +kernel
theorem dX6_bestCost_30 : decode cX6_bestCost 30 = .ok (.aload_n 0, 1) := by decide +kernel
theorem dX6_bestCost_31 : decode cX6_bestCost 31 = .ok (.iload_n 1, 1) := by decide +kernel
theorem dX6_bestCost_32 : decode cX6_bestCost 32 = .ok (.invokevirtual 177, 3) := by decide +kernel
theorem dX6_bestCost_35 : decode cX6_bestCost 35 = .ok (.aload_n 0, 1) := by decide +kernel
theorem dX6_bestCost_36 : decode cX6_bestCost 36 = .ok (.aload_n 0, 1) := by decide +kernel
theorem dX6_bestCost_37 : decode cX6_bestCost 37 = .ok (.getfield 180, 3) := by decide +kernel
theorem dX6_bestCost_40 : decode cX6_bestCost 40 = .ok (.ifCond .ne 7, 3) := by decide +kernel
theorem dX6_bestCost_43 : decode cX6_bestCost 43 = .ok (.iconst 2, 1) := by decide +kernel
theorem dX6_bestCost_44 : decode cX6_bestCost 44 = .ok (.goto 4, 3) := by decide +kernel
theorem dX6_bestCost_47 : decode cX6_bestCost 47 = .ok (.iconst 0, 1) := by decide +kernel
theorem dX6_bestCost_48 : decode cX6_bestCost 48 = .ok (.putfield 54, 3) := by decide +kernel
theorem dX6_bestCost_51 : decode cX6_bestCost 51 = .ok (.aload_n 0, 1) := by decide +kernel
theorem dX6_bestCost_52 : decode cX6_bestCost 52 = .ok (.getfield 54, 3) := by decide +kernel
theorem dX6_bestCost_55 : decode cX6_bestCost 55 = .ok (.ifCond .ne 10, 3) := by decide +kernel
theorem dX6_bestCost_58 : decode cX6_bestCost 58 = .ok (.aload_n 0, 1) := by decide +kernel
theorem dX6_bestCost_59 : decode cX6_bestCost 59 = .ok (.getfield 199, 3) := by decide +kernel
theorem dX6_bestCost_62 : decode cX6_bestCost 62 = .ok (.goto 4, 3) := by decide +kernel
theorem dX6_bestCost_65 : decode cX6_bestCost 65 = .ok (.iconst (-1), 1) := by decide +kernel
theorem dX6_bestCost_66 : decode cX6_bestCost 66 = .ok (.ireturn, 1) := by decide +kernel
theorem dX6_bestCostByTrying_0 : decode cX6_bestCostByTrying 0 = .ok (.aload_n 0, 1) := by decide +kernel
theorem dX6_bestCostByTrying_1 : decode cX6_bestCostByTrying 1 = .ok (.iload_n 1, 1) := by decide +kernel
theorem dX6_bestCostByTrying_2 : decode cX6_bestCostByTrying 2 = .ok (.invokevirtual 202, 3) := by decide +kernel
theorem dX6_bestCostByTrying_5 : decode cX6_bestCostByTrying 5 = .ok (.ireturn, 1) := by decide +kernel
theorem dX6_isOnInBest_0 : decode cX6_isOnInBest 0 = .ok (.aload_n 0, 1) := by decide +kernel
theorem dX6_isOnInBest_1 : decode cX6_isOnInBest 1 = .ok (.iload_n 1, 1) := by decide +kernel
theorem dX6_isOnInBest_2 : decode cX6_isOnInBest 2 = .ok (.i2l, 1) := by decide +kernel
theorem dX6_isOnInBest_3 : decode cX6_isOnInBest 3 = .ok (.lconst 1, 1) := by decide +kernel
theorem dX6_isOnInBest_4 : decode cX6_isOnInBest 4 = .ok (.ldc2_w 186, 3) := by decide +kernel
theorem dX6_isOnInBest_7 : decode cX6_isOnInBest 7 = .ok (.invokestatic 60, 3) := by decide +kernel
theorem dX6_isOnInBest_10 : decode cX6_isOnInBest 10 = .ok (.ifCond .ne 7, 3) := by decide +kernel
theorem dX6_isOnInBest_13 : decode cX6_isOnInBest 13 = .ok (.iconst 1, 1) := by decide +kernel
theorem dX6_isOnInBest_14 : decode cX6_isOnInBest 14 = .ok (.goto 21, 3) := by decide +kernel
theorem dX6_isOnInBest_17 : decode cX6_isOnInBest 17 = .ok (.iload_n 2, 1) := by decide +kernel
theorem dX6_isOnInBest_18 : decode cX6_isOnInBest 18 = .ok (.i2l, 1) := by decide +kernel
theorem dX6_isOnInBest_19 : decode cX6_isOnInBest 19 = .ok (.lconst 0, 1) := by decide +kernel
theorem dX6_isOnInBest_20 : decode cX6_isOnInBest 20 = .ok (.iload_n 1, 1) := by decide +kernel
theorem dX6_isOnInBest_21 : decode cX6_isOnInBest 21 = .ok (.iconst 1, 1) := by decide +kernel
theorem dX6_isOnInBest_22 : decode cX6_isOnInBest 22 = .ok (.isub, 1) := by decide +kernel
theorem dX6_isOnInBest_23 : decode cX6_isOnInBest 23 = .ok (.i2l, 1) := by decide +kernel
theorem dX6_isOnInBest_24 : decode cX6_isOnInBest 24 = .ok (.invokestatic 60, 3) := by decide +kernel
theorem dX6_isOnInBest_27 : decode cX6_isOnInBest 27 = .ok (.ifCond .ne 7, 3) := by decide +kernel
theorem dX6_isOnInBest_30 : decode cX6_isOnInBest 30 = .ok (.iconst 2, 1) := by decide +kernel
theorem dX6_isOnInBest_31 : decode cX6_isOnInBest 31 = .ok (.goto 4, 3) := by decide +kernel
theorem dX6_isOnInBest_34 : decode cX6_isOnInBest 34 = .ok (.iconst 0, 1) := by decide +kernel
theorem dX6_isOnInBest_35 : decode cX6_isOnInBest 35 = .ok (.putfield 54, 3) := by decide +kernel
theorem dX6_isOnInBest_38 : decode cX6_isOnInBest 38 = .ok (.aload_n 0, 1) := by decide +kernel
theorem dX6_isOnInBest_39 : decode cX6_isOnInBest 39 = .ok (.getfield 54, 3) := by decide +kernel
theorem dX6_isOnInBest_42 : decode cX6_isOnInBest 42 = .ok (.ifCond .le 5, 3) := by decide +kernel
theorem dX6_isOnInBest_45 : decode cX6_isOnInBest 45 = .ok (.iconst 0, 1) := by decide +kernel
theorem dX6_isOnInBest_46 : decode cX6_isOnInBest 46 = .ok (.ireturn, 1) := by decide +kernel
theorem dX6_isOnInBest_47 : decode cX6_isOnInBest 47 = .ok (.aload_n 0, 1) := by decide +kernel
theorem dX6_isOnInBest_48 : decode cX6_isOnInBest 48 = .ok (.iload_n 1, 1) := by decide +kernel
theorem dX6_isOnInBest_49 : decode cX6_isOnInBest 49 = .ok (.invokevirtual 177, 3) := by decide +kernel
theorem dX6_isOnInBest_52 : decode cX6_isOnInBest 52 = .ok (.aload_n 0, 1) := by decide +kernel
