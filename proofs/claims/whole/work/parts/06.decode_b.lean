theorem dX6_goOn_24 : decode cX6_goOn 24 = .ok (.iconst 1, 1) := by decide +kernel
theorem dX6_goOn_25 : decode cX6_goOn 25 = .ok (.goto 4, 3) := by decide +kernel
theorem dX6_goOn_28 : decode cX6_goOn 28 = .ok (.iconst 0, 1) := by decide +kernel
theorem dX6_goOn_29 : decode cX6_goOn 29 = .ok (.istore 8, 2) := by decide +kernel
theorem dX6_goOn_31 : decode cX6_goOn 31 = .ok (.lload_n 1, 1) := by decide +kernel
theorem dX6_goOn_32 : decode cX6_goOn 32 = .ok (.aload_n 0, 1) := by decide +kernel
theorem dX6_goOn_33 : decode cX6_goOn 33 = .ok (.iload 5, 2) := by decide +kernel
theorem dX6_goOn_35 : decode cX6_goOn 35 = .ok (.iload 7, 2) := by decide +kernel
theorem dX6_goOn_37 : decode cX6_goOn 37 = .ok (.invokevirtual 60, 3) := by decide +kernel
theorem dX6_goOn_40 : decode cX6_goOn 40 = .ok (.i2l, 1) := by decide +kernel
theorem dX6_goOn_41 : decode cX6_goOn 41 = .ok (.lmul, 1) := by decide +kernel
theorem dX6_goOn_42 : decode cX6_goOn 42 = .ok (.iload 8, 2) := by decide +kernel
theorem dX6_goOn_44 : decode cX6_goOn 44 = .ok (.ifCond .eq 9, 3) := by decide +kernel
theorem dX6_goOn_47 : decode cX6_goOn 47 = .ok (.ldc2_w 76, 3) := by decide +kernel
theorem dX6_goOn_50 : decode cX6_goOn 50 = .ok (.goto 4, 3) := by decide +kernel
theorem dX6_goOn_53 : decode cX6_goOn 53 = .ok (.lconst 1, 1) := by decide +kernel
theorem dX6_goOn_54 : decode cX6_goOn 54 = .ok (.lmul, 1) := by decide +kernel
theorem dX6_goOn_55 : decode cX6_goOn 55 = .ok (.lstore 9, 2) := by decide +kernel
theorem dX6_goOn_57 : decode cX6_goOn 57 = .ok (.lload_n 3, 1) := by decide +kernel
theorem dX6_goOn_58 : decode cX6_goOn 58 = .ok (.aload_n 0, 1) := by decide +kernel
theorem dX6_goOn_59 : decode cX6_goOn 59 = .ok (.iload 6, 2) := by decide +kernel
theorem dX6_goOn_61 : decode cX6_goOn 61 = .ok (.iload 7, 2) := by decide +kernel
theorem dX6_goOn_63 : decode cX6_goOn 63 = .ok (.invokevirtual 60, 3) := by decide +kernel
theorem dX6_goOn_66 : decode cX6_goOn 66 = .ok (.i2l, 1) := by decide +kernel
theorem dX6_goOn_67 : decode cX6_goOn 67 = .ok (.lmul, 1) := by decide +kernel
theorem dX6_goOn_68 : decode cX6_goOn 68 = .ok (.lstore 11, 2) := by decide +kernel
theorem dX6_goOn_70 : decode cX6_goOn 70 = .ok (.lload 9, 2) := by decide +kernel
theorem dX6_goOn_72 : decode cX6_goOn 72 = .ok (.lload 11, 2) := by decide +kernel
theorem dX6_goOn_74 : decode cX6_goOn 74 = .ok (.invokestatic 78, 3) := by decide +kernel
theorem dX6_goOn_77 : decode cX6_goOn 77 = .ok (.lstore 13, 2) := by decide +kernel
theorem dX6_goOn_79 : decode cX6_goOn 79 = .ok (.aload_n 0, 1) := by decide +kernel
theorem dX6_goOn_80 : decode cX6_goOn 80 = .ok (.lload 9, 2) := by decide +kernel
theorem dX6_goOn_82 : decode cX6_goOn 82 = .ok (.lload 13, 2) := by decide +kernel
theorem dX6_goOn_84 : decode cX6_goOn 84 = .ok (.ldiv, 1) := by decide +kernel
theorem dX6_goOn_85 : decode cX6_goOn 85 = .ok (.putfield 82, 3) := by decide +kernel
theorem dX6_goOn_88 : decode cX6_goOn 88 = .ok (.aload_n 0, 1) := by decide +kernel
theorem dX6_goOn_89 : decode cX6_goOn 89 = .ok (.lload 11, 2) := by decide +kernel
theorem dX6_goOn_91 : decode cX6_goOn 91 = .ok (.lload 13, 2) := by decide +kernel
theorem dX6_goOn_93 : decode cX6_goOn 93 = .ok (.ldiv, 1) := by decide +kernel
theorem dX6_goOn_94 : decode cX6_goOn 94 = .ok (.putfield 86, 3) := by decide +kernel
theorem dX6_goOn_97 : decode cX6_goOn 97 = .ok (.return_, 1) := by decide +kernel
theorem dX6_layOut_0 : decode cX6_layOut 0 = .ok (.aload_n 0, 1) := by decide +kernel
theorem dX6_layOut_1 : decode cX6_layOut 1 = .ok (.iconst 0, 1) := by decide +kernel
theorem dX6_layOut_2 : decode cX6_layOut 2 = .ok (.putfield 89, 3) := by decide +kernel
theorem dX6_layOut_5 : decode cX6_layOut 5 = .ok (.iconst 0, 1) := by decide +kernel
theorem dX6_layOut_6 : decode cX6_layOut 6 = .ok (.istore_n 1, 1) := by decide +kernel
theorem dX6_layOut_7 : decode cX6_layOut 7 = .ok (.iload_n 1, 1) := by decide +kernel
theorem dX6_layOut_8 : decode cX6_layOut 8 = .ok (.bipush 9, 2) := by decide +kernel
theorem dX6_layOut_10 : decode cX6_layOut 10 = .ok (.if_icmp .ge 58, 3) := by decide +kernel
theorem dX6_layOut_13 : decode cX6_layOut 13 = .ok (.aload_n 0, 1) := by decide +kernel
theorem dX6_layOut_14 : decode cX6_layOut 14 = .ok (.getfield 29, 3) := by decide +kernel
theorem dX6_layOut_17 : decode cX6_layOut 17 = .ok (.iload_n 1, 1) := by decide +kernel
theorem dX6_layOut_18 : decode cX6_layOut 18 = .ok (.iload_n 1, 1) := by decide +kernel
theorem dX6_layOut_19 : decode cX6_layOut 19 = .ok (.aload_n 0, 1) := by decide +kernel
theorem dX6_layOut_20 : decode cX6_layOut 20 = .ok (.getfield 7, 3) := by decide +kernel
theorem dX6_layOut_23 : decode cX6_layOut 23 = .ok (.bipush 55, 2) := by decide +kernel
theorem dX6_layOut_25 : decode cX6_layOut 25 = .ok (.iaload, 1) := by decide +kernel
theorem dX6_layOut_26 : decode cX6_layOut 26 = .ok (.if_icmp .ne 7, 3) := by decide +kernel
theorem dX6_layOut_29 : decode cX6_layOut 29 = .ok (.iconst 1, 1) := by decide +kernel
theorem dX6_layOut_30 : decode cX6_layOut 30 = .ok (.goto 4, 3) := by decide +kernel
theorem dX6_layOut_33 : decode cX6_layOut 33 = .ok (.iconst 0, 1) := by decide +kernel
theorem dX6_layOut_34 : decode cX6_layOut 34 = .ok (.bastore, 1) := by decide +kernel
theorem dX6_layOut_35 : decode cX6_layOut 35 = .ok (.aload_n 0, 1) := by decide +kernel
theorem dX6_layOut_36 : decode cX6_layOut 36 = .ok (.getfield 22, 3) := by decide +kernel
theorem dX6_layOut_39 : decode cX6_layOut 39 = .ok (.iload_n 1, 1) := by decide +kernel
theorem dX6_layOut_40 : decode cX6_layOut 40 = .ok (.aload_n 0, 1) := by decide +kernel
theorem dX6_layOut_41 : decode cX6_layOut 41 = .ok (.getfield 29, 3) := by decide +kernel
theorem dX6_layOut_44 : decode cX6_layOut 44 = .ok (.iload_n 1, 1) := by decide +kernel
theorem dX6_layOut_45 : decode cX6_layOut 45 = .ok (.baload, 1) := by decide +kernel
theorem dX6_layOut_46 : decode cX6_layOut 46 = .ok (.ifCond .eq 7, 3) := by decide +kernel
theorem dX6_layOut_49 : decode cX6_layOut 49 = .ok (.lconst 1, 1) := by decide +kernel
theorem dX6_layOut_50 : decode cX6_layOut 50 = .ok (.goto 4, 3) := by decide +kernel
theorem dX6_layOut_53 : decode cX6_layOut 53 = .ok (.lconst 0, 1) := by decide +kernel
theorem dX6_layOut_54 : decode cX6_layOut 54 = .ok (.lastore, 1) := by decide +kernel
theorem dX6_layOut_55 : decode cX6_layOut 55 = .ok (.aload_n 0, 1) := by decide +kernel
theorem dX6_layOut_56 : decode cX6_layOut 56 = .ok (.getfield 26, 3) := by decide +kernel
theorem dX6_layOut_59 : decode cX6_layOut 59 = .ok (.iload_n 1, 1) := by decide +kernel
theorem dX6_layOut_60 : decode cX6_layOut 60 = .ok (.lconst 1, 1) := by decide +kernel
theorem dX6_layOut_61 : decode cX6_layOut 61 = .ok (.lastore, 1) := by decide +kernel
theorem dX6_layOut_62 : decode cX6_layOut 62 = .ok (.iinc 1 1, 3) := by decide +kernel
theorem dX6_layOut_65 : decode cX6_layOut 65 = .ok (.goto (-58), 3) := by decide +kernel
theorem dX6_layOut_68 : decode cX6_layOut 68 = .ok (.iconst 1, 1) := by decide +kernel
theorem dX6_layOut_69 : decode cX6_layOut 69 = .ok (.istore_n 1, 1) := by decide +kernel
theorem dX6_layOut_70 : decode cX6_layOut 70 = .ok (.iload_n 1, 1) := by decide +kernel
theorem dX6_layOut_71 : decode cX6_layOut 71 = .ok (.ifCond .eq 247, 3) := by decide +kernel
theorem dX6_layOut_74 : decode cX6_layOut 74 = .ok (.iconst 0, 1) := by decide +kernel
theorem dX6_layOut_75 : decode cX6_layOut 75 = .ok (.istore_n 1, 1) := by decide +kernel
theorem dX6_layOut_76 : decode cX6_layOut 76 = .ok (.iconst 0, 1) := by decide +kernel
theorem dX6_layOut_77 : decode cX6_layOut 77 = .ok (.istore_n 2, 1) := by decide +kernel
theorem dX6_layOut_78 : decode cX6_layOut 78 = .ok (.iload_n 2, 1) := by decide +kernel
theorem dX6_layOut_79 : decode cX6_layOut 79 = .ok (.sipush 162, 3) := by decide +kernel
theorem dX6_layOut_82 : decode cX6_layOut 82 = .ok (.if_icmp .ge 233, 3) := by decide +kernel
theorem dX6_layOut_85 : decode cX6_layOut 85 = .ok (.iload_n 2, 1) := by decide +kernel
theorem dX6_layOut_86 : decode cX6_layOut 86 = .ok (.bipush 18, 2) := by decide +kernel
theorem dX6_layOut_88 : decode cX6_layOut 88 = .ok (.idiv, 1) := by decide +kernel
theorem dX6_layOut_89 : decode cX6_layOut 89 = .ok (.istore_n 3, 1) := by decide +kernel
theorem dX6_layOut_90 : decode cX6_layOut 90 = .ok (.iload_n 2, 1) := by decide +kernel
theorem dX6_layOut_91 : decode cX6_layOut 91 = .ok (.iconst 2, 1) := by decide +kernel
theorem dX6_layOut_92 : decode cX6_layOut 92 = .ok (.idiv, 1) := by decide +kernel
theorem dX6_layOut_93 : decode cX6_layOut 93 = .ok (.bipush 9, 2) := by decide +kernel
theorem dX6_layOut_95 : decode cX6_layOut 95 = .ok (.irem, 1) := by decide +kernel
theorem dX6_layOut_96 : decode cX6_layOut 96 = .ok (.istore 4, 2) := by decide +kernel
theorem dX6_layOut_98 : decode cX6_layOut 98 = .ok (.iload_n 3, 1) := by decide +kernel
theorem dX6_layOut_99 : decode cX6_layOut 99 = .ok (.aload_n 0, 1) := by decide +kernel
theorem dX6_layOut_100 : decode cX6_layOut 100 = .ok (.getfield 7, 3) := by decide +kernel
theorem dX6_layOut_103 : decode cX6_layOut 103 = .ok (.iconst 0, 1) := by decide +kernel
theorem dX6_layOut_104 : decode cX6_layOut 104 = .ok (.iaload, 1) := by decide +kernel
theorem dX6_layOut_105 : decode cX6_layOut 105 = .ok (.if_icmp .ge 204, 3) := by decide +kernel
theorem dX6_layOut_108 : decode cX6_layOut 108 = .ok (.iload 4, 2) := by decide +kernel
theorem dX6_layOut_110 : decode cX6_layOut 110 = .ok (.aload_n 0, 1) := by decide +kernel
theorem dX6_layOut_111 : decode cX6_layOut 111 = .ok (.getfield 7, 3) := by decide +kernel
theorem dX6_layOut_114 : decode cX6_layOut 114 = .ok (.iconst 0, 1) := by decide +kernel
theorem dX6_layOut_115 : decode cX6_layOut 115 = .ok (.iaload, 1) := by decide +kernel
theorem dX6_layOut_116 : decode cX6_layOut 116 = .ok (.if_icmp .ge 193, 3) := by decide +kernel
theorem dX6_layOut_119 : decode cX6_layOut 119 = .ok (.aload_n 0, 1) := by decide +kernel
theorem dX6_layOut_120 : decode cX6_layOut 120 = .ok (.getfield 29, 3) := by decide +kernel
theorem dX6_layOut_123 : decode cX6_layOut 123 = .ok (.iload_n 3, 1) := by decide +kernel
theorem dX6_layOut_124 : decode cX6_layOut 124 = .ok (.baload, 1) := by decide +kernel
theorem dX6_layOut_125 : decode cX6_layOut 125 = .ok (.ifCond .eq 184, 3) := by decide +kernel
theorem dX6_layOut_128 : decode cX6_layOut 128 = .ok (.aload_n 0, 1) := by decide +kernel
theorem dX6_layOut_129 : decode cX6_layOut 129 = .ok (.iload_n 3, 1) := by decide +kernel
theorem dX6_layOut_130 : decode cX6_layOut 130 = .ok (.iload 4, 2) := by decide +kernel
theorem dX6_layOut_132 : decode cX6_layOut 132 = .ok (.iload_n 2, 1) := by decide +kernel
theorem dX6_layOut_133 : decode cX6_layOut 133 = .ok (.iconst 2, 1) := by decide +kernel
theorem dX6_layOut_134 : decode cX6_layOut 134 = .ok (.irem, 1) := by decide +kernel
theorem dX6_layOut_135 : decode cX6_layOut 135 = .ok (.invokevirtual 70, 3) := by decide +kernel
theorem dX6_layOut_138 : decode cX6_layOut 138 = .ok (.ifCond .eq 171, 3) := by decide +kernel
theorem dX6_layOut_141 : decode cX6_layOut 141 = .ok (.aload_n 0, 1) := by decide +kernel
theorem dX6_layOut_142 : decode cX6_layOut 142 = .ok (.aload_n 0, 1) := by decide +kernel
theorem dX6_layOut_143 : decode cX6_layOut 143 = .ok (.getfield 22, 3) := by decide +kernel
theorem dX6_layOut_146 : decode cX6_layOut 146 = .ok (.iload_n 3, 1) := by decide +kernel
theorem dX6_layOut_147 : decode cX6_layOut 147 = .ok (.laload, 1) := by decide +kernel
theorem dX6_layOut_148 : decode cX6_layOut 148 = .ok (.aload_n 0, 1) := by decide +kernel
theorem dX6_layOut_149 : decode cX6_layOut 149 = .ok (.getfield 26, 3) := by decide +kernel
theorem dX6_layOut_152 : decode cX6_layOut 152 = .ok (.iload_n 3, 1) := by decide +kernel
theorem dX6_layOut_153 : decode cX6_layOut 153 = .ok (.laload, 1) := by decide +kernel
theorem dX6_layOut_154 : decode cX6_layOut 154 = .ok (.iload_n 3, 1) := by decide +kernel
theorem dX6_layOut_155 : decode cX6_layOut 155 = .ok (.iload 4, 2) := by decide +kernel
theorem dX6_layOut_157 : decode cX6_layOut 157 = .ok (.iload_n 2, 1) := by decide +kernel
theorem dX6_layOut_158 : decode cX6_layOut 158 = .ok (.iconst 2, 1) := by decide +kernel
theorem dX6_layOut_159 : decode cX6_layOut 159 = .ok (.irem, 1) := by decide +kernel
theorem dX6_layOut_160 : decode cX6_layOut 160 = .ok (.invokevirtual 93, 3) := by decide +kernel
theorem dX6_layOut_163 : decode cX6_layOut 163 = .ok (.aload_n 0, 1) := by decide +kernel
theorem dX6_layOut_164 : decode cX6_layOut 164 = .ok (.aload_n 0, 1) := by decide +kernel
theorem dX6_layOut_165 : decode cX6_layOut 165 = .ok (.getfield 89, 3) := by decide +kernel
theorem dX6_layOut_168 : decode cX6_layOut 168 = .ok (.ifCond .ne 43, 3) := by decide +kernel
theorem dX6_layOut_171 : decode cX6_layOut 171 = .ok (.aload_n 0, 1) := by decide +kernel
theorem dX6_layOut_172 : decode cX6_layOut 172 = .ok (.getfield 29, 3) := by decide +kernel
theorem dX6_layOut_175 : decode cX6_layOut 175 = .ok (.iload 4, 2) := by decide +kernel
theorem dX6_layOut_177 : decode cX6_layOut 177 = .ok (.baload, 1) := by decide +kernel
theorem dX6_layOut_178 : decode cX6_layOut 178 = .ok (.ifCond .eq 37, 3) := by decide +kernel
theorem dX6_layOut_181 : decode cX6_layOut 181 = .ok (.aload_n 0, 1) := by decide +kernel
theorem dX6_layOut_182 : decode cX6_layOut 182 = .ok (.getfield 22, 3) := by decide +kernel
theorem dX6_layOut_185 : decode cX6_layOut 185 = .ok (.iload 4, 2) := by decide +kernel
theorem dX6_layOut_187 : decode cX6_layOut 187 = .ok (.laload, 1) := by decide +kernel
theorem dX6_layOut_188 : decode cX6_layOut 188 = .ok (.aload_n 0, 1) := by decide +kernel
theorem dX6_layOut_189 : decode cX6_layOut 189 = .ok (.getfield 82, 3) := by decide +kernel
theorem dX6_layOut_192 : decode cX6_layOut 192 = .ok (.lcmp, 1) := by decide +kernel
theorem dX6_layOut_193 : decode cX6_layOut 193 = .ok (.ifCond .ne 18, 3) := by decide +kernel
theorem dX6_layOut_196 : decode cX6_layOut 196 = .ok (.aload_n 0, 1) := by decide +kernel
theorem dX6_layOut_197 : decode cX6_layOut 197 = .ok (.getfield 26, 3) := by decide +kernel
theorem dX6_layOut_200 : decode cX6_layOut 200 = .ok (.iload 4, 2) := by decide +kernel
theorem dX6_layOut_202 : decode cX6_layOut 202 = .ok (.laload, 1) := by decide +kernel
theorem dX6_layOut_203 : decode cX6_layOut 203 = .ok (.aload_n 0, 1) := by decide +kernel
theorem dX6_layOut_204 : decode cX6_layOut 204 = .ok (.getfield 86, 3) := by decide +kernel
theorem dX6_layOut_207 : decode cX6_layOut 207 = .ok (.lcmp, 1) := by decide +kernel
theorem dX6_layOut_208 : decode cX6_layOut 208 = .ok (.ifCond .eq 7, 3) := by decide +kernel
theorem dX6_layOut_211 : decode cX6_layOut 211 = .ok (.iconst 1, 1) := by decide +kernel
theorem dX6_layOut_212 : decode cX6_layOut 212 = .ok (.goto 4, 3) := by decide +kernel
theorem dX6_layOut_215 : decode cX6_layOut 215 = .ok (.iconst 0, 1) := by decide +kernel
theorem dX6_layOut_216 : decode cX6_layOut 216 = .ok (.putfield 89, 3) := by decide +kernel
theorem dX6_layOut_219 : decode cX6_layOut 219 = .ok (.iload_n 1, 1) := by decide +kernel
theorem dX6_layOut_220 : decode cX6_layOut 220 = .ok (.ifCond .ne 13, 3) := by decide +kernel
theorem dX6_layOut_223 : decode cX6_layOut 223 = .ok (.aload_n 0, 1) := by decide +kernel
theorem dX6_layOut_224 : decode cX6_layOut 224 = .ok (.getfield 29, 3) := by decide +kernel
theorem dX6_layOut_227 : decode cX6_layOut 227 = .ok (.iload 4, 2) := by decide +kernel
theorem dX6_layOut_229 : decode cX6_layOut 229 = .ok (.baload, 1) := by decide +kernel
theorem dX6_layOut_230 : decode cX6_layOut 230 = .ok (.ifCond .ne 7, 3) := by decide +kernel
theorem dX6_layOut_233 : decode cX6_layOut 233 = .ok (.iconst 1, 1) := by decide +kernel
theorem dX6_layOut_234 : decode cX6_layOut 234 = .ok (.goto 4, 3) := by decide +kernel
theorem dX6_layOut_237 : decode cX6_layOut 237 = .ok (.iconst 0, 1) := by decide +kernel
theorem dX6_layOut_238 : decode cX6_layOut 238 = .ok (.istore_n 1, 1) := by decide +kernel
theorem dX6_layOut_239 : decode cX6_layOut 239 = .ok (.aload_n 0, 1) := by decide +kernel
theorem dX6_layOut_240 : decode cX6_layOut 240 = .ok (.getfield 22, 3) := by decide +kernel
theorem dX6_layOut_243 : decode cX6_layOut 243 = .ok (.iload 4, 2) := by decide +kernel
theorem dX6_layOut_245 : decode cX6_layOut 245 = .ok (.aload_n 0, 1) := by decide +kernel
theorem dX6_layOut_246 : decode cX6_layOut 246 = .ok (.getfield 29, 3) := by decide +kernel
theorem dX6_layOut_249 : decode cX6_layOut 249 = .ok (.iload 4, 2) := by decide +kernel
theorem dX6_layOut_251 : decode cX6_layOut 251 = .ok (.baload, 1) := by decide +kernel
theorem dX6_layOut_252 : decode cX6_layOut 252 = .ok (.ifCond .eq 13, 3) := by decide +kernel
theorem dX6_layOut_255 : decode cX6_layOut 255 = .ok (.aload_n 0, 1) := by decide +kernel
theorem dX6_layOut_256 : decode cX6_layOut 256 = .ok (.getfield 22, 3) := by decide +kernel
theorem dX6_layOut_259 : decode cX6_layOut 259 = .ok (.iload 4, 2) := by decide +kernel
theorem dX6_layOut_261 : decode cX6_layOut 261 = .ok (.laload, 1) := by decide +kernel
theorem dX6_layOut_262 : decode cX6_layOut 262 = .ok (.goto 7, 3) := by decide +kernel
theorem dX6_layOut_265 : decode cX6_layOut 265 = .ok (.aload_n 0, 1) := by decide +kernel
theorem dX6_layOut_266 : decode cX6_layOut 266 = .ok (.getfield 82, 3) := by decide +kernel
theorem dX6_layOut_269 : decode cX6_layOut 269 = .ok (.lastore, 1) := by decide +kernel
theorem dX6_layOut_270 : decode cX6_layOut 270 = .ok (.aload_n 0, 1) := by decide +kernel
theorem dX6_layOut_271 : decode cX6_layOut 271 = .ok (.getfield 26, 3) := by decide +kernel
theorem dX6_layOut_274 : decode cX6_layOut 274 = .ok (.iload 4, 2) := by decide +kernel
theorem dX6_layOut_276 : decode cX6_layOut 276 = .ok (.aload_n 0, 1) := by decide +kernel
theorem dX6_layOut_277 : decode cX6_layOut 277 = .ok (.getfield 29, 3) := by decide +kernel
theorem dX6_layOut_280 : decode cX6_layOut 280 = .ok (.iload 4, 2) := by decide +kernel
theorem dX6_layOut_282 : decode cX6_layOut 282 = .ok (.baload, 1) := by decide +kernel
theorem dX6_layOut_283 : decode cX6_layOut 283 = .ok (.ifCond .eq 13, 3) := by decide +kernel
theorem dX6_layOut_286 : decode cX6_layOut 286 = .ok (.aload_n 0, 1) := by decide +kernel
theorem dX6_layOut_287 : decode cX6_layOut 287 = .ok (.getfield 26, 3) := by decide +kernel
theorem dX6_layOut_290 : decode cX6_layOut 290 = .ok (.iload 4, 2) := by decide +kernel
theorem dX6_layOut_292 : decode cX6_layOut 292 = .ok (.laload, 1) := by decide +kernel
theorem dX6_layOut_293 : decode cX6_layOut 293 = .ok (.goto 7, 3) := by decide +kernel
theorem dX6_layOut_296 : decode cX6_layOut 296 = .ok (.aload_n 0, 1) := by decide +kernel
theorem dX6_layOut_297 : decode cX6_layOut 297 = .ok (.getfield 86, 3) := by decide +kernel
theorem dX6_layOut_300 : decode cX6_layOut 300 = .ok (.lastore, 1) := by decide +kernel
theorem dX6_layOut_301 : decode cX6_layOut 301 = .ok (.aload_n 0, 1) := by decide +kernel
theorem dX6_layOut_302 : decode cX6_layOut 302 = .ok (.getfield 29, 3) := by decide +kernel
theorem dX6_layOut_305 : decode cX6_layOut 305 = .ok (.iload 4, 2) := by decide +kernel
theorem dX6_layOut_307 : decode cX6_layOut 307 = .ok (.iconst 1, 1) := by decide +kernel
theorem dX6_layOut_308 : decode cX6_layOut 308 = .ok (.bastore, 1) := by decide +kernel
theorem dX6_layOut_309 : decode cX6_layOut 309 = .ok (.iinc 2 1, 3) := by decide +kernel
theorem dX6_layOut_312 : decode cX6_layOut 312 = .ok (.goto (-234), 3) := by decide +kernel
theorem dX6_layOut_315 : decode cX6_layOut 315 = .ok (.goto (-245), 3) := by decide +kernel
theorem dX6_layOut_318 : decode cX6_layOut 318 = .ok (.iconst 0, 1) := by decide +kernel
theorem dX6_layOut_319 : decode cX6_layOut 319 = .ok (.istore_n 2, 1) := by decide +kernel
theorem dX6_layOut_320 : decode cX6_layOut 320 = .ok (.iload_n 2, 1) := by decide +kernel
theorem dX6_layOut_321 : decode cX6_layOut 321 = .ok (.bipush 9, 2) := by decide +kernel
theorem dX6_layOut_323 : decode cX6_layOut 323 = .ok (.if_icmp .ge 30, 3) := by decide +kernel
theorem dX6_layOut_326 : decode cX6_layOut 326 = .ok (.aload_n 0, 1) := by decide +kernel
theorem dX6_layOut_327 : decode cX6_layOut 327 = .ok (.getfield 89, 3) := by decide +kernel
theorem dX6_layOut_330 : decode cX6_layOut 330 = .ok (.ifCond .eq 23, 3) := by decide +kernel
theorem dX6_layOut_333 : decode cX6_layOut 333 = .ok (.aload_n 0, 1) := by decide +kernel
theorem dX6_layOut_334 : decode cX6_layOut 334 = .ok (.getfield 22, 3) := by decide +kernel
theorem dX6_layOut_337 : decode cX6_layOut 337 = .ok (.iload_n 2, 1) := by decide +kernel
theorem dX6_layOut_338 : decode cX6_layOut 338 = .ok (.lconst 0, 1) := by decide +kernel
theorem dX6_layOut_339 : decode cX6_layOut 339 = .ok (.lastore, 1) := by decide +kernel
theorem dX6_layOut_340 : decode cX6_layOut 340 = .ok (.aload_n 0, 1) := by decide +kernel
theorem dX6_layOut_341 : decode cX6_layOut 341 = .ok (.getfield 26, 3) := by decide +kernel
theorem dX6_layOut_344 : decode cX6_layOut 344 = .ok (.iload_n 2, 1) := by decide +kernel
theorem dX6_layOut_345 : decode cX6_layOut 345 = .ok (.lconst 1, 1) := by decide +kernel
theorem dX6_layOut_346 : decode cX6_layOut 346 = .ok (.lastore, 1) := by decide +kernel
theorem dX6_layOut_347 : decode cX6_layOut 347 = .ok (.iinc 2 1, 3) := by decide +kernel
theorem dX6_layOut_350 : decode cX6_layOut 350 = .ok (.goto (-30), 3) := by decide +kernel
theorem dX6_layOut_353 : decode cX6_layOut 353 = .ok (.return_, 1) := by decide +kernel
theorem dX6_joined_0 : decode cX6_joined 0 = .ok (.iconst 0, 1) := by decide +kernel
theorem dX6_joined_1 : decode cX6_joined 1 = .ok (.istore_n 1, 1) := by decide +kernel
theorem dX6_joined_2 : decode cX6_joined 2 = .ok (.iconst 0, 1) := by decide +kernel
theorem dX6_joined_3 : decode cX6_joined 3 = .ok (.istore_n 2, 1) := by decide +kernel
theorem dX6_joined_4 : decode cX6_joined 4 = .ok (.iload_n 2, 1) := by decide +kernel
theorem dX6_joined_5 : decode cX6_joined 5 = .ok (.bipush 9, 2) := by decide +kernel
theorem dX6_joined_7 : decode cX6_joined 7 = .ok (.if_icmp .ge 26, 3) := by decide +kernel
theorem dX6_joined_10 : decode cX6_joined 10 = .ok (.iload_n 1, 1) := by decide +kernel
theorem dX6_joined_11 : decode cX6_joined 11 = .ok (.aload_n 0, 1) := by decide +kernel
theorem dX6_joined_12 : decode cX6_joined 12 = .ok (.getfield 29, 3) := by decide +kernel
theorem dX6_joined_15 : decode cX6_joined 15 = .ok (.iload_n 2, 1) := by decide +kernel
theorem dX6_joined_16 : decode cX6_joined 16 = .ok (.baload, 1) := by decide +kernel
theorem dX6_joined_17 : decode cX6_joined 17 = .ok (.ifCond .eq 7, 3) := by decide +kernel
theorem dX6_joined_20 : decode cX6_joined 20 = .ok (.iconst 1, 1) := by decide +kernel
theorem dX6_joined_21 : decode cX6_joined 21 = .ok (.goto 4, 3) := by decide +kernel
theorem dX6_joined_24 : decode cX6_joined 24 = .ok (.iconst 0, 1) := by decide +kernel
theorem dX6_joined_25 : decode cX6_joined 25 = .ok (.iadd, 1) := by decide +kernel
theorem dX6_joined_26 : decode cX6_joined 26 = .ok (.istore_n 1, 1) := by decide +kernel
theorem dX6_joined_27 : decode cX6_joined 27 = .ok (.iinc 2 1, 3) := by decide +kernel
theorem dX6_joined_30 : decode cX6_joined 30 = .ok (.goto (-26), 3) := by decide +kernel
theorem dX6_joined_33 : decode cX6_joined 33 = .ok (.iload_n 1, 1) := by decide +kernel
theorem dX6_joined_34 : decode cX6_joined 34 = .ok (.ireturn, 1) := by decide +kernel
theorem dX6_isReached_0 : decode cX6_isReached 0 = .ok (.aload_n 0, 1) := by decide +kernel
theorem dX6_isReached_1 : decode cX6_isReached 1 = .ok (.getfield 7, 3) := by decide +kernel
theorem dX6_isReached_4 : decode cX6_isReached 4 = .ok (.bipush 56, 2) := by decide +kernel
theorem dX6_isReached_6 : decode cX6_isReached 6 = .ok (.iaload, 1) := by decide +kernel
theorem dX6_isReached_7 : decode cX6_isReached 7 = .ok (.istore_n 1, 1) := by decide +kernel
theorem dX6_isReached_8 : decode cX6_isReached 8 = .ok (.iload_n 1, 1) := by decide +kernel
theorem dX6_isReached_9 : decode cX6_isReached 9 = .ok (.iconst (-1), 1) := by decide +kernel
theorem dX6_isReached_10 : decode cX6_isReached 10 = .ok (.if_icmp .eq 43, 3) := by decide +kernel
theorem dX6_isReached_13 : decode cX6_isReached 13 = .ok (.aload_n 0, 1) := by decide +kernel
theorem dX6_isReached_14 : decode cX6_isReached 14 = .ok (.getfield 22, 3) := by decide +kernel
theorem dX6_isReached_17 : decode cX6_isReached 17 = .ok (.iload_n 1, 1) := by decide +kernel
theorem dX6_isReached_18 : decode cX6_isReached 18 = .ok (.laload, 1) := by decide +kernel
theorem dX6_isReached_19 : decode cX6_isReached 19 = .ok (.aload_n 0, 1) := by decide +kernel
theorem dX6_isReached_20 : decode cX6_isReached 20 = .ok (.getfield 7, 3) := by decide +kernel
theorem dX6_isReached_23 : decode cX6_isReached 23 = .ok (.bipush 57, 2) := by decide +kernel
theorem dX6_isReached_25 : decode cX6_isReached 25 = .ok (.iaload, 1) := by decide +kernel
theorem dX6_isReached_26 : decode cX6_isReached 26 = .ok (.i2l, 1) := by decide +kernel
theorem dX6_isReached_27 : decode cX6_isReached 27 = .ok (.lcmp, 1) := by decide +kernel
theorem dX6_isReached_28 : decode cX6_isReached 28 = .ok (.ifCond .ne 25, 3) := by decide +kernel
theorem dX6_isReached_31 : decode cX6_isReached 31 = .ok (.aload_n 0, 1) := by decide +kernel
theorem dX6_isReached_32 : decode cX6_isReached 32 = .ok (.getfield 26, 3) := by decide +kernel
theorem dX6_isReached_35 : decode cX6_isReached 35 = .ok (.iload_n 1, 1) := by decide +kernel
theorem dX6_isReached_36 : decode cX6_isReached 36 = .ok (.laload, 1) := by decide +kernel
theorem dX6_isReached_37 : decode cX6_isReached 37 = .ok (.aload_n 0, 1) := by decide +kernel
theorem dX6_isReached_38 : decode cX6_isReached 38 = .ok (.getfield 7, 3) := by decide +kernel
theorem dX6_isReached_41 : decode cX6_isReached 41 = .ok (.bipush 58, 2) := by decide +kernel
theorem dX6_isReached_43 : decode cX6_isReached 43 = .ok (.iaload, 1) := by decide +kernel
theorem dX6_isReached_44 : decode cX6_isReached 44 = .ok (.i2l, 1) := by decide +kernel
theorem dX6_isReached_45 : decode cX6_isReached 45 = .ok (.lcmp, 1) := by decide +kernel
theorem dX6_isReached_46 : decode cX6_isReached 46 = .ok (.ifCond .ne 7, 3) := by decide +kernel
theorem dX6_isReached_49 : decode cX6_isReached 49 = .ok (.iconst 1, 1) := by decide +kernel
theorem dX6_isReached_50 : decode cX6_isReached 50 = .ok (.goto 4, 3) := by decide +kernel
theorem dX6_isReached_53 : decode cX6_isReached 53 = .ok (.iconst 0, 1) := by decide +kernel
theorem dX6_isReached_54 : decode cX6_isReached 54 = .ok (.ireturn, 1) := by decide +kernel
theorem dX6_pegAt_0 : decode cX6_pegAt 0 = .ok (.iconst (-1), 1) := by decide +kernel
theorem dX6_pegAt_1 : decode cX6_pegAt 1 = .ok (.istore_n 3, 1) := by decide +kernel
theorem dX6_pegAt_2 : decode cX6_pegAt 2 = .ok (.iconst 0, 1) := by decide +kernel
theorem dX6_pegAt_3 : decode cX6_pegAt 3 = .ok (.istore 4, 2) := by decide +kernel
theorem dX6_pegAt_5 : decode cX6_pegAt 5 = .ok (.iload 4, 2) := by decide +kernel
theorem dX6_pegAt_7 : decode cX6_pegAt 7 = .ok (.aload_n 0, 1) := by decide +kernel
theorem dX6_pegAt_8 : decode cX6_pegAt 8 = .ok (.getfield 7, 3) := by decide +kernel
theorem dX6_pegAt_11 : decode cX6_pegAt 11 = .ok (.iconst 0, 1) := by decide +kernel
theorem dX6_pegAt_12 : decode cX6_pegAt 12 = .ok (.iaload, 1) := by decide +kernel
theorem dX6_pegAt_13 : decode cX6_pegAt 13 = .ok (.if_icmp .ge 43, 3) := by decide +kernel
theorem dX6_pegAt_16 : decode cX6_pegAt 16 = .ok (.aload_n 0, 1) := by decide +kernel
theorem dX6_pegAt_17 : decode cX6_pegAt 17 = .ok (.getfield 7, 3) := by decide +kernel
theorem dX6_pegAt_20 : decode cX6_pegAt 20 = .ok (.iconst 1, 1) := by decide +kernel
theorem dX6_pegAt_21 : decode cX6_pegAt 21 = .ok (.iload 4, 2) := by decide +kernel
theorem dX6_pegAt_23 : decode cX6_pegAt 23 = .ok (.iadd, 1) := by decide +kernel
theorem dX6_pegAt_24 : decode cX6_pegAt 24 = .ok (.iaload, 1) := by decide +kernel
theorem dX6_pegAt_25 : decode cX6_pegAt 25 = .ok (.iload_n 1, 1) := by decide +kernel
theorem dX6_pegAt_26 : decode cX6_pegAt 26 = .ok (.if_icmp .ne 22, 3) := by decide +kernel
theorem dX6_pegAt_29 : decode cX6_pegAt 29 = .ok (.aload_n 0, 1) := by decide +kernel
theorem dX6_pegAt_30 : decode cX6_pegAt 30 = .ok (.getfield 7, 3) := by decide +kernel
theorem dX6_pegAt_33 : decode cX6_pegAt 33 = .ok (.bipush 10, 2) := by decide +kernel
theorem dX6_pegAt_35 : decode cX6_pegAt 35 = .ok (.iload 4, 2) := by decide +kernel
theorem dX6_pegAt_37 : decode cX6_pegAt 37 = .ok (.iadd, 1) := by decide +kernel
theorem dX6_pegAt_38 : decode cX6_pegAt 38 = .ok (.iaload, 1) := by decide +kernel
theorem dX6_pegAt_39 : decode cX6_pegAt 39 = .ok (.iload_n 2, 1) := by decide +kernel
theorem dX6_pegAt_40 : decode cX6_pegAt 40 = .ok (.if_icmp .ne 8, 3) := by decide +kernel
theorem dX6_pegAt_43 : decode cX6_pegAt 43 = .ok (.iload 4, 2) := by decide +kernel
theorem dX6_pegAt_45 : decode cX6_pegAt 45 = .ok (.goto 4, 3) := by decide +kernel
theorem dX6_pegAt_48 : decode cX6_pegAt 48 = .ok (.iload_n 3, 1) := by decide +kernel
theorem dX6_pegAt_49 : decode cX6_pegAt 49 = .ok (.istore_n 3, 1) := by decide +kernel
theorem dX6_pegAt_50 : decode cX6_pegAt 50 = .ok (.iinc 4 1, 3) := by decide +kernel
theorem dX6_pegAt_53 : decode cX6_pegAt 53 = .ok (.goto (-48), 3) := by decide +kernel
theorem dX6_pegAt_56 : decode cX6_pegAt 56 = .ok (.iload_n 3, 1) := by decide +kernel
theorem dX6_pegAt_57 : decode cX6_pegAt 57 = .ok (.ireturn, 1) := by decide +kernel
theorem dX6_isPlace_0 : decode cX6_isPlace 0 = .ok (.iload_n 0, 1) := by decide +kernel
theorem dX6_isPlace_1 : decode cX6_isPlace 1 = .ok (.iconst 0, 1) := by decide +kernel
theorem dX6_isPlace_2 : decode cX6_isPlace 2 = .ok (.bipush 60, 2) := by decide +kernel
theorem dX6_isPlace_4 : decode cX6_isPlace 4 = .ok (.invokestatic 46, 3) := by decide +kernel
theorem dX6_isPlace_7 : decode cX6_isPlace 7 = .ok (.ifCond .eq 17, 3) := by decide +kernel
theorem dX6_isPlace_10 : decode cX6_isPlace 10 = .ok (.iload_n 1, 1) := by decide +kernel
theorem dX6_isPlace_11 : decode cX6_isPlace 11 = .ok (.iconst 0, 1) := by decide +kernel
theorem dX6_isPlace_12 : decode cX6_isPlace 12 = .ok (.bipush 60, 2) := by decide +kernel
theorem dX6_isPlace_14 : decode cX6_isPlace 14 = .ok (.invokestatic 46, 3) := by decide +kernel
theorem dX6_isPlace_17 : decode cX6_isPlace 17 = .ok (.ifCond .eq 7, 3) := by decide +kernel
theorem dX6_isPlace_20 : decode cX6_isPlace 20 = .ok (.iconst 1, 1) := by decide +kernel
theorem dX6_isPlace_21 : decode cX6_isPlace 21 = .ok (.goto 4, 3) := by decide +kernel
theorem dX6_isPlace_24 : decode cX6_isPlace 24 = .ok (.iconst 0, 1) := by decide +kernel
theorem dX6_isPlace_25 : decode cX6_isPlace 25 = .ok (.ireturn, 1) := by decide +kernel
theorem dX6_pegFault_0 : decode cX6_pegFault 0 = .ok (.iload_n 1, 1) := by decide +kernel
theorem dX6_pegFault_1 : decode cX6_pegFault 1 = .ok (.iload_n 2, 1) := by decide +kernel
theorem dX6_pegFault_2 : decode cX6_pegFault 2 = .ok (.invokestatic 97, 3) := by decide +kernel
theorem dX6_pegFault_5 : decode cX6_pegFault 5 = .ok (.ifCond .ne 7, 3) := by decide +kernel
theorem dX6_pegFault_8 : decode cX6_pegFault 8 = .ok (.iconst 1, 1) := by decide +kernel
theorem dX6_pegFault_9 : decode cX6_pegFault 9 = .ok (.goto 29, 3) := by decide +kernel
theorem dX6_pegFault_12 : decode cX6_pegFault 12 = .ok (.aload_n 0, 1) := by decide +kernel
theorem dX6_pegFault_13 : decode cX6_pegFault 13 = .ok (.getfield 7, 3) := by decide +kernel
theorem dX6_pegFault_16 : decode cX6_pegFault 16 = .ok (.iconst 0, 1) := by decide +kernel
theorem dX6_pegFault_17 : decode cX6_pegFault 17 = .ok (.iaload, 1) := by decide +kernel
theorem dX6_pegFault_18 : decode cX6_pegFault 18 = .ok (.bipush 9, 2) := by decide +kernel
theorem dX6_pegFault_20 : decode cX6_pegFault 20 = .ok (.if_icmp .eq 13, 3) := by decide +kernel
theorem dX6_pegFault_23 : decode cX6_pegFault 23 = .ok (.aload_n 0, 1) := by decide +kernel
theorem dX6_pegFault_24 : decode cX6_pegFault 24 = .ok (.iload_n 1, 1) := by decide +kernel
theorem dX6_pegFault_25 : decode cX6_pegFault 25 = .ok (.iload_n 2, 1) := by decide +kernel
theorem dX6_pegFault_26 : decode cX6_pegFault 26 = .ok (.invokevirtual 101, 3) := by decide +kernel
theorem dX6_pegFault_29 : decode cX6_pegFault 29 = .ok (.iconst (-1), 1) := by decide +kernel
theorem dX6_pegFault_30 : decode cX6_pegFault 30 = .ok (.if_icmp .eq 7, 3) := by decide +kernel
theorem dX6_pegFault_33 : decode cX6_pegFault 33 = .ok (.iconst 2, 1) := by decide +kernel
theorem dX6_pegFault_34 : decode cX6_pegFault 34 = .ok (.goto 4, 3) := by decide +kernel
theorem dX6_pegFault_37 : decode cX6_pegFault 37 = .ok (.iconst 0, 1) := by decide +kernel
theorem dX6_pegFault_38 : decode cX6_pegFault 38 = .ok (.ireturn, 1) := by decide +kernel
theorem dX6_pegs_0 : decode cX6_pegs 0 = .ok (.aload_n 0, 1) := by decide +kernel
theorem dX6_pegs_1 : decode cX6_pegs 1 = .ok (.getfield 7, 3) := by decide +kernel
theorem dX6_pegs_4 : decode cX6_pegs 4 = .ok (.iconst 0, 1) := by decide +kernel
theorem dX6_pegs_5 : decode cX6_pegs 5 = .ok (.iaload, 1) := by decide +kernel
theorem dX6_pegs_6 : decode cX6_pegs 6 = .ok (.istore_n 3, 1) := by decide +kernel
theorem dX6_pegs_7 : decode cX6_pegs 7 = .ok (.aload_n 0, 1) := by decide +kernel
theorem dX6_pegs_8 : decode cX6_pegs 8 = .ok (.getfield 7, 3) := by decide +kernel
theorem dX6_pegs_11 : decode cX6_pegs 11 = .ok (.iconst 1, 1) := by decide +kernel
theorem dX6_pegs_12 : decode cX6_pegs 12 = .ok (.iload_n 3, 1) := by decide +kernel
theorem dX6_pegs_13 : decode cX6_pegs 13 = .ok (.iadd, 1) := by decide +kernel
theorem dX6_pegs_14 : decode cX6_pegs 14 = .ok (.iload_n 1, 1) := by decide +kernel
theorem dX6_pegs_15 : decode cX6_pegs 15 = .ok (.iastore, 1) := by decide +kernel
theorem dX6_pegs_16 : decode cX6_pegs 16 = .ok (.aload_n 0, 1) := by decide +kernel
theorem dX6_pegs_17 : decode cX6_pegs 17 = .ok (.getfield 7, 3) := by decide +kernel
theorem dX6_pegs_20 : decode cX6_pegs 20 = .ok (.bipush 10, 2) := by decide +kernel
theorem dX6_pegs_22 : decode cX6_pegs 22 = .ok (.iload_n 3, 1) := by decide +kernel
theorem dX6_pegs_23 : decode cX6_pegs 23 = .ok (.iadd, 1) := by decide +kernel
theorem dX6_pegs_24 : decode cX6_pegs 24 = .ok (.iload_n 2, 1) := by decide +kernel
theorem dX6_pegs_25 : decode cX6_pegs 25 = .ok (.iastore, 1) := by decide +kernel
theorem dX6_pegs_26 : decode cX6_pegs 26 = .ok (.aload_n 0, 1) := by decide +kernel
theorem dX6_pegs_27 : decode cX6_pegs 27 = .ok (.iload_n 3, 1) := by decide +kernel
theorem dX6_pegs_28 : decode cX6_pegs 28 = .ok (.iconst 0, 1) := by decide +kernel
theorem dX6_pegs_29 : decode cX6_pegs 29 = .ok (.iconst 0, 1) := by decide +kernel
theorem dX6_pegs_30 : decode cX6_pegs 30 = .ok (.iconst 0, 1) := by decide +kernel
theorem dX6_pegs_31 : decode cX6_pegs 31 = .ok (.invokevirtual 104, 3) := by decide +kernel
theorem dX6_pegs_34 : decode cX6_pegs 34 = .ok (.aload_n 0, 1) := by decide +kernel
theorem dX6_pegs_35 : decode cX6_pegs 35 = .ok (.iload_n 3, 1) := by decide +kernel
theorem dX6_pegs_36 : decode cX6_pegs 36 = .ok (.iconst 1, 1) := by decide +kernel
theorem dX6_pegs_37 : decode cX6_pegs 37 = .ok (.iconst 0, 1) := by decide +kernel
theorem dX6_pegs_38 : decode cX6_pegs 38 = .ok (.iconst 0, 1) := by decide +kernel
theorem dX6_pegs_39 : decode cX6_pegs 39 = .ok (.invokevirtual 104, 3) := by decide +kernel
theorem dX6_pegs_42 : decode cX6_pegs 42 = .ok (.aload_n 0, 1) := by decide +kernel
theorem dX6_pegs_43 : decode cX6_pegs 43 = .ok (.getfield 7, 3) := by decide +kernel
theorem dX6_pegs_46 : decode cX6_pegs 46 = .ok (.iconst 0, 1) := by decide +kernel
theorem dX6_pegs_47 : decode cX6_pegs 47 = .ok (.dup2, 1) := by decide +kernel
theorem dX6_pegs_48 : decode cX6_pegs 48 = .ok (.iaload, 1) := by decide +kernel
theorem dX6_pegs_49 : decode cX6_pegs 49 = .ok (.iconst 1, 1) := by decide +kernel
theorem dX6_pegs_50 : decode cX6_pegs 50 = .ok (.iadd, 1) := by decide +kernel
theorem dX6_pegs_51 : decode cX6_pegs 51 = .ok (.iastore, 1) := by decide +kernel
theorem dX6_pegs_52 : decode cX6_pegs 52 = .ok (.iload_n 3, 1) := by decide +kernel
theorem dX6_pegs_53 : decode cX6_pegs 53 = .ok (.ireturn, 1) := by decide +kernel
theorem dX6_addPeg_0 : decode cX6_addPeg 0 = .ok (.aload_n 0, 1) := by decide +kernel
theorem dX6_addPeg_1 : decode cX6_addPeg 1 = .ok (.aload_n 0, 1) := by decide +kernel
theorem dX6_addPeg_2 : decode cX6_addPeg 2 = .ok (.iload_n 1, 1) := by decide +kernel
theorem dX6_addPeg_3 : decode cX6_addPeg 3 = .ok (.iload_n 2, 1) := by decide +kernel
theorem dX6_addPeg_4 : decode cX6_addPeg 4 = .ok (.invokevirtual 108, 3) := by decide +kernel
theorem dX6_addPeg_7 : decode cX6_addPeg 7 = .ok (.invokevirtual 111, 3) := by decide +kernel
theorem dX6_addPeg_10 : decode cX6_addPeg 10 = .ok (.ifCond .ne 5, 3) := by decide +kernel
theorem dX6_addPeg_13 : decode cX6_addPeg 13 = .ok (.iconst 0, 1) := by decide +kernel
theorem dX6_addPeg_14 : decode cX6_addPeg 14 = .ok (.ireturn, 1) := by decide +kernel
theorem dX6_addPeg_15 : decode cX6_addPeg 15 = .ok (.aload_n 0, 1) := by decide +kernel
theorem dX6_addPeg_16 : decode cX6_addPeg 16 = .ok (.invokevirtual 115, 3) := by decide +kernel
theorem dX6_addPeg_19 : decode cX6_addPeg 19 = .ok (.aload_n 0, 1) := by decide +kernel
theorem dX6_addPeg_20 : decode cX6_addPeg 20 = .ok (.iload_n 1, 1) := by decide +kernel
theorem dX6_addPeg_21 : decode cX6_addPeg 21 = .ok (.iload_n 2, 1) := by decide +kernel
theorem dX6_addPeg_22 : decode cX6_addPeg 22 = .ok (.invokevirtual 118, 3) := by decide +kernel
theorem dX6_addPeg_25 : decode cX6_addPeg 25 = .ok (.ireturn, 1) := by decide +kernel
theorem dX6_putFault_0 : decode cX6_putFault 0 = .ok (.aload_n 0, 1) := by decide +kernel
theorem dX6_putFault_1 : decode cX6_putFault 1 = .ok (.iload_n 1, 1) := by decide +kernel
theorem dX6_putFault_2 : decode cX6_putFault 2 = .ok (.invokevirtual 121, 3) := by decide +kernel
theorem dX6_putFault_5 : decode cX6_putFault 5 = .ok (.ifCond .ne 5, 3) := by decide +kernel
theorem dX6_putFault_8 : decode cX6_putFault 8 = .ok (.iconst 1, 1) := by decide +kernel
theorem dX6_putFault_9 : decode cX6_putFault 9 = .ok (.ireturn, 1) := by decide +kernel
theorem dX6_putFault_10 : decode cX6_putFault 10 = .ok (.iload_n 2, 1) := by decide +kernel
theorem dX6_putFault_11 : decode cX6_putFault 11 = .ok (.iconst 0, 1) := by decide +kernel
theorem dX6_putFault_12 : decode cX6_putFault 12 = .ok (.iconst 1, 1) := by decide +kernel
theorem dX6_putFault_13 : decode cX6_putFault 13 = .ok (.invokestatic 46, 3) := by decide +kernel
theorem dX6_putFault_16 : decode cX6_putFault 16 = .ok (.ifCond .eq 34, 3) := by decide +kernel
theorem dX6_putFault_19 : decode cX6_putFault 19 = .ok (.iload 4, 2) := by decide +kernel
theorem dX6_putFault_21 : decode cX6_putFault 21 = .ok (.iload_n 3, 1) := by decide +kernel
theorem dX6_putFault_22 : decode cX6_putFault 22 = .ok (.iconst 1, 1) := by decide +kernel
theorem dX6_putFault_23 : decode cX6_putFault 23 = .ok (.if_icmp .ne 7, 3) := by decide +kernel
theorem dX6_putFault_26 : decode cX6_putFault 26 = .ok (.iconst 0, 1) := by decide +kernel
theorem dX6_putFault_27 : decode cX6_putFault 27 = .ok (.goto 5, 3) := by decide +kernel
theorem dX6_putFault_30 : decode cX6_putFault 30 = .ok (.bipush 6, 2) := by decide +kernel
theorem dX6_putFault_32 : decode cX6_putFault 32 = .ok (.iload_n 3, 1) := by decide +kernel
theorem dX6_putFault_33 : decode cX6_putFault 33 = .ok (.iconst 1, 1) := by decide +kernel
theorem dX6_putFault_34 : decode cX6_putFault 34 = .ok (.if_icmp .ne 8, 3) := by decide +kernel
theorem dX6_putFault_37 : decode cX6_putFault 37 = .ok (.bipush 20, 2) := by decide +kernel
theorem dX6_putFault_39 : decode cX6_putFault 39 = .ok (.goto 5, 3) := by decide +kernel
theorem dX6_putFault_42 : decode cX6_putFault 42 = .ok (.bipush 40, 2) := by decide +kernel
theorem dX6_putFault_44 : decode cX6_putFault 44 = .ok (.invokestatic 46, 3) := by decide +kernel
theorem dX6_putFault_47 : decode cX6_putFault 47 = .ok (.ifCond .ne 5, 3) := by decide +kernel
theorem dX6_putFault_50 : decode cX6_putFault 50 = .ok (.iconst 2, 1) := by decide +kernel
theorem dX6_putFault_51 : decode cX6_putFault 51 = .ok (.ireturn, 1) := by decide +kernel
theorem dX6_putFault_52 : decode cX6_putFault 52 = .ok (.aload_n 0, 1) := by decide +kernel
theorem dX6_putFault_53 : decode cX6_putFault 53 = .ok (.iload_n 1, 1) := by decide +kernel
theorem dX6_putFault_54 : decode cX6_putFault 54 = .ok (.iload_n 2, 1) := by decide +kernel
theorem dX6_putFault_55 : decode cX6_putFault 55 = .ok (.invokevirtual 53, 3) := by decide +kernel
theorem dX6_putFault_58 : decode cX6_putFault 58 = .ok (.istore 5, 2) := by decide +kernel
theorem dX6_putFault_60 : decode cX6_putFault 60 = .ok (.aload_n 0, 1) := by decide +kernel
theorem dX6_putFault_61 : decode cX6_putFault 61 = .ok (.iload_n 1, 1) := by decide +kernel
theorem dX6_putFault_62 : decode cX6_putFault 62 = .ok (.iload_n 2, 1) := by decide +kernel
theorem dX6_putFault_63 : decode cX6_putFault 63 = .ok (.invokevirtual 60, 3) := by decide +kernel
theorem dX6_putFault_66 : decode cX6_putFault 66 = .ok (.istore 6, 2) := by decide +kernel
theorem dX6_putFault_68 : decode cX6_putFault 68 = .ok (.aload_n 0, 1) := by decide +kernel
theorem dX6_putFault_69 : decode cX6_putFault 69 = .ok (.iload_n 1, 1) := by decide +kernel
theorem dX6_putFault_70 : decode cX6_putFault 70 = .ok (.iload_n 2, 1) := by decide +kernel
theorem dX6_putFault_71 : decode cX6_putFault 71 = .ok (.iload_n 3, 1) := by decide +kernel
theorem dX6_putFault_72 : decode cX6_putFault 72 = .ok (.iload 4, 2) := by decide +kernel
theorem dX6_putFault_74 : decode cX6_putFault 74 = .ok (.invokevirtual 104, 3) := by decide +kernel
theorem dX6_putFault_77 : decode cX6_putFault 77 = .ok (.aload_n 0, 1) := by decide +kernel
theorem dX6_putFault_78 : decode cX6_putFault 78 = .ok (.iload_n 1, 1) := by decide +kernel
theorem dX6_putFault_79 : decode cX6_putFault 79 = .ok (.iload_n 2, 1) := by decide +kernel
theorem dX6_putFault_80 : decode cX6_putFault 80 = .ok (.invokevirtual 124, 3) := by decide +kernel
theorem dX6_putFault_83 : decode cX6_putFault 83 = .ok (.istore 7, 2) := by decide +kernel
theorem dX6_putFault_85 : decode cX6_putFault 85 = .ok (.aload_n 0, 1) := by decide +kernel
theorem dX6_putFault_86 : decode cX6_putFault 86 = .ok (.iload_n 1, 1) := by decide +kernel
theorem dX6_putFault_87 : decode cX6_putFault 87 = .ok (.iload_n 2, 1) := by decide +kernel
theorem dX6_putFault_88 : decode cX6_putFault 88 = .ok (.iload 5, 2) := by decide +kernel
theorem dX6_putFault_90 : decode cX6_putFault 90 = .ok (.iload 6, 2) := by decide +kernel
theorem dX6_putFault_92 : decode cX6_putFault 92 = .ok (.invokevirtual 104, 3) := by decide +kernel
theorem dX6_putFault_95 : decode cX6_putFault 95 = .ok (.iload 7, 2) := by decide +kernel
theorem dX6_putFault_97 : decode cX6_putFault 97 = .ok (.ifCond .le 7, 3) := by decide +kernel
theorem dX6_putFault_100 : decode cX6_putFault 100 = .ok (.iconst 3, 1) := by decide +kernel
theorem dX6_putFault_101 : decode cX6_putFault 101 = .ok (.goto 4, 3) := by decide +kernel
theorem dX6_putFault_104 : decode cX6_putFault 104 = .ok (.iconst 0, 1) := by decide +kernel
theorem dX6_putFault_105 : decode cX6_putFault 105 = .ok (.ireturn, 1) := by decide +kernel
theorem dX6_puts_0 : decode cX6_puts 0 = .ok (.aload_n 0, 1) := by decide +kernel
theorem dX6_puts_1 : decode cX6_puts 1 = .ok (.iload_n 1, 1) := by decide +kernel
theorem dX6_puts_2 : decode cX6_puts 2 = .ok (.iload_n 2, 1) := by decide +kernel
theorem dX6_puts_3 : decode cX6_puts 3 = .ok (.iload_n 3, 1) := by decide +kernel
theorem dX6_puts_4 : decode cX6_puts 4 = .ok (.iload 4, 2) := by decide +kernel
theorem dX6_puts_6 : decode cX6_puts 6 = .ok (.invokevirtual 104, 3) := by decide +kernel
theorem dX6_puts_9 : decode cX6_puts 9 = .ok (.aload_n 0, 1) := by decide +kernel
theorem dX6_puts_10 : decode cX6_puts 10 = .ok (.iload_n 1, 1) := by decide +kernel
theorem dX6_puts_11 : decode cX6_puts 11 = .ok (.iconst 1, 1) := by decide +kernel
theorem dX6_puts_12 : decode cX6_puts 12 = .ok (.iload_n 2, 1) := by decide +kernel
theorem dX6_puts_13 : decode cX6_puts 13 = .ok (.ishl, 1) := by decide +kernel
theorem dX6_puts_14 : decode cX6_puts 14 = .ok (.invokevirtual 127, 3) := by decide +kernel
theorem dX6_puts_17 : decode cX6_puts 17 = .ok (.ireturn, 1) := by decide +kernel
theorem dX6_putGear_0 : decode cX6_putGear 0 = .ok (.aload_n 0, 1) := by decide +kernel
theorem dX6_putGear_1 : decode cX6_putGear 1 = .ok (.aload_n 0, 1) := by decide +kernel
theorem dX6_putGear_2 : decode cX6_putGear 2 = .ok (.iload_n 1, 1) := by decide +kernel
theorem dX6_putGear_3 : decode cX6_putGear 3 = .ok (.iload_n 2, 1) := by decide +kernel
theorem dX6_putGear_4 : decode cX6_putGear 4 = .ok (.iconst 1, 1) := by decide +kernel
theorem dX6_putGear_5 : decode cX6_putGear 5 = .ok (.iload_n 3, 1) := by decide +kernel
theorem dX6_putGear_6 : decode cX6_putGear 6 = .ok (.invokevirtual 130, 3) := by decide +kernel
theorem dX6_putGear_9 : decode cX6_putGear 9 = .ok (.invokevirtual 111, 3) := by decide +kernel
theorem dX6_putGear_12 : decode cX6_putGear 12 = .ok (.ifCond .ne 5, 3) := by decide +kernel
theorem dX6_putGear_15 : decode cX6_putGear 15 = .ok (.iconst 0, 1) := by decide +kernel
theorem dX6_putGear_16 : decode cX6_putGear 16 = .ok (.ireturn, 1) := by decide +kernel
theorem dX6_putGear_17 : decode cX6_putGear 17 = .ok (.aload_n 0, 1) := by decide +kernel
theorem dX6_putGear_18 : decode cX6_putGear 18 = .ok (.invokevirtual 115, 3) := by decide +kernel
theorem dX6_putGear_21 : decode cX6_putGear 21 = .ok (.aload_n 0, 1) := by decide +kernel
theorem dX6_putGear_22 : decode cX6_putGear 22 = .ok (.iload_n 1, 1) := by decide +kernel
theorem dX6_putGear_23 : decode cX6_putGear 23 = .ok (.iload_n 2, 1) := by decide +kernel
theorem dX6_putGear_24 : decode cX6_putGear 24 = .ok (.iconst 1, 1) := by decide +kernel
theorem dX6_putGear_25 : decode cX6_putGear 25 = .ok (.iload_n 3, 1) := by decide +kernel
theorem dX6_putGear_26 : decode cX6_putGear 26 = .ok (.invokevirtual 134, 3) := by decide +kernel
theorem dX6_putGear_29 : decode cX6_putGear 29 = .ok (.ireturn, 1) := by decide +kernel
theorem dX6_putRing_0 : decode cX6_putRing 0 = .ok (.aload_n 0, 1) := by decide +kernel
theorem dX6_putRing_1 : decode cX6_putRing 1 = .ok (.aload_n 0, 1) := by decide +kernel
theorem dX6_putRing_2 : decode cX6_putRing 2 = .ok (.iload_n 1, 1) := by decide +kernel
theorem dX6_putRing_3 : decode cX6_putRing 3 = .ok (.iload_n 2, 1) := by decide +kernel
theorem dX6_putRing_4 : decode cX6_putRing 4 = .ok (.iconst 2, 1) := by decide +kernel
theorem dX6_putRing_5 : decode cX6_putRing 5 = .ok (.iload_n 3, 1) := by decide +kernel
theorem dX6_putRing_6 : decode cX6_putRing 6 = .ok (.invokevirtual 130, 3) := by decide +kernel
theorem dX6_putRing_9 : decode cX6_putRing 9 = .ok (.invokevirtual 111, 3) := by decide +kernel
theorem dX6_putRing_12 : decode cX6_putRing 12 = .ok (.ifCond .ne 5, 3) := by decide +kernel
theorem dX6_putRing_15 : decode cX6_putRing 15 = .ok (.iconst 0, 1) := by decide +kernel
theorem dX6_putRing_16 : decode cX6_putRing 16 = .ok (.ireturn, 1) := by decide +kernel
theorem dX6_putRing_17 : decode cX6_putRing 17 = .ok (.aload_n 0, 1) := by decide +kernel
theorem dX6_putRing_18 : decode cX6_putRing 18 = .ok (.invokevirtual 115, 3) := by decide +kernel
theorem dX6_putRing_21 : decode cX6_putRing 21 = .ok (.aload_n 0, 1) := by decide +kernel
theorem dX6_putRing_22 : decode cX6_putRing 22 = .ok (.iload_n 1, 1) := by decide +kernel
theorem dX6_putRing_23 : decode cX6_putRing 23 = .ok (.iload_n 2, 1) := by decide +kernel
theorem dX6_putRing_24 : decode cX6_putRing 24 = .ok (.iconst 2, 1) := by decide +kernel
theorem dX6_putRing_25 : decode cX6_putRing 25 = .ok (.iload_n 3, 1) := by decide +kernel
theorem dX6_putRing_26 : decode cX6_putRing 26 = .ok (.invokevirtual 134, 3) := by decide +kernel
theorem dX6_putRing_29 : decode cX6_putRing 29 = .ok (.ireturn, 1) := by decide +kernel
theorem dX6_goTo_0 : decode cX6_goTo 0 = .ok (.aload_n 0, 1) := by decide +kernel
theorem dX6_goTo_1 : decode cX6_goTo 1 = .ok (.getfield 7, 3) := by decide +kernel
theorem dX6_goTo_4 : decode cX6_goTo 4 = .ok (.iconst 1, 1) := by decide +kernel
theorem dX6_goTo_5 : decode cX6_goTo 5 = .ok (.iload_n 1, 1) := by decide +kernel
theorem dX6_goTo_6 : decode cX6_goTo 6 = .ok (.iadd, 1) := by decide +kernel
theorem dX6_goTo_7 : decode cX6_goTo 7 = .ok (.iload_n 2, 1) := by decide +kernel
theorem dX6_goTo_8 : decode cX6_goTo 8 = .ok (.iastore, 1) := by decide +kernel
theorem dX6_goTo_9 : decode cX6_goTo 9 = .ok (.aload_n 0, 1) := by decide +kernel
theorem dX6_goTo_10 : decode cX6_goTo 10 = .ok (.getfield 7, 3) := by decide +kernel
theorem dX6_goTo_13 : decode cX6_goTo 13 = .ok (.bipush 10, 2) := by decide +kernel
theorem dX6_goTo_15 : decode cX6_goTo 15 = .ok (.iload_n 1, 1) := by decide +kernel
theorem dX6_goTo_16 : decode cX6_goTo 16 = .ok (.iadd, 1) := by decide +kernel
theorem dX6_goTo_17 : decode cX6_goTo 17 = .ok (.iload_n 3, 1) := by decide +kernel
theorem dX6_goTo_18 : decode cX6_goTo 18 = .ok (.iastore, 1) := by decide +kernel
theorem dX6_goTo_19 : decode cX6_goTo 19 = .ok (.return_, 1) := by decide +kernel
theorem dX6_moveFault_0 : decode cX6_moveFault 0 = .ok (.aload_n 0, 1) := by decide +kernel
theorem dX6_moveFault_1 : decode cX6_moveFault 1 = .ok (.iload_n 1, 1) := by decide +kernel
theorem dX6_moveFault_2 : decode cX6_moveFault 2 = .ok (.invokevirtual 121, 3) := by decide +kernel
theorem dX6_moveFault_5 : decode cX6_moveFault 5 = .ok (.ifCond .ne 5, 3) := by decide +kernel
theorem dX6_moveFault_8 : decode cX6_moveFault 8 = .ok (.iconst 1, 1) := by decide +kernel
theorem dX6_moveFault_9 : decode cX6_moveFault 9 = .ok (.ireturn, 1) := by decide +kernel
theorem dX6_moveFault_10 : decode cX6_moveFault 10 = .ok (.iload_n 2, 1) := by decide +kernel
theorem dX6_moveFault_11 : decode cX6_moveFault 11 = .ok (.iload_n 3, 1) := by decide +kernel
theorem dX6_moveFault_12 : decode cX6_moveFault 12 = .ok (.invokestatic 97, 3) := by decide +kernel
theorem dX6_moveFault_15 : decode cX6_moveFault 15 = .ok (.ifCond .ne 5, 3) := by decide +kernel
theorem dX6_moveFault_18 : decode cX6_moveFault 18 = .ok (.iconst 2, 1) := by decide +kernel
theorem dX6_moveFault_19 : decode cX6_moveFault 19 = .ok (.ireturn, 1) := by decide +kernel
theorem dX6_moveFault_20 : decode cX6_moveFault 20 = .ok (.aload_n 0, 1) := by decide +kernel
theorem dX6_moveFault_21 : decode cX6_moveFault 21 = .ok (.iload_n 2, 1) := by decide +kernel
theorem dX6_moveFault_22 : decode cX6_moveFault 22 = .ok (.iload_n 3, 1) := by decide +kernel
theorem dX6_moveFault_23 : decode cX6_moveFault 23 = .ok (.invokevirtual 101, 3) := by decide +kernel
theorem dX6_moveFault_26 : decode cX6_moveFault 26 = .ok (.istore 4, 2) := by decide +kernel
theorem dX6_moveFault_28 : decode cX6_moveFault 28 = .ok (.aload_n 0, 1) := by decide +kernel
theorem dX6_moveFault_29 : decode cX6_moveFault 29 = .ok (.getfield 7, 3) := by decide +kernel
theorem dX6_moveFault_32 : decode cX6_moveFault 32 = .ok (.iconst 1, 1) := by decide +kernel
theorem dX6_moveFault_33 : decode cX6_moveFault 33 = .ok (.iload_n 1, 1) := by decide +kernel
theorem dX6_moveFault_34 : decode cX6_moveFault 34 = .ok (.iadd, 1) := by decide +kernel
theorem dX6_moveFault_35 : decode cX6_moveFault 35 = .ok (.iaload, 1) := by decide +kernel
theorem dX6_moveFault_36 : decode cX6_moveFault 36 = .ok (.istore 5, 2) := by decide +kernel
theorem dX6_moveFault_38 : decode cX6_moveFault 38 = .ok (.aload_n 0, 1) := by decide +kernel
theorem dX6_moveFault_39 : decode cX6_moveFault 39 = .ok (.getfield 7, 3) := by decide +kernel
theorem dX6_moveFault_42 : decode cX6_moveFault 42 = .ok (.bipush 10, 2) := by decide +kernel
theorem dX6_moveFault_44 : decode cX6_moveFault 44 = .ok (.iload_n 1, 1) := by decide +kernel
theorem dX6_moveFault_45 : decode cX6_moveFault 45 = .ok (.iadd, 1) := by decide +kernel
theorem dX6_moveFault_46 : decode cX6_moveFault 46 = .ok (.iaload, 1) := by decide +kernel
theorem dX6_moveFault_47 : decode cX6_moveFault 47 = .ok (.istore 6, 2) := by decide +kernel
theorem dX6_moveFault_49 : decode cX6_moveFault 49 = .ok (.aload_n 0, 1) := by decide +kernel
theorem dX6_moveFault_50 : decode cX6_moveFault 50 = .ok (.iload_n 1, 1) := by decide +kernel
theorem dX6_moveFault_51 : decode cX6_moveFault 51 = .ok (.iload_n 2, 1) := by decide +kernel
theorem dX6_moveFault_52 : decode cX6_moveFault 52 = .ok (.iload_n 3, 1) := by decide +kernel
theorem dX6_moveFault_53 : decode cX6_moveFault 53 = .ok (.invokevirtual 137, 3) := by decide +kernel
theorem dX6_moveFault_56 : decode cX6_moveFault 56 = .ok (.aload_n 0, 1) := by decide +kernel
theorem dX6_moveFault_57 : decode cX6_moveFault 57 = .ok (.iload_n 1, 1) := by decide +kernel
theorem dX6_moveFault_58 : decode cX6_moveFault 58 = .ok (.iconst 0, 1) := by decide +kernel
theorem dX6_moveFault_59 : decode cX6_moveFault 59 = .ok (.invokevirtual 124, 3) := by decide +kernel
theorem dX6_moveFault_62 : decode cX6_moveFault 62 = .ok (.aload_n 0, 1) := by decide +kernel
theorem dX6_moveFault_63 : decode cX6_moveFault 63 = .ok (.iload_n 1, 1) := by decide +kernel
theorem dX6_moveFault_64 : decode cX6_moveFault 64 = .ok (.iconst 1, 1) := by decide +kernel
theorem dX6_moveFault_65 : decode cX6_moveFault 65 = .ok (.invokevirtual 124, 3) := by decide +kernel
theorem dX6_moveFault_68 : decode cX6_moveFault 68 = .ok (.iadd, 1) := by decide +kernel
theorem dX6_moveFault_69 : decode cX6_moveFault 69 = .ok (.istore 7, 2) := by decide +kernel
theorem dX6_moveFault_71 : decode cX6_moveFault 71 = .ok (.aload_n 0, 1) := by decide +kernel
theorem dX6_moveFault_72 : decode cX6_moveFault 72 = .ok (.iload_n 1, 1) := by decide +kernel
theorem dX6_moveFault_73 : decode cX6_moveFault 73 = .ok (.iload 5, 2) := by decide +kernel
theorem dX6_moveFault_75 : decode cX6_moveFault 75 = .ok (.iload 6, 2) := by decide +kernel
theorem dX6_moveFault_77 : decode cX6_moveFault 77 = .ok (.invokevirtual 137, 3) := by decide +kernel
theorem dX6_moveFault_80 : decode cX6_moveFault 80 = .ok (.iload 4, 2) := by decide +kernel
theorem dX6_moveFault_82 : decode cX6_moveFault 82 = .ok (.iconst (-1), 1) := by decide +kernel
theorem dX6_moveFault_83 : decode cX6_moveFault 83 = .ok (.if_icmp .eq 9, 3) := by decide +kernel
theorem dX6_moveFault_86 : decode cX6_moveFault 86 = .ok (.iload 4, 2) := by decide +kernel
theorem dX6_moveFault_88 : decode cX6_moveFault 88 = .ok (.iload_n 1, 1) := by decide +kernel
theorem dX6_moveFault_89 : decode cX6_moveFault 89 = .ok (.if_icmp .ne 8, 3) := by decide +kernel
theorem dX6_moveFault_92 : decode cX6_moveFault 92 = .ok (.iload 7, 2) := by decide +kernel
theorem dX6_moveFault_94 : decode cX6_moveFault 94 = .ok (.ifCond .le 7, 3) := by decide +kernel
theorem dX6_moveFault_97 : decode cX6_moveFault 97 = .ok (.iconst 3, 1) := by decide +kernel
theorem dX6_moveFault_98 : decode cX6_moveFault 98 = .ok (.goto 4, 3) := by decide +kernel
theorem dX6_moveFault_101 : decode cX6_moveFault 101 = .ok (.iconst 0, 1) := by decide +kernel
theorem dX6_moveFault_102 : decode cX6_moveFault 102 = .ok (.ireturn, 1) := by decide +kernel
theorem dX6_move_0 : decode cX6_move 0 = .ok (.aload_n 0, 1) := by decide +kernel
theorem dX6_move_1 : decode cX6_move 1 = .ok (.aload_n 0, 1) := by decide +kernel
theorem dX6_move_2 : decode cX6_move 2 = .ok (.iload_n 1, 1) := by decide +kernel
theorem dX6_move_3 : decode cX6_move 3 = .ok (.iload_n 2, 1) := by decide +kernel
theorem dX6_move_4 : decode cX6_move 4 = .ok (.iload_n 3, 1) := by decide +kernel
theorem dX6_move_5 : decode cX6_move 5 = .ok (.invokevirtual 141, 3) := by decide +kernel
theorem dX6_move_8 : decode cX6_move 8 = .ok (.invokevirtual 111, 3) := by decide +kernel
theorem dX6_move_11 : decode cX6_move 11 = .ok (.ifCond .ne 5, 3) := by decide +kernel
theorem dX6_move_14 : decode cX6_move 14 = .ok (.iconst 0, 1) := by decide +kernel
theorem dX6_move_15 : decode cX6_move 15 = .ok (.ireturn, 1) := by decide +kernel
theorem dX6_move_16 : decode cX6_move 16 = .ok (.aload_n 0, 1) := by decide +kernel
theorem dX6_move_17 : decode cX6_move 17 = .ok (.invokevirtual 115, 3) := by decide +kernel
theorem dX6_move_20 : decode cX6_move 20 = .ok (.aload_n 0, 1) := by decide +kernel
theorem dX6_move_21 : decode cX6_move 21 = .ok (.iload_n 1, 1) := by decide +kernel
theorem dX6_move_22 : decode cX6_move 22 = .ok (.iload_n 2, 1) := by decide +kernel
theorem dX6_move_23 : decode cX6_move 23 = .ok (.iload_n 3, 1) := by decide +kernel
theorem dX6_move_24 : decode cX6_move 24 = .ok (.invokevirtual 137, 3) := by decide +kernel
theorem dX6_move_27 : decode cX6_move 27 = .ok (.aload_n 0, 1) := by decide +kernel
theorem dX6_move_28 : decode cX6_move 28 = .ok (.iload_n 1, 1) := by decide +kernel
theorem dX6_move_29 : decode cX6_move 29 = .ok (.iconst 3, 1) := by decide +kernel
theorem dX6_move_30 : decode cX6_move 30 = .ok (.invokevirtual 127, 3) := by decide +kernel
theorem dX6_move_33 : decode cX6_move 33 = .ok (.ireturn, 1) := by decide +kernel
theorem dX6_exchange_0 : decode cX6_exchange 0 = .ok (.aload_n 0, 1) := by decide +kernel
theorem dX6_exchange_1 : decode cX6_exchange 1 = .ok (.iload_n 1, 1) := by decide +kernel
theorem dX6_exchange_2 : decode cX6_exchange 2 = .ok (.iconst 0, 1) := by decide +kernel
theorem dX6_exchange_3 : decode cX6_exchange 3 = .ok (.invokevirtual 53, 3) := by decide +kernel
theorem dX6_exchange_6 : decode cX6_exchange 6 = .ok (.istore_n 2, 1) := by decide +kernel
theorem dX6_exchange_7 : decode cX6_exchange 7 = .ok (.aload_n 0, 1) := by decide +kernel
theorem dX6_exchange_8 : decode cX6_exchange 8 = .ok (.iload_n 1, 1) := by decide +kernel
theorem dX6_exchange_9 : decode cX6_exchange 9 = .ok (.iconst 0, 1) := by decide +kernel
theorem dX6_exchange_10 : decode cX6_exchange 10 = .ok (.invokevirtual 60, 3) := by decide +kernel
theorem dX6_exchange_13 : decode cX6_exchange 13 = .ok (.istore_n 3, 1) := by decide +kernel
theorem dX6_exchange_14 : decode cX6_exchange 14 = .ok (.aload_n 0, 1) := by decide +kernel
theorem dX6_exchange_15 : decode cX6_exchange 15 = .ok (.iload_n 1, 1) := by decide +kernel
theorem dX6_exchange_16 : decode cX6_exchange 16 = .ok (.iconst 0, 1) := by decide +kernel
theorem dX6_exchange_17 : decode cX6_exchange 17 = .ok (.aload_n 0, 1) := by decide +kernel
theorem dX6_exchange_18 : decode cX6_exchange 18 = .ok (.iload_n 1, 1) := by decide +kernel
theorem dX6_exchange_19 : decode cX6_exchange 19 = .ok (.iconst 1, 1) := by decide +kernel
theorem dX6_exchange_20 : decode cX6_exchange 20 = .ok (.invokevirtual 53, 3) := by decide +kernel
theorem dX6_exchange_23 : decode cX6_exchange 23 = .ok (.aload_n 0, 1) := by decide +kernel
theorem dX6_exchange_24 : decode cX6_exchange 24 = .ok (.iload_n 1, 1) := by decide +kernel
theorem dX6_exchange_25 : decode cX6_exchange 25 = .ok (.iconst 1, 1) := by decide +kernel
theorem dX6_exchange_26 : decode cX6_exchange 26 = .ok (.invokevirtual 60, 3) := by decide +kernel
theorem dX6_exchange_29 : decode cX6_exchange 29 = .ok (.invokevirtual 104, 3) := by decide +kernel
theorem dX6_exchange_32 : decode cX6_exchange 32 = .ok (.aload_n 0, 1) := by decide +kernel
theorem dX6_exchange_33 : decode cX6_exchange 33 = .ok (.iload_n 1, 1) := by decide +kernel
theorem dX6_exchange_34 : decode cX6_exchange 34 = .ok (.iconst 1, 1) := by decide +kernel
theorem dX6_exchange_35 : decode cX6_exchange 35 = .ok (.iload_n 2, 1) := by decide +kernel
theorem dX6_exchange_36 : decode cX6_exchange 36 = .ok (.iload_n 3, 1) := by decide +kernel
theorem dX6_exchange_37 : decode cX6_exchange 37 = .ok (.invokevirtual 104, 3) := by decide +kernel
theorem dX6_exchange_40 : decode cX6_exchange 40 = .ok (.return_, 1) := by decide +kernel
theorem dX6_flipFault_0 : decode cX6_flipFault 0 = .ok (.aload_n 0, 1) := by decide +kernel
theorem dX6_flipFault_1 : decode cX6_flipFault 1 = .ok (.iload_n 1, 1) := by decide +kernel
theorem dX6_flipFault_2 : decode cX6_flipFault 2 = .ok (.invokevirtual 121, 3) := by decide +kernel
theorem dX6_flipFault_5 : decode cX6_flipFault 5 = .ok (.ifCond .ne 5, 3) := by decide +kernel
theorem dX6_flipFault_8 : decode cX6_flipFault 8 = .ok (.iconst 1, 1) := by decide +kernel
theorem dX6_flipFault_9 : decode cX6_flipFault 9 = .ok (.ireturn, 1) := by decide +kernel
theorem dX6_flipFault_10 : decode cX6_flipFault 10 = .ok (.aload_n 0, 1) := by decide +kernel
theorem dX6_flipFault_11 : decode cX6_flipFault 11 = .ok (.iload_n 1, 1) := by decide +kernel
theorem dX6_flipFault_12 : decode cX6_flipFault 12 = .ok (.invokevirtual 145, 3) := by decide +kernel
theorem dX6_flipFault_15 : decode cX6_flipFault 15 = .ok (.aload_n 0, 1) := by decide +kernel
theorem dX6_flipFault_16 : decode cX6_flipFault 16 = .ok (.iload_n 1, 1) := by decide +kernel
theorem dX6_flipFault_17 : decode cX6_flipFault 17 = .ok (.iconst 0, 1) := by decide +kernel
theorem dX6_flipFault_18 : decode cX6_flipFault 18 = .ok (.invokevirtual 124, 3) := by decide +kernel
theorem dX6_flipFault_21 : decode cX6_flipFault 21 = .ok (.aload_n 0, 1) := by decide +kernel
theorem dX6_flipFault_22 : decode cX6_flipFault 22 = .ok (.iload_n 1, 1) := by decide +kernel
theorem dX6_flipFault_23 : decode cX6_flipFault 23 = .ok (.iconst 1, 1) := by decide +kernel
theorem dX6_flipFault_24 : decode cX6_flipFault 24 = .ok (.invokevirtual 124, 3) := by decide +kernel
theorem dX6_flipFault_27 : decode cX6_flipFault 27 = .ok (.iadd, 1) := by decide +kernel
theorem dX6_flipFault_28 : decode cX6_flipFault 28 = .ok (.istore_n 2, 1) := by decide +kernel
theorem dX6_flipFault_29 : decode cX6_flipFault 29 = .ok (.aload_n 0, 1) := by decide +kernel
theorem dX6_flipFault_30 : decode cX6_flipFault 30 = .ok (.iload_n 1, 1) := by decide +kernel
theorem dX6_flipFault_31 : decode cX6_flipFault 31 = .ok (.invokevirtual 145, 3) := by decide +kernel
theorem dX6_flipFault_34 : decode cX6_flipFault 34 = .ok (.iload_n 2, 1) := by decide +kernel
theorem dX6_flipFault_35 : decode cX6_flipFault 35 = .ok (.ifCond .le 7, 3) := by decide +kernel
theorem dX6_flipFault_38 : decode cX6_flipFault 38 = .ok (.iconst 2, 1) := by decide +kernel
theorem dX6_flipFault_39 : decode cX6_flipFault 39 = .ok (.goto 4, 3) := by decide +kernel
theorem dX6_flipFault_42 : decode cX6_flipFault 42 = .ok (.iconst 0, 1) := by decide +kernel
theorem dX6_flipFault_43 : decode cX6_flipFault 43 = .ok (.ireturn, 1) := by decide +kernel
theorem dX6_flip_0 : decode cX6_flip 0 = .ok (.aload_n 0, 1) := by decide +kernel
theorem dX6_flip_1 : decode cX6_flip 1 = .ok (.aload_n 0, 1) := by decide +kernel
theorem dX6_flip_2 : decode cX6_flip 2 = .ok (.iload_n 1, 1) := by decide +kernel
theorem dX6_flip_3 : decode cX6_flip 3 = .ok (.invokevirtual 149, 3) := by decide +kernel
theorem dX6_flip_6 : decode cX6_flip 6 = .ok (.invokevirtual 111, 3) := by decide +kernel
theorem dX6_flip_9 : decode cX6_flip 9 = .ok (.ifCond .ne 5, 3) := by decide +kernel
theorem dX6_flip_12 : decode cX6_flip 12 = .ok (.iconst 0, 1) := by decide +kernel
theorem dX6_flip_13 : decode cX6_flip 13 = .ok (.ireturn, 1) := by decide +kernel
theorem dX6_flip_14 : decode cX6_flip 14 = .ok (.aload_n 0, 1) := by decide +kernel
theorem dX6_flip_15 : decode cX6_flip 15 = .ok (.invokevirtual 115, 3) := by decide +kernel
theorem dX6_flip_18 : decode cX6_flip 18 = .ok (.aload_n 0, 1) := by decide +kernel
theorem dX6_flip_19 : decode cX6_flip 19 = .ok (.iload_n 1, 1) := by decide +kernel
theorem dX6_flip_20 : decode cX6_flip 20 = .ok (.invokevirtual 145, 3) := by decide +kernel
theorem dX6_flip_23 : decode cX6_flip 23 = .ok (.aload_n 0, 1) := by decide +kernel
theorem dX6_flip_24 : decode cX6_flip 24 = .ok (.iload_n 1, 1) := by decide +kernel
theorem dX6_flip_25 : decode cX6_flip 25 = .ok (.iconst 3, 1) := by decide +kernel
theorem dX6_flip_26 : decode cX6_flip 26 = .ok (.invokevirtual 127, 3) := by decide +kernel
theorem dX6_flip_29 : decode cX6_flip 29 = .ok (.ireturn, 1) := by decide +kernel
theorem dX6_drives_0 : decode cX6_drives 0 = .ok (.aload_n 0, 1) := by decide +kernel
theorem dX6_drives_1 : decode cX6_drives 1 = .ok (.getfield 7, 3) := by decide +kernel
theorem dX6_drives_4 : decode cX6_drives 4 = .ok (.bipush 55, 2) := by decide +kernel
theorem dX6_drives_6 : decode cX6_drives 6 = .ok (.iaload, 1) := by decide +kernel
theorem dX6_drives_7 : decode cX6_drives 7 = .ok (.istore_n 2, 1) := by decide +kernel
theorem dX6_drives_8 : decode cX6_drives 8 = .ok (.aload_n 0, 1) := by decide +kernel
theorem dX6_drives_9 : decode cX6_drives 9 = .ok (.getfield 7, 3) := by decide +kernel
theorem dX6_drives_12 : decode cX6_drives 12 = .ok (.bipush 55, 2) := by decide +kernel
theorem dX6_drives_14 : decode cX6_drives 14 = .ok (.iload_n 1, 1) := by decide +kernel
theorem dX6_drives_15 : decode cX6_drives 15 = .ok (.iastore, 1) := by decide +kernel
theorem dX6_drives_16 : decode cX6_drives 16 = .ok (.iload_n 2, 1) := by decide +kernel
theorem dX6_drives_17 : decode cX6_drives 17 = .ok (.ireturn, 1) := by decide +kernel
theorem dX6_drive_0 : decode cX6_drive 0 = .ok (.aload_n 0, 1) := by decide +kernel
theorem dX6_drive_1 : decode cX6_drive 1 = .ok (.aload_n 0, 1) := by decide +kernel
theorem dX6_drive_2 : decode cX6_drive 2 = .ok (.iload_n 1, 1) := by decide +kernel
theorem dX6_drive_3 : decode cX6_drive 3 = .ok (.invokevirtual 121, 3) := by decide +kernel
theorem dX6_drive_6 : decode cX6_drive 6 = .ok (.ifCond .eq 7, 3) := by decide +kernel
theorem dX6_drive_9 : decode cX6_drive 9 = .ok (.iconst 0, 1) := by decide +kernel
theorem dX6_drive_10 : decode cX6_drive 10 = .ok (.goto 4, 3) := by decide +kernel
theorem dX6_drive_13 : decode cX6_drive 13 = .ok (.iconst 1, 1) := by decide +kernel
theorem dX6_drive_14 : decode cX6_drive 14 = .ok (.invokevirtual 111, 3) := by decide +kernel
theorem dX6_drive_17 : decode cX6_drive 17 = .ok (.ifCond .ne 5, 3) := by decide +kernel
theorem dX6_drive_20 : decode cX6_drive 20 = .ok (.iconst 0, 1) := by decide +kernel
theorem dX6_drive_21 : decode cX6_drive 21 = .ok (.ireturn, 1) := by decide +kernel
theorem dX6_drive_22 : decode cX6_drive 22 = .ok (.aload_n 0, 1) := by decide +kernel
theorem dX6_drive_23 : decode cX6_drive 23 = .ok (.invokevirtual 115, 3) := by decide +kernel
theorem dX6_drive_26 : decode cX6_drive 26 = .ok (.aload_n 0, 1) := by decide +kernel
theorem dX6_drive_27 : decode cX6_drive 27 = .ok (.iload_n 1, 1) := by decide +kernel
theorem dX6_drive_28 : decode cX6_drive 28 = .ok (.invokevirtual 153, 3) := by decide +kernel
theorem dX6_drive_31 : decode cX6_drive 31 = .ok (.ireturn, 1) := by decide +kernel
theorem dX6_goal_0 : decode cX6_goal 0 = .ok (.aload_n 0, 1) := by decide +kernel
theorem dX6_goal_1 : decode cX6_goal 1 = .ok (.aload_n 0, 1) := by decide +kernel
theorem dX6_goal_2 : decode cX6_goal 2 = .ok (.iload_n 1, 1) := by decide +kernel
theorem dX6_goal_3 : decode cX6_goal 3 = .ok (.invokevirtual 121, 3) := by decide +kernel
theorem dX6_goal_6 : decode cX6_goal 6 = .ok (.ifCond .ne 7, 3) := by decide +kernel
theorem dX6_goal_9 : decode cX6_goal 9 = .ok (.iconst 1, 1) := by decide +kernel
theorem dX6_goal_10 : decode cX6_goal 10 = .ok (.goto 29, 3) := by decide +kernel
theorem dX6_goal_13 : decode cX6_goal 13 = .ok (.iload_n 2, 1) := by decide +kernel
theorem dX6_goal_14 : decode cX6_goal 14 = .ok (.bipush (-99), 2) := by decide +kernel
theorem dX6_goal_16 : decode cX6_goal 16 = .ok (.bipush 99, 2) := by decide +kernel
theorem dX6_goal_18 : decode cX6_goal 18 = .ok (.invokestatic 46, 3) := by decide +kernel
theorem dX6_goal_21 : decode cX6_goal 21 = .ok (.ifCond .eq 13, 3) := by decide +kernel
theorem dX6_goal_24 : decode cX6_goal 24 = .ok (.iload_n 3, 1) := by decide +kernel
theorem dX6_goal_25 : decode cX6_goal 25 = .ok (.iconst 1, 1) := by decide +kernel
theorem dX6_goal_26 : decode cX6_goal 26 = .ok (.bipush 99, 2) := by decide +kernel
theorem dX6_goal_28 : decode cX6_goal 28 = .ok (.invokestatic 46, 3) := by decide +kernel
theorem dX6_goal_31 : decode cX6_goal 31 = .ok (.ifCond .ne 7, 3) := by decide +kernel
theorem dX6_goal_34 : decode cX6_goal 34 = .ok (.iconst 2, 1) := by decide +kernel
theorem dX6_goal_35 : decode cX6_goal 35 = .ok (.goto 4, 3) := by decide +kernel
theorem dX6_goal_38 : decode cX6_goal 38 = .ok (.iconst 0, 1) := by decide +kernel
theorem dX6_goal_39 : decode cX6_goal 39 = .ok (.invokevirtual 111, 3) := by decide +kernel
theorem dX6_goal_42 : decode cX6_goal 42 = .ok (.ifCond .ne 5, 3) := by decide +kernel
theorem dX6_goal_45 : decode cX6_goal 45 = .ok (.iconst 0, 1) := by decide +kernel
theorem dX6_goal_46 : decode cX6_goal 46 = .ok (.ireturn, 1) := by decide +kernel
theorem dX6_goal_47 : decode cX6_goal 47 = .ok (.aload_n 0, 1) := by decide +kernel
theorem dX6_goal_48 : decode cX6_goal 48 = .ok (.invokevirtual 115, 3) := by decide +kernel
theorem dX6_goal_51 : decode cX6_goal 51 = .ok (.iload_n 2, 1) := by decide +kernel
theorem dX6_goal_52 : decode cX6_goal 52 = .ok (.i2l, 1) := by decide +kernel
theorem dX6_goal_53 : decode cX6_goal 53 = .ok (.iload_n 3, 1) := by decide +kernel
theorem dX6_goal_54 : decode cX6_goal 54 = .ok (.i2l, 1) := by decide +kernel
theorem dX6_goal_55 : decode cX6_goal 55 = .ok (.invokestatic 78, 3) := by decide +kernel
theorem dX6_goal_58 : decode cX6_goal 58 = .ok (.l2i, 1) := by decide +kernel
theorem dX6_goal_59 : decode cX6_goal 59 = .ok (.istore 4, 2) := by decide +kernel
theorem dX6_goal_61 : decode cX6_goal 61 = .ok (.aload_n 0, 1) := by decide +kernel
theorem dX6_goal_62 : decode cX6_goal 62 = .ok (.getfield 7, 3) := by decide +kernel
theorem dX6_goal_65 : decode cX6_goal 65 = .ok (.bipush 56, 2) := by decide +kernel
theorem dX6_goal_67 : decode cX6_goal 67 = .ok (.iload_n 1, 1) := by decide +kernel
theorem dX6_goal_68 : decode cX6_goal 68 = .ok (.iastore, 1) := by decide +kernel
theorem dX6_goal_69 : decode cX6_goal 69 = .ok (.aload_n 0, 1) := by decide +kernel
theorem dX6_goal_70 : decode cX6_goal 70 = .ok (.getfield 7, 3) := by decide +kernel
theorem dX6_goal_73 : decode cX6_goal 73 = .ok (.bipush 57, 2) := by decide +kernel
theorem dX6_goal_75 : decode cX6_goal 75 = .ok (.iload_n 2, 1) := by decide +kernel
theorem dX6_goal_76 : decode cX6_goal 76 = .ok (.iload 4, 2) := by decide +kernel
theorem dX6_goal_78 : decode cX6_goal 78 = .ok (.idiv, 1) := by decide +kernel
theorem dX6_goal_79 : decode cX6_goal 79 = .ok (.iastore, 1) := by decide +kernel
theorem dX6_goal_80 : decode cX6_goal 80 = .ok (.aload_n 0, 1) := by decide +kernel
theorem dX6_goal_81 : decode cX6_goal 81 = .ok (.getfield 7, 3) := by decide +kernel
theorem dX6_goal_84 : decode cX6_goal 84 = .ok (.bipush 58, 2) := by decide +kernel
theorem dX6_goal_86 : decode cX6_goal 86 = .ok (.iload_n 3, 1) := by decide +kernel
theorem dX6_goal_87 : decode cX6_goal 87 = .ok (.iload 4, 2) := by decide +kernel
theorem dX6_goal_89 : decode cX6_goal 89 = .ok (.idiv, 1) := by decide +kernel
theorem dX6_goal_90 : decode cX6_goal 90 = .ok (.iastore, 1) := by decide +kernel
theorem dX6_goal_91 : decode cX6_goal 91 = .ok (.aload_n 0, 1) := by decide +kernel
theorem dX6_goal_92 : decode cX6_goal 92 = .ok (.invokevirtual 156, 3) := by decide +kernel
theorem dX6_goal_95 : decode cX6_goal 95 = .ok (.aload_n 0, 1) := by decide +kernel
theorem dX6_goal_96 : decode cX6_goal 96 = .ok (.invokevirtual 159, 3) := by decide +kernel
theorem dX6_goal_99 : decode cX6_goal 99 = .ok (.ifCond .eq 7, 3) := by decide +kernel
theorem dX6_goal_102 : decode cX6_goal 102 = .ok (.iconst 1, 1) := by decide +kernel
theorem dX6_goal_103 : decode cX6_goal 103 = .ok (.goto 4, 3) := by decide +kernel
theorem dX6_goal_106 : decode cX6_goal 106 = .ok (.iconst 0, 1) := by decide +kernel
theorem dX6_goal_107 : decode cX6_goal 107 = .ok (.ireturn, 1) := by decide +kernel
theorem dX6_set_0 : decode cX6_set 0 = .ok (.aload_n 0, 1) := by decide +kernel
theorem dX6_set_1 : decode cX6_set 1 = .ok (.iload_n 1, 1) := by decide +kernel
theorem dX6_set_2 : decode cX6_set 2 = .ok (.iconst 0, 1) := by decide +kernel
theorem dX6_set_3 : decode cX6_set 3 = .ok (.iconst 3, 1) := by decide +kernel
theorem dX6_set_4 : decode cX6_set 4 = .ok (.invokestatic 46, 3) := by decide +kernel
theorem dX6_set_7 : decode cX6_set 7 = .ok (.ifCond .eq 7, 3) := by decide +kernel
theorem dX6_set_10 : decode cX6_set 10 = .ok (.iconst 0, 1) := by decide +kernel
theorem dX6_set_11 : decode cX6_set 11 = .ok (.goto 4, 3) := by decide +kernel
theorem dX6_set_14 : decode cX6_set 14 = .ok (.iconst 1, 1) := by decide +kernel
theorem dX6_set_15 : decode cX6_set 15 = .ok (.invokevirtual 111, 3) := by decide +kernel
theorem dX6_set_18 : decode cX6_set 18 = .ok (.ifCond .ne 5, 3) := by decide +kernel
theorem dX6_set_21 : decode cX6_set 21 = .ok (.iconst 0, 1) := by decide +kernel
theorem dX6_set_22 : decode cX6_set 22 = .ok (.ireturn, 1) := by decide +kernel
theorem dX6_set_23 : decode cX6_set 23 = .ok (.aload_n 0, 1) := by decide +kernel
theorem dX6_set_24 : decode cX6_set 24 = .ok (.invokevirtual 115, 3) := by decide +kernel
theorem dX6_set_27 : decode cX6_set 27 = .ok (.aload_n 0, 1) := by decide +kernel
theorem dX6_set_28 : decode cX6_set 28 = .ok (.getfield 7, 3) := by decide +kernel
theorem dX6_set_31 : decode cX6_set 31 = .ok (.bipush 59, 2) := by decide +kernel
theorem dX6_set_33 : decode cX6_set 33 = .ok (.iaload, 1) := by decide +kernel
theorem dX6_set_34 : decode cX6_set 34 = .ok (.istore_n 2, 1) := by decide +kernel
theorem dX6_set_35 : decode cX6_set 35 = .ok (.aload_n 0, 1) := by decide +kernel
theorem dX6_set_36 : decode cX6_set 36 = .ok (.getfield 7, 3) := by decide +kernel
theorem dX6_set_39 : decode cX6_set 39 = .ok (.bipush 59, 2) := by decide +kernel
theorem dX6_set_41 : decode cX6_set 41 = .ok (.iload_n 1, 1) := by decide +kernel
theorem dX6_set_42 : decode cX6_set 42 = .ok (.iastore, 1) := by decide +kernel
theorem dX6_set_43 : decode cX6_set 43 = .ok (.iload_n 2, 1) := by decide +kernel
theorem dX6_set_44 : decode cX6_set 44 = .ok (.ireturn, 1) := by decide +kernel
theorem dX6_append_0 : decode cX6_append 0 = .ok (.aload_n 0, 1) := by decide +kernel
theorem dX6_append_1 : decode cX6_append 1 = .ok (.iload_n 1, 1) := by decide +kernel
theorem dX6_append_2 : decode cX6_append 2 = .ok (.bipush 33, 2) := by decide +kernel
theorem dX6_append_4 : decode cX6_append 4 = .ok (.bipush 126, 2) := by decide +kernel
theorem dX6_append_6 : decode cX6_append 6 = .ok (.invokestatic 46, 3) := by decide +kernel
theorem dX6_append_9 : decode cX6_append 9 = .ok (.ifCond .ne 7, 3) := by decide +kernel
theorem dX6_append_12 : decode cX6_append 12 = .ok (.iconst 1, 1) := by decide +kernel
theorem dX6_append_13 : decode cX6_append 13 = .ok (.goto 17, 3) := by decide +kernel
theorem dX6_append_16 : decode cX6_append 16 = .ok (.aload_n 0, 1) := by decide +kernel
theorem dX6_append_17 : decode cX6_append 17 = .ok (.getfield 163, 3) := by decide +kernel
theorem dX6_append_20 : decode cX6_append 20 = .ok (.bipush 60, 2) := by decide +kernel
theorem dX6_append_22 : decode cX6_append 22 = .ok (.if_icmp .ne 7, 3) := by decide +kernel
theorem dX6_append_25 : decode cX6_append 25 = .ok (.iconst 2, 1) := by decide +kernel
theorem dX6_append_26 : decode cX6_append 26 = .ok (.goto 4, 3) := by decide +kernel
theorem dX6_append_29 : decode cX6_append 29 = .ok (.iconst 0, 1) := by decide +kernel
theorem dX6_append_30 : decode cX6_append 30 = .ok (.invokevirtual 111, 3) := by decide +kernel
theorem dX6_append_33 : decode cX6_append 33 = .ok (.ifCond .ne 5, 3) := by decide +kernel
theorem dX6_append_36 : decode cX6_append 36 = .ok (.iconst 0, 1) := by decide +kernel
theorem dX6_append_37 : decode cX6_append 37 = .ok (.ireturn, 1) := by decide +kernel
theorem dX6_append_38 : decode cX6_append 38 = .ok (.aload_n 0, 1) := by decide +kernel
theorem dX6_append_39 : decode cX6_append 39 = .ok (.getfield 19, 3) := by decide +kernel
theorem dX6_append_42 : decode cX6_append 42 = .ok (.aload_n 0, 1) := by decide +kernel
theorem dX6_append_43 : decode cX6_append 43 = .ok (.getfield 163, 3) := by decide +kernel
theorem dX6_append_46 : decode cX6_append 46 = .ok (.iload_n 1, 1) := by decide +kernel
theorem dX6_append_47 : decode cX6_append 47 = .ok (.iastore, 1) := by decide +kernel
theorem dX6_append_48 : decode cX6_append 48 = .ok (.aload_n 0, 1) := by decide +kernel
theorem dX6_append_49 : decode cX6_append 49 = .ok (.dup, 1) := by decide +kernel
theorem dX6_append_50 : decode cX6_append 50 = .ok (.getfield 163, 3) := by decide +kernel
theorem dX6_append_53 : decode cX6_append 53 = .ok (.iconst 1, 1) := by decide +kernel
theorem dX6_append_54 : decode cX6_append 54 = .ok (.iadd, 1) := by decide +kernel
theorem dX6_append_55 : decode cX6_append 55 = .ok (.putfield 163, 3) := by decide +kernel
theorem dX6_append_58 : decode cX6_append 58 = .ok (.aload_n 0, 1) := by decide +kernel
theorem dX6_append_59 : decode cX6_append 59 = .ok (.getfield 163, 3) := by decide +kernel
theorem dX6_append_62 : decode cX6_append 62 = .ok (.ireturn, 1) := by decide +kernel
theorem dX6_clearBuffer_0 : decode cX6_clearBuffer 0 = .ok (.aload_n 0, 1) := by decide +kernel
theorem dX6_clearBuffer_1 : decode cX6_clearBuffer 1 = .ok (.iconst 0, 1) := by decide +kernel
theorem dX6_clearBuffer_2 : decode cX6_clearBuffer 2 = .ok (.putfield 42, 3) := by decide +kernel
theorem dX6_clearBuffer_5 : decode cX6_clearBuffer 5 = .ok (.aload_n 0, 1) := by decide +kernel
theorem dX6_clearBuffer_6 : decode cX6_clearBuffer 6 = .ok (.getfield 163, 3) := by decide +kernel
theorem dX6_clearBuffer_9 : decode cX6_clearBuffer 9 = .ok (.istore_n 1, 1) := by decide +kernel
theorem dX6_clearBuffer_10 : decode cX6_clearBuffer 10 = .ok (.aload_n 0, 1) := by decide +kernel
theorem dX6_clearBuffer_11 : decode cX6_clearBuffer 11 = .ok (.iconst 0, 1) := by decide +kernel
theorem dX6_clearBuffer_12 : decode cX6_clearBuffer 12 = .ok (.putfield 163, 3) := by decide +kernel
theorem dX6_clearBuffer_15 : decode cX6_clearBuffer 15 = .ok (.iload_n 1, 1) := by decide +kernel
theorem dX6_clearBuffer_16 : decode cX6_clearBuffer 16 = .ok (.ireturn, 1) := by decide +kernel
theorem dX6_sign_0 : decode cX6_sign 0 = .ok (.aload_n 0, 1) := by decide +kernel
theorem dX6_sign_1 : decode cX6_sign 1 = .ok (.getfield 166, 3) := by decide +kernel
theorem dX6_sign_4 : decode cX6_sign 4 = .ok (.aload_n 0, 1) := by decide +kernel
theorem dX6_sign_5 : decode cX6_sign 5 = .ok (.getfield 163, 3) := by decide +kernel
theorem dX6_sign_8 : decode cX6_sign 8 = .ok (.if_icmp .ge 15, 3) := by decide +kernel
theorem dX6_sign_11 : decode cX6_sign 11 = .ok (.aload_n 0, 1) := by decide +kernel
theorem dX6_sign_12 : decode cX6_sign 12 = .ok (.getfield 19, 3) := by decide +kernel
theorem dX6_sign_15 : decode cX6_sign 15 = .ok (.aload_n 0, 1) := by decide +kernel
theorem dX6_sign_16 : decode cX6_sign 16 = .ok (.getfield 166, 3) := by decide +kernel
theorem dX6_sign_19 : decode cX6_sign 19 = .ok (.iaload, 1) := by decide +kernel
theorem dX6_sign_20 : decode cX6_sign 20 = .ok (.goto 4, 3) := by decide +kernel
theorem dX6_sign_23 : decode cX6_sign 23 = .ok (.iconst 0, 1) := by decide +kernel
theorem dX6_sign_24 : decode cX6_sign 24 = .ok (.istore_n 3, 1) := by decide +kernel
theorem dX6_sign_25 : decode cX6_sign 25 = .ok (.aload_n 0, 1) := by decide +kernel
theorem dX6_sign_26 : decode cX6_sign 26 = .ok (.aload_n 0, 1) := by decide +kernel
theorem dX6_sign_27 : decode cX6_sign 27 = .ok (.getfield 169, 3) := by decide +kernel
theorem dX6_sign_30 : decode cX6_sign 30 = .ok (.ifCond .ne 12, 3) := by decide +kernel
theorem dX6_sign_33 : decode cX6_sign 33 = .ok (.iload_n 3, 1) := by decide +kernel
theorem dX6_sign_34 : decode cX6_sign 34 = .ok (.iload_n 1, 1) := by decide +kernel
theorem dX6_sign_35 : decode cX6_sign 35 = .ok (.iload_n 2, 1) := by decide +kernel
theorem dX6_sign_36 : decode cX6_sign 36 = .ok (.invokestatic 46, 3) := by decide +kernel
theorem dX6_sign_39 : decode cX6_sign 39 = .ok (.ifCond .ne 7, 3) := by decide +kernel
theorem dX6_sign_42 : decode cX6_sign 42 = .ok (.iconst 1, 1) := by decide +kernel
theorem dX6_sign_43 : decode cX6_sign 43 = .ok (.goto 4, 3) := by decide +kernel
theorem dX6_sign_46 : decode cX6_sign 46 = .ok (.iconst 0, 1) := by decide +kernel
theorem dX6_sign_47 : decode cX6_sign 47 = .ok (.putfield 169, 3) := by decide +kernel
theorem dX6_sign_50 : decode cX6_sign 50 = .ok (.aload_n 0, 1) := by decide +kernel
theorem dX6_sign_51 : decode cX6_sign 51 = .ok (.dup, 1) := by decide +kernel
theorem dX6_sign_52 : decode cX6_sign 52 = .ok (.getfield 166, 3) := by decide +kernel
theorem dX6_sign_55 : decode cX6_sign 55 = .ok (.aload_n 0, 1) := by decide +kernel
theorem dX6_sign_56 : decode cX6_sign 56 = .ok (.getfield 169, 3) := by decide +kernel
theorem dX6_sign_59 : decode cX6_sign 59 = .ok (.ifCond .eq 7, 3) := by decide +kernel
theorem dX6_sign_62 : decode cX6_sign 62 = .ok (.iconst 0, 1) := by decide +kernel
theorem dX6_sign_63 : decode cX6_sign 63 = .ok (.goto 4, 3) := by decide +kernel
theorem dX6_sign_66 : decode cX6_sign 66 = .ok (.iconst 1, 1) := by decide +kernel
theorem dX6_sign_67 : decode cX6_sign 67 = .ok (.iadd, 1) := by decide +kernel
theorem dX6_sign_68 : decode cX6_sign 68 = .ok (.putfield 166, 3) := by decide +kernel
theorem dX6_sign_71 : decode cX6_sign 71 = .ok (.iload_n 3, 1) := by decide +kernel
theorem dX6_sign_72 : decode cX6_sign 72 = .ok (.ireturn, 1) := by decide +kernel
theorem dX6_number_0 : decode cX6_number 0 = .ok (.aload_n 0, 1) := by decide +kernel
theorem dX6_number_1 : decode cX6_number 1 = .ok (.bipush 48, 2) := by decide +kernel
theorem dX6_number_3 : decode cX6_number 3 = .ok (.bipush 57, 2) := by decide +kernel
theorem dX6_number_5 : decode cX6_number 5 = .ok (.invokevirtual 172, 3) := by decide +kernel
theorem dX6_number_8 : decode cX6_number 8 = .ok (.bipush 48, 2) := by decide +kernel
theorem dX6_number_10 : decode cX6_number 10 = .ok (.isub, 1) := by decide +kernel
theorem dX6_number_11 : decode cX6_number 11 = .ok (.istore_n 2, 1) := by decide +kernel
theorem dX6_number_12 : decode cX6_number 12 = .ok (.aload_n 0, 1) := by decide +kernel
theorem dX6_number_13 : decode cX6_number 13 = .ok (.getfield 169, 3) := by decide +kernel
theorem dX6_number_16 : decode cX6_number 16 = .ok (.ifCond .ne 62, 3) := by decide +kernel
theorem dX6_number_19 : decode cX6_number 19 = .ok (.iload_n 2, 1) := by decide +kernel
theorem dX6_number_20 : decode cX6_number 20 = .ok (.ifCond .le 58, 3) := by decide +kernel
theorem dX6_number_23 : decode cX6_number 23 = .ok (.aload_n 0, 1) := by decide +kernel
theorem dX6_number_24 : decode cX6_number 24 = .ok (.getfield 166, 3) := by decide +kernel
theorem dX6_number_27 : decode cX6_number 27 = .ok (.aload_n 0, 1) := by decide +kernel
theorem dX6_number_28 : decode cX6_number 28 = .ok (.getfield 163, 3) := by decide +kernel
theorem dX6_number_31 : decode cX6_number 31 = .ok (.if_icmp .ge 47, 3) := by decide +kernel
theorem dX6_number_34 : decode cX6_number 34 = .ok (.aload_n 0, 1) := by decide +kernel
theorem dX6_number_35 : decode cX6_number 35 = .ok (.getfield 19, 3) := by decide +kernel
theorem dX6_number_38 : decode cX6_number 38 = .ok (.aload_n 0, 1) := by decide +kernel
theorem dX6_number_39 : decode cX6_number 39 = .ok (.getfield 166, 3) := by decide +kernel
theorem dX6_number_42 : decode cX6_number 42 = .ok (.iaload, 1) := by decide +kernel
theorem dX6_number_43 : decode cX6_number 43 = .ok (.bipush 48, 2) := by decide +kernel
theorem dX6_number_45 : decode cX6_number 45 = .ok (.bipush 57, 2) := by decide +kernel
theorem dX6_number_47 : decode cX6_number 47 = .ok (.invokestatic 46, 3) := by decide +kernel
theorem dX6_number_50 : decode cX6_number 50 = .ok (.ifCond .eq 28, 3) := by decide +kernel
theorem dX6_number_53 : decode cX6_number 53 = .ok (.bipush 10, 2) := by decide +kernel
theorem dX6_number_55 : decode cX6_number 55 = .ok (.iload_n 2, 1) := by decide +kernel
theorem dX6_number_56 : decode cX6_number 56 = .ok (.imul, 1) := by decide +kernel
theorem dX6_number_57 : decode cX6_number 57 = .ok (.aload_n 0, 1) := by decide +kernel
theorem dX6_number_58 : decode cX6_number 58 = .ok (.getfield 19, 3) := by decide +kernel
theorem dX6_number_61 : decode cX6_number 61 = .ok (.aload_n 0, 1) := by decide +kernel
theorem dX6_number_62 : decode cX6_number 62 = .ok (.getfield 166, 3) := by decide +kernel
theorem dX6_number_65 : decode cX6_number 65 = .ok (.iaload, 1) := by decide +kernel
theorem dX6_number_66 : decode cX6_number 66 = .ok (.iadd, 1) := by decide +kernel
theorem dX6_number_67 : decode cX6_number 67 = .ok (.bipush 48, 2) := by decide +kernel
theorem dX6_number_69 : decode cX6_number 69 = .ok (.isub, 1) := by decide +kernel
theorem dX6_number_70 : decode cX6_number 70 = .ok (.iload_n 1, 1) := by decide +kernel
theorem dX6_number_71 : decode cX6_number 71 = .ok (.if_icmp .gt 7, 3) := by decide +kernel
theorem dX6_number_74 : decode cX6_number 74 = .ok (.iconst 1, 1) := by decide +kernel
theorem dX6_number_75 : decode cX6_number 75 = .ok (.goto 4, 3) := by decide +kernel
theorem dX6_number_78 : decode cX6_number 78 = .ok (.iconst 0, 1) := by decide +kernel
theorem dX6_number_79 : decode cX6_number 79 = .ok (.istore_n 3, 1) := by decide +kernel
theorem dX6_number_80 : decode cX6_number 80 = .ok (.iload_n 3, 1) := by decide +kernel
theorem dX6_number_81 : decode cX6_number 81 = .ok (.ifCond .eq 22, 3) := by decide +kernel
theorem dX6_number_84 : decode cX6_number 84 = .ok (.bipush 10, 2) := by decide +kernel
theorem dX6_number_86 : decode cX6_number 86 = .ok (.iload_n 2, 1) := by decide +kernel
theorem dX6_number_87 : decode cX6_number 87 = .ok (.imul, 1) := by decide +kernel
theorem dX6_number_88 : decode cX6_number 88 = .ok (.aload_n 0, 1) := by decide +kernel
theorem dX6_number_89 : decode cX6_number 89 = .ok (.bipush 48, 2) := by decide +kernel
theorem dX6_number_91 : decode cX6_number 91 = .ok (.bipush 57, 2) := by decide +kernel
theorem dX6_number_93 : decode cX6_number 93 = .ok (.invokevirtual 172, 3) := by decide +kernel
theorem dX6_number_96 : decode cX6_number 96 = .ok (.iadd, 1) := by decide +kernel
theorem dX6_number_97 : decode cX6_number 97 = .ok (.bipush 48, 2) := by decide +kernel
theorem dX6_number_99 : decode cX6_number 99 = .ok (.isub, 1) := by decide +kernel
theorem dX6_number_100 : decode cX6_number 100 = .ok (.goto 4, 3) := by decide +kernel
theorem dX6_number_103 : decode cX6_number 103 = .ok (.iload_n 2, 1) := by decide +kernel
theorem dX6_number_104 : decode cX6_number 104 = .ok (.ireturn, 1) := by decide +kernel
theorem dX6_ringTeeth_0 : decode cX6_ringTeeth 0 = .ok (.aload_n 0, 1) := by decide +kernel
theorem dX6_ringTeeth_1 : decode cX6_ringTeeth 1 = .ok (.getfield 166, 3) := by decide +kernel
theorem dX6_ringTeeth_4 : decode cX6_ringTeeth 4 = .ok (.aload_n 0, 1) := by decide +kernel
theorem dX6_ringTeeth_5 : decode cX6_ringTeeth 5 = .ok (.getfield 163, 3) := by decide +kernel
theorem dX6_ringTeeth_8 : decode cX6_ringTeeth 8 = .ok (.if_icmp .ge 15, 3) := by decide +kernel
theorem dX6_ringTeeth_11 : decode cX6_ringTeeth 11 = .ok (.aload_n 0, 1) := by decide +kernel
theorem dX6_ringTeeth_12 : decode cX6_ringTeeth 12 = .ok (.getfield 19, 3) := by decide +kernel
theorem dX6_ringTeeth_15 : decode cX6_ringTeeth 15 = .ok (.aload_n 0, 1) := by decide +kernel
theorem dX6_ringTeeth_16 : decode cX6_ringTeeth 16 = .ok (.getfield 166, 3) := by decide +kernel
theorem dX6_ringTeeth_19 : decode cX6_ringTeeth 19 = .ok (.iaload, 1) := by decide +kernel
theorem dX6_ringTeeth_20 : decode cX6_ringTeeth 20 = .ok (.goto 4, 3) := by decide +kernel
theorem dX6_ringTeeth_23 : decode cX6_ringTeeth 23 = .ok (.iconst 0, 1) := by decide +kernel
theorem dX6_ringTeeth_24 : decode cX6_ringTeeth 24 = .ok (.istore_n 1, 1) := by decide +kernel
theorem dX6_ringTeeth_25 : decode cX6_ringTeeth 25 = .ok (.aload_n 0, 1) := by decide +kernel
theorem dX6_ringTeeth_26 : decode cX6_ringTeeth 26 = .ok (.aload_n 0, 1) := by decide +kernel
theorem dX6_ringTeeth_27 : decode cX6_ringTeeth 27 = .ok (.getfield 169, 3) := by decide +kernel
theorem dX6_ringTeeth_30 : decode cX6_ringTeeth 30 = .ok (.ifCond .ne 25, 3) := by decide +kernel
theorem dX6_ringTeeth_33 : decode cX6_ringTeeth 33 = .ok (.iload_n 1, 1) := by decide +kernel
theorem dX6_ringTeeth_34 : decode cX6_ringTeeth 34 = .ok (.bipush 49, 2) := by decide +kernel
theorem dX6_ringTeeth_36 : decode cX6_ringTeeth 36 = .ok (.bipush 52, 2) := by decide +kernel
theorem dX6_ringTeeth_38 : decode cX6_ringTeeth 38 = .ok (.invokestatic 46, 3) := by decide +kernel
theorem dX6_ringTeeth_41 : decode cX6_ringTeeth 41 = .ok (.ifCond .ne 18, 3) := by decide +kernel
theorem dX6_ringTeeth_44 : decode cX6_ringTeeth 44 = .ok (.iload_n 1, 1) := by decide +kernel
theorem dX6_ringTeeth_45 : decode cX6_ringTeeth 45 = .ok (.bipush 54, 2) := by decide +kernel
theorem dX6_ringTeeth_47 : decode cX6_ringTeeth 47 = .ok (.bipush 57, 2) := by decide +kernel
theorem dX6_ringTeeth_49 : decode cX6_ringTeeth 49 = .ok (.invokestatic 46, 3) := by decide +kernel
theorem dX6_ringTeeth_52 : decode cX6_ringTeeth 52 = .ok (.ifCond .ne 7, 3) := by decide +kernel
theorem dX6_ringTeeth_55 : decode cX6_ringTeeth 55 = .ok (.iconst 1, 1) := by decide +kernel
theorem dX6_ringTeeth_56 : decode cX6_ringTeeth 56 = .ok (.goto 4, 3) := by decide +kernel
theorem dX6_ringTeeth_59 : decode cX6_ringTeeth 59 = .ok (.iconst 0, 1) := by decide +kernel
theorem dX6_ringTeeth_60 : decode cX6_ringTeeth 60 = .ok (.putfield 169, 3) := by decide +kernel
theorem dX6_ringTeeth_63 : decode cX6_ringTeeth 63 = .ok (.aload_n 0, 1) := by decide +kernel
theorem dX6_ringTeeth_64 : decode cX6_ringTeeth 64 = .ok (.dup, 1) := by decide +kernel
theorem dX6_ringTeeth_65 : decode cX6_ringTeeth 65 = .ok (.getfield 166, 3) := by decide +kernel
theorem dX6_ringTeeth_68 : decode cX6_ringTeeth 68 = .ok (.aload_n 0, 1) := by decide +kernel
theorem dX6_ringTeeth_69 : decode cX6_ringTeeth 69 = .ok (.getfield 169, 3) := by decide +kernel
theorem dX6_ringTeeth_72 : decode cX6_ringTeeth 72 = .ok (.ifCond .eq 7, 3) := by decide +kernel
theorem dX6_ringTeeth_75 : decode cX6_ringTeeth 75 = .ok (.iconst 0, 1) := by decide +kernel
theorem dX6_ringTeeth_76 : decode cX6_ringTeeth 76 = .ok (.goto 4, 3) := by decide +kernel
theorem dX6_ringTeeth_79 : decode cX6_ringTeeth 79 = .ok (.iconst 1, 1) := by decide +kernel
theorem dX6_ringTeeth_80 : decode cX6_ringTeeth 80 = .ok (.iadd, 1) := by decide +kernel
theorem dX6_ringTeeth_81 : decode cX6_ringTeeth 81 = .ok (.putfield 166, 3) := by decide +kernel
theorem dX6_ringTeeth_84 : decode cX6_ringTeeth 84 = .ok (.iload_n 1, 1) := by decide +kernel
theorem dX6_ringTeeth_85 : decode cX6_ringTeeth 85 = .ok (.bipush 48, 2) := by decide +kernel
theorem dX6_ringTeeth_87 : decode cX6_ringTeeth 87 = .ok (.isub, 1) := by decide +kernel
theorem dX6_ringTeeth_88 : decode cX6_ringTeeth 88 = .ok (.istore_n 2, 1) := by decide +kernel
theorem dX6_ringTeeth_89 : decode cX6_ringTeeth 89 = .ok (.iload_n 2, 1) := by decide +kernel
theorem dX6_ringTeeth_90 : decode cX6_ringTeeth 90 = .ok (.iconst 4, 1) := by decide +kernel
theorem dX6_ringTeeth_91 : decode cX6_ringTeeth 91 = .ok (.if_icmp .gt 10, 3) := by decide +kernel
theorem dX6_ringTeeth_94 : decode cX6_ringTeeth 94 = .ok (.aload_n 0, 1) := by decide +kernel
theorem dX6_ringTeeth_95 : decode cX6_ringTeeth 95 = .ok (.getfield 169, 3) := by decide +kernel
theorem dX6_ringTeeth_98 : decode cX6_ringTeeth 98 = .ok (.ifCond .eq 7, 3) := by decide +kernel
theorem dX6_ringTeeth_101 : decode cX6_ringTeeth 101 = .ok (.iload_n 2, 1) := by decide +kernel
theorem dX6_ringTeeth_102 : decode cX6_ringTeeth 102 = .ok (.goto 29, 3) := by decide +kernel
theorem dX6_ringTeeth_105 : decode cX6_ringTeeth 105 = .ok (.bipush 10, 2) := by decide +kernel
theorem dX6_ringTeeth_107 : decode cX6_ringTeeth 107 = .ok (.iload_n 2, 1) := by decide +kernel
theorem dX6_ringTeeth_108 : decode cX6_ringTeeth 108 = .ok (.imul, 1) := by decide +kernel
theorem dX6_ringTeeth_109 : decode cX6_ringTeeth 109 = .ok (.aload_n 0, 1) := by decide +kernel
theorem dX6_ringTeeth_110 : decode cX6_ringTeeth 110 = .ok (.bipush 48, 2) := by decide +kernel
theorem dX6_ringTeeth_112 : decode cX6_ringTeeth 112 = .ok (.iload_n 2, 1) := by decide +kernel
theorem dX6_ringTeeth_113 : decode cX6_ringTeeth 113 = .ok (.iconst 4, 1) := by decide +kernel
theorem dX6_ringTeeth_114 : decode cX6_ringTeeth 114 = .ok (.if_icmp .ne 8, 3) := by decide +kernel
theorem dX6_ringTeeth_117 : decode cX6_ringTeeth 117 = .ok (.bipush 48, 2) := by decide +kernel
theorem dX6_ringTeeth_119 : decode cX6_ringTeeth 119 = .ok (.goto 5, 3) := by decide +kernel
theorem dX6_ringTeeth_122 : decode cX6_ringTeeth 122 = .ok (.bipush 57, 2) := by decide +kernel
theorem dX6_ringTeeth_124 : decode cX6_ringTeeth 124 = .ok (.invokevirtual 172, 3) := by decide +kernel
theorem dX6_ringTeeth_127 : decode cX6_ringTeeth 127 = .ok (.iadd, 1) := by decide +kernel
theorem dX6_ringTeeth_128 : decode cX6_ringTeeth 128 = .ok (.bipush 48, 2) := by decide +kernel
theorem dX6_ringTeeth_130 : decode cX6_ringTeeth 130 = .ok (.isub, 1) := by decide +kernel
theorem dX6_ringTeeth_131 : decode cX6_ringTeeth 131 = .ok (.ireturn, 1) := by decide +kernel
theorem dX6_order_0 : decode cX6_order 0 = .ok (.aload_n 0, 1) := by decide +kernel
theorem dX6_order_1 : decode cX6_order 1 = .ok (.getfield 166, 3) := by decide +kernel
theorem dX6_order_4 : decode cX6_order 4 = .ok (.aload_n 0, 1) := by decide +kernel
theorem dX6_order_5 : decode cX6_order 5 = .ok (.getfield 163, 3) := by decide +kernel
theorem dX6_order_8 : decode cX6_order 8 = .ok (.if_icmp .ge 15, 3) := by decide +kernel
theorem dX6_order_11 : decode cX6_order 11 = .ok (.aload_n 0, 1) := by decide +kernel
theorem dX6_order_12 : decode cX6_order 12 = .ok (.getfield 19, 3) := by decide +kernel
theorem dX6_order_15 : decode cX6_order 15 = .ok (.aload_n 0, 1) := by decide +kernel
theorem dX6_order_16 : decode cX6_order 16 = .ok (.getfield 166, 3) := by decide +kernel
theorem dX6_order_19 : decode cX6_order 19 = .ok (.iaload, 1) := by decide +kernel
theorem dX6_order_20 : decode cX6_order 20 = .ok (.goto 4, 3) := by decide +kernel
theorem dX6_order_23 : decode cX6_order 23 = .ok (.iconst 0, 1) := by decide +kernel
theorem dX6_order_24 : decode cX6_order 24 = .ok (.istore_n 1, 1) := by decide +kernel
theorem dX6_order_25 : decode cX6_order 25 = .ok (.aload_n 0, 1) := by decide +kernel
theorem dX6_order_26 : decode cX6_order 26 = .ok (.aload_n 0, 1) := by decide +kernel
theorem dX6_order_27 : decode cX6_order 27 = .ok (.getfield 169, 3) := by decide +kernel
theorem dX6_order_30 : decode cX6_order 30 = .ok (.ifCond .ne 27, 3) := by decide +kernel
theorem dX6_order_33 : decode cX6_order 33 = .ok (.iload_n 1, 1) := by decide +kernel
theorem dX6_order_34 : decode cX6_order 34 = .ok (.bipush 112, 2) := by decide +kernel
theorem dX6_order_36 : decode cX6_order 36 = .ok (.if_icmp .eq 25, 3) := by decide +kernel
theorem dX6_order_39 : decode cX6_order 39 = .ok (.iload_n 1, 1) := by decide +kernel
theorem dX6_order_40 : decode cX6_order 40 = .ok (.bipush 103, 2) := by decide +kernel
theorem dX6_order_42 : decode cX6_order 42 = .ok (.if_icmp .eq 19, 3) := by decide +kernel
theorem dX6_order_45 : decode cX6_order 45 = .ok (.iload_n 1, 1) := by decide +kernel
theorem dX6_order_46 : decode cX6_order 46 = .ok (.bipush 114, 2) := by decide +kernel
theorem dX6_order_48 : decode cX6_order 48 = .ok (.if_icmp .eq 13, 3) := by decide +kernel
theorem dX6_order_51 : decode cX6_order 51 = .ok (.iload_n 1, 1) := by decide +kernel
theorem dX6_order_52 : decode cX6_order 52 = .ok (.bipush 100, 2) := by decide +kernel
theorem dX6_order_54 : decode cX6_order 54 = .ok (.if_icmp .eq 7, 3) := by decide +kernel
theorem dX6_order_57 : decode cX6_order 57 = .ok (.iconst 1, 1) := by decide +kernel
theorem dX6_order_58 : decode cX6_order 58 = .ok (.goto 4, 3) := by decide +kernel
theorem dX6_order_61 : decode cX6_order 61 = .ok (.iconst 0, 1) := by decide +kernel
theorem dX6_order_62 : decode cX6_order 62 = .ok (.putfield 169, 3) := by decide +kernel
theorem dX6_order_65 : decode cX6_order 65 = .ok (.aload_n 0, 1) := by decide +kernel
theorem dX6_order_66 : decode cX6_order 66 = .ok (.dup, 1) := by decide +kernel
theorem dX6_order_67 : decode cX6_order 67 = .ok (.getfield 166, 3) := by decide +kernel
theorem dX6_order_70 : decode cX6_order 70 = .ok (.aload_n 0, 1) := by decide +kernel
theorem dX6_order_71 : decode cX6_order 71 = .ok (.getfield 169, 3) := by decide +kernel
theorem dX6_order_74 : decode cX6_order 74 = .ok (.ifCond .eq 7, 3) := by decide +kernel
theorem dX6_order_77 : decode cX6_order 77 = .ok (.iconst 0, 1) := by decide +kernel
theorem dX6_order_78 : decode cX6_order 78 = .ok (.goto 4, 3) := by decide +kernel
theorem dX6_order_81 : decode cX6_order 81 = .ok (.iconst 1, 1) := by decide +kernel
theorem dX6_order_82 : decode cX6_order 82 = .ok (.iadd, 1) := by decide +kernel
theorem dX6_order_83 : decode cX6_order 83 = .ok (.putfield 166, 3) := by decide +kernel
theorem dX6_order_86 : decode cX6_order 86 = .ok (.aload_n 0, 1) := by decide +kernel
theorem dX6_order_87 : decode cX6_order 87 = .ok (.getfield 33, 3) := by decide +kernel
theorem dX6_order_90 : decode cX6_order 90 = .ok (.iconst 0, 1) := by decide +kernel
theorem dX6_order_91 : decode cX6_order 91 = .ok (.iload_n 1, 1) := by decide +kernel
theorem dX6_order_92 : decode cX6_order 92 = .ok (.iastore, 1) := by decide +kernel
theorem dX6_order_93 : decode cX6_order 93 = .ok (.aload_n 0, 1) := by decide +kernel
theorem dX6_order_94 : decode cX6_order 94 = .ok (.getfield 169, 3) := by decide +kernel
theorem dX6_order_97 : decode cX6_order 97 = .ok (.ifCond .eq 4, 3) := by decide +kernel
theorem dX6_order_100 : decode cX6_order 100 = .ok (.return_, 1) := by decide +kernel
theorem dX6_order_101 : decode cX6_order 101 = .ok (.aload_n 0, 1) := by decide +kernel
theorem dX6_order_102 : decode cX6_order 102 = .ok (.getfield 33, 3) := by decide +kernel
theorem dX6_order_105 : decode cX6_order 105 = .ok (.iconst 1, 1) := by decide +kernel
theorem dX6_order_106 : decode cX6_order 106 = .ok (.iload_n 1, 1) := by decide +kernel
theorem dX6_order_107 : decode cX6_order 107 = .ok (.bipush 112, 2) := by decide +kernel
theorem dX6_order_109 : decode cX6_order 109 = .ok (.if_icmp .ne 12, 3) := by decide +kernel
theorem dX6_order_112 : decode cX6_order 112 = .ok (.aload_n 0, 1) := by decide +kernel
theorem dX6_order_113 : decode cX6_order 113 = .ok (.bipush 60, 2) := by decide +kernel
theorem dX6_order_115 : decode cX6_order 115 = .ok (.invokevirtual 175, 3) := by decide +kernel
theorem dX6_order_118 : decode cX6_order 118 = .ok (.goto 14, 3) := by decide +kernel
theorem dX6_order_121 : decode cX6_order 121 = .ok (.aload_n 0, 1) := by decide +kernel
theorem dX6_order_122 : decode cX6_order 122 = .ok (.bipush 48, 2) := by decide +kernel
theorem dX6_order_124 : decode cX6_order 124 = .ok (.bipush 56, 2) := by decide +kernel
theorem dX6_order_126 : decode cX6_order 126 = .ok (.invokevirtual 172, 3) := by decide +kernel
theorem dX6_order_129 : decode cX6_order 129 = .ok (.bipush 48, 2) := by decide +kernel
theorem dX6_order_131 : decode cX6_order 131 = .ok (.isub, 1) := by decide +kernel
theorem dX6_order_132 : decode cX6_order 132 = .ok (.iastore, 1) := by decide +kernel
theorem dX6_order_133 : decode cX6_order 133 = .ok (.iload_n 1, 1) := by decide +kernel
theorem dX6_order_134 : decode cX6_order 134 = .ok (.bipush 112, 2) := by decide +kernel
theorem dX6_order_136 : decode cX6_order 136 = .ok (.if_icmp .ne 14, 3) := by decide +kernel
theorem dX6_order_139 : decode cX6_order 139 = .ok (.aload_n 0, 1) := by decide +kernel
theorem dX6_order_140 : decode cX6_order 140 = .ok (.bipush 44, 2) := by decide +kernel
theorem dX6_order_142 : decode cX6_order 142 = .ok (.bipush 44, 2) := by decide +kernel
theorem dX6_order_144 : decode cX6_order 144 = .ok (.invokevirtual 172, 3) := by decide +kernel
theorem dX6_order_147 : decode cX6_order 147 = .ok (.goto 21, 3) := by decide +kernel
theorem dX6_order_150 : decode cX6_order 150 = .ok (.iload_n 1, 1) := by decide +kernel
theorem dX6_order_151 : decode cX6_order 151 = .ok (.bipush 100, 2) := by decide +kernel
theorem dX6_order_153 : decode cX6_order 153 = .ok (.if_icmp .ne 7, 3) := by decide +kernel
theorem dX6_order_156 : decode cX6_order 156 = .ok (.iconst 0, 1) := by decide +kernel
theorem dX6_order_157 : decode cX6_order 157 = .ok (.goto 11, 3) := by decide +kernel
theorem dX6_order_160 : decode cX6_order 160 = .ok (.aload_n 0, 1) := by decide +kernel
theorem dX6_order_161 : decode cX6_order 161 = .ok (.bipush 46, 2) := by decide +kernel
theorem dX6_order_163 : decode cX6_order 163 = .ok (.bipush 46, 2) := by decide +kernel
theorem dX6_order_165 : decode cX6_order 165 = .ok (.invokevirtual 172, 3) := by decide +kernel
theorem dX6_order_168 : decode cX6_order 168 = .ok (.istore_n 2, 1) := by decide +kernel
theorem dX6_order_169 : decode cX6_order 169 = .ok (.aload_n 0, 1) := by decide +kernel
theorem dX6_order_170 : decode cX6_order 170 = .ok (.getfield 33, 3) := by decide +kernel
theorem dX6_order_173 : decode cX6_order 173 = .ok (.iconst 2, 1) := by decide +kernel
theorem dX6_order_174 : decode cX6_order 174 = .ok (.aload_n 0, 1) := by decide +kernel
theorem dX6_order_175 : decode cX6_order 175 = .ok (.getfield 169, 3) := by decide +kernel
theorem dX6_order_178 : decode cX6_order 178 = .ok (.ifCond .ne 9, 3) := by decide +kernel
theorem dX6_order_181 : decode cX6_order 181 = .ok (.iload_n 1, 1) := by decide +kernel
theorem dX6_order_182 : decode cX6_order 182 = .ok (.bipush 100, 2) := by decide +kernel
theorem dX6_order_184 : decode cX6_order 184 = .ok (.if_icmp .ne 7, 3) := by decide +kernel
theorem dX6_order_187 : decode cX6_order 187 = .ok (.iconst 0, 1) := by decide +kernel
theorem dX6_order_188 : decode cX6_order 188 = .ok (.goto 29, 3) := by decide +kernel
theorem dX6_order_191 : decode cX6_order 191 = .ok (.iload_n 1, 1) := by decide +kernel
theorem dX6_order_192 : decode cX6_order 192 = .ok (.bipush 112, 2) := by decide +kernel
theorem dX6_order_194 : decode cX6_order 194 = .ok (.if_icmp .ne 12, 3) := by decide +kernel
theorem dX6_order_197 : decode cX6_order 197 = .ok (.aload_n 0, 1) := by decide +kernel
theorem dX6_order_198 : decode cX6_order 198 = .ok (.bipush 60, 2) := by decide +kernel
theorem dX6_order_200 : decode cX6_order 200 = .ok (.invokevirtual 175, 3) := by decide +kernel
theorem dX6_order_203 : decode cX6_order 203 = .ok (.goto 14, 3) := by decide +kernel
theorem dX6_order_206 : decode cX6_order 206 = .ok (.aload_n 0, 1) := by decide +kernel
theorem dX6_order_207 : decode cX6_order 207 = .ok (.bipush 48, 2) := by decide +kernel
theorem dX6_order_209 : decode cX6_order 209 = .ok (.bipush 49, 2) := by decide +kernel
theorem dX6_order_211 : decode cX6_order 211 = .ok (.invokevirtual 172, 3) := by decide +kernel
theorem dX6_order_214 : decode cX6_order 214 = .ok (.bipush 48, 2) := by decide +kernel
theorem dX6_order_216 : decode cX6_order 216 = .ok (.isub, 1) := by decide +kernel
theorem dX6_order_217 : decode cX6_order 217 = .ok (.iastore, 1) := by decide +kernel
theorem dX6_order_218 : decode cX6_order 218 = .ok (.iload_n 1, 1) := by decide +kernel
theorem dX6_order_219 : decode cX6_order 219 = .ok (.bipush 103, 2) := by decide +kernel
theorem dX6_order_221 : decode cX6_order 221 = .ok (.if_icmp .eq 9, 3) := by decide +kernel
theorem dX6_order_224 : decode cX6_order 224 = .ok (.iload_n 1, 1) := by decide +kernel
theorem dX6_order_225 : decode cX6_order 225 = .ok (.bipush 114, 2) := by decide +kernel
theorem dX6_order_227 : decode cX6_order 227 = .ok (.if_icmp .ne 7, 3) := by decide +kernel
theorem dX6_order_230 : decode cX6_order 230 = .ok (.iconst 1, 1) := by decide +kernel
theorem dX6_order_231 : decode cX6_order 231 = .ok (.goto 4, 3) := by decide +kernel
theorem dX6_order_234 : decode cX6_order 234 = .ok (.iconst 0, 1) := by decide +kernel
theorem dX6_order_235 : decode cX6_order 235 = .ok (.istore_n 3, 1) := by decide +kernel
theorem dX6_order_236 : decode cX6_order 236 = .ok (.iload_n 3, 1) := by decide +kernel
theorem dX6_order_237 : decode cX6_order 237 = .ok (.ifCond .eq 14, 3) := by decide +kernel
theorem dX6_order_240 : decode cX6_order 240 = .ok (.aload_n 0, 1) := by decide +kernel
theorem dX6_order_241 : decode cX6_order 241 = .ok (.bipush 61, 2) := by decide +kernel
theorem dX6_order_243 : decode cX6_order 243 = .ok (.bipush 61, 2) := by decide +kernel
theorem dX6_order_245 : decode cX6_order 245 = .ok (.invokevirtual 172, 3) := by decide +kernel
theorem dX6_order_248 : decode cX6_order 248 = .ok (.goto 4, 3) := by decide +kernel
theorem dX6_order_251 : decode cX6_order 251 = .ok (.iconst 0, 1) := by decide +kernel
theorem dX6_order_252 : decode cX6_order 252 = .ok (.istore_n 2, 1) := by decide +kernel
theorem dX6_order_253 : decode cX6_order 253 = .ok (.aload_n 0, 1) := by decide +kernel
theorem dX6_order_254 : decode cX6_order 254 = .ok (.getfield 33, 3) := by decide +kernel
theorem dX6_order_257 : decode cX6_order 257 = .ok (.iconst 3, 1) := by decide +kernel
theorem dX6_order_258 : decode cX6_order 258 = .ok (.aload_n 0, 1) := by decide +kernel
theorem dX6_order_259 : decode cX6_order 259 = .ok (.getfield 169, 3) := by decide +kernel
theorem dX6_order_262 : decode cX6_order 262 = .ok (.ifCond .ne 7, 3) := by decide +kernel
theorem dX6_order_265 : decode cX6_order 265 = .ok (.iload_n 3, 1) := by decide +kernel
theorem dX6_order_266 : decode cX6_order 266 = .ok (.ifCond .ne 7, 3) := by decide +kernel
theorem dX6_order_269 : decode cX6_order 269 = .ok (.iconst 0, 1) := by decide +kernel
theorem dX6_order_270 : decode cX6_order 270 = .ok (.goto 22, 3) := by decide +kernel
theorem dX6_order_273 : decode cX6_order 273 = .ok (.iload_n 1, 1) := by decide +kernel
theorem dX6_order_274 : decode cX6_order 274 = .ok (.bipush 103, 2) := by decide +kernel
theorem dX6_order_276 : decode cX6_order 276 = .ok (.if_icmp .ne 12, 3) := by decide +kernel
theorem dX6_order_279 : decode cX6_order 279 = .ok (.aload_n 0, 1) := by decide +kernel
theorem dX6_order_280 : decode cX6_order 280 = .ok (.bipush 20, 2) := by decide +kernel
theorem dX6_order_282 : decode cX6_order 282 = .ok (.invokevirtual 175, 3) := by decide +kernel
theorem dX6_order_285 : decode cX6_order 285 = .ok (.goto 7, 3) := by decide +kernel
theorem dX6_order_288 : decode cX6_order 288 = .ok (.aload_n 0, 1) := by decide +kernel
theorem dX6_order_289 : decode cX6_order 289 = .ok (.invokevirtual 178, 3) := by decide +kernel
theorem dX6_order_292 : decode cX6_order 292 = .ok (.iastore, 1) := by decide +kernel
theorem dX6_order_293 : decode cX6_order 293 = .ok (.return_, 1) := by decide +kernel
theorem dX6_does_0 : decode cX6_does 0 = .ok (.aload_n 0, 1) := by decide +kernel
theorem dX6_does_1 : decode cX6_does 1 = .ok (.getfield 33, 3) := by decide +kernel
theorem dX6_does_4 : decode cX6_does 4 = .ok (.iconst 0, 1) := by decide +kernel
theorem dX6_does_5 : decode cX6_does 5 = .ok (.iaload, 1) := by decide +kernel
theorem dX6_does_6 : decode cX6_does 6 = .ok (.istore_n 1, 1) := by decide +kernel
theorem dX6_does_7 : decode cX6_does 7 = .ok (.aload_n 0, 1) := by decide +kernel
theorem dX6_does_8 : decode cX6_does 8 = .ok (.getfield 33, 3) := by decide +kernel
theorem dX6_does_11 : decode cX6_does 11 = .ok (.iconst 1, 1) := by decide +kernel
theorem dX6_does_12 : decode cX6_does 12 = .ok (.iaload, 1) := by decide +kernel
theorem dX6_does_13 : decode cX6_does 13 = .ok (.istore_n 2, 1) := by decide +kernel
theorem dX6_does_14 : decode cX6_does 14 = .ok (.aload_n 0, 1) := by decide +kernel
theorem dX6_does_15 : decode cX6_does 15 = .ok (.getfield 33, 3) := by decide +kernel
theorem dX6_does_18 : decode cX6_does 18 = .ok (.iconst 2, 1) := by decide +kernel
theorem dX6_does_19 : decode cX6_does 19 = .ok (.iaload, 1) := by decide +kernel
theorem dX6_does_20 : decode cX6_does 20 = .ok (.istore_n 3, 1) := by decide +kernel
theorem dX6_does_21 : decode cX6_does 21 = .ok (.iload_n 1, 1) := by decide +kernel
theorem dX6_does_22 : decode cX6_does 22 = .ok (.bipush 103, 2) := by decide +kernel
theorem dX6_does_24 : decode cX6_does 24 = .ok (.if_icmp .ne 7, 3) := by decide +kernel
theorem dX6_does_27 : decode cX6_does 27 = .ok (.iconst 1, 1) := by decide +kernel
theorem dX6_does_28 : decode cX6_does 28 = .ok (.goto 4, 3) := by decide +kernel
theorem dX6_does_31 : decode cX6_does 31 = .ok (.iconst 2, 1) := by decide +kernel
theorem dX6_does_32 : decode cX6_does 32 = .ok (.istore 4, 2) := by decide +kernel
theorem dX6_does_34 : decode cX6_does 34 = .ok (.iload_n 1, 1) := by decide +kernel
theorem dX6_does_35 : decode cX6_does 35 = .ok (.bipush 112, 2) := by decide +kernel
theorem dX6_does_37 : decode cX6_does 37 = .ok (.if_icmp .ne 12, 3) := by decide +kernel
theorem dX6_does_40 : decode cX6_does 40 = .ok (.aload_n 0, 1) := by decide +kernel
theorem dX6_does_41 : decode cX6_does 41 = .ok (.iload_n 2, 1) := by decide +kernel
theorem dX6_does_42 : decode cX6_does 42 = .ok (.iload_n 3, 1) := by decide +kernel
theorem dX6_does_43 : decode cX6_does 43 = .ok (.invokevirtual 108, 3) := by decide +kernel
theorem dX6_does_46 : decode cX6_does 46 = .ok (.goto 39, 3) := by decide +kernel
theorem dX6_does_49 : decode cX6_does 49 = .ok (.iload_n 1, 1) := by decide +kernel
theorem dX6_does_50 : decode cX6_does 50 = .ok (.bipush 100, 2) := by decide +kernel
theorem dX6_does_52 : decode cX6_does 52 = .ok (.if_icmp .ne 19, 3) := by decide +kernel
theorem dX6_does_55 : decode cX6_does 55 = .ok (.aload_n 0, 1) := by decide +kernel
theorem dX6_does_56 : decode cX6_does 56 = .ok (.iload_n 2, 1) := by decide +kernel
theorem dX6_does_57 : decode cX6_does 57 = .ok (.invokevirtual 121, 3) := by decide +kernel
theorem dX6_does_60 : decode cX6_does 60 = .ok (.ifCond .eq 7, 3) := by decide +kernel
theorem dX6_does_63 : decode cX6_does 63 = .ok (.iconst 0, 1) := by decide +kernel
theorem dX6_does_64 : decode cX6_does 64 = .ok (.goto 21, 3) := by decide +kernel
theorem dX6_does_67 : decode cX6_does 67 = .ok (.iconst 1, 1) := by decide +kernel
theorem dX6_does_68 : decode cX6_does 68 = .ok (.goto 17, 3) := by decide +kernel
theorem dX6_does_71 : decode cX6_does 71 = .ok (.aload_n 0, 1) := by decide +kernel
theorem dX6_does_72 : decode cX6_does 72 = .ok (.iload_n 2, 1) := by decide +kernel
theorem dX6_does_73 : decode cX6_does 73 = .ok (.iload_n 3, 1) := by decide +kernel
theorem dX6_does_74 : decode cX6_does 74 = .ok (.iload 4, 2) := by decide +kernel
theorem dX6_does_76 : decode cX6_does 76 = .ok (.aload_n 0, 1) := by decide +kernel
theorem dX6_does_77 : decode cX6_does 77 = .ok (.getfield 33, 3) := by decide +kernel
theorem dX6_does_80 : decode cX6_does 80 = .ok (.iconst 3, 1) := by decide +kernel
theorem dX6_does_81 : decode cX6_does 81 = .ok (.iaload, 1) := by decide +kernel
theorem dX6_does_82 : decode cX6_does 82 = .ok (.invokevirtual 130, 3) := by decide +kernel
theorem dX6_does_85 : decode cX6_does 85 = .ok (.istore 5, 2) := by decide +kernel
theorem dX6_does_87 : decode cX6_does 87 = .ok (.iload 5, 2) := by decide +kernel
theorem dX6_does_89 : decode cX6_does 89 = .ok (.ifCond .ne 48, 3) := by decide +kernel
theorem dX6_does_92 : decode cX6_does 92 = .ok (.iload_n 1, 1) := by decide +kernel
theorem dX6_does_93 : decode cX6_does 93 = .ok (.bipush 112, 2) := by decide +kernel
theorem dX6_does_95 : decode cX6_does 95 = .ok (.if_icmp .ne 12, 3) := by decide +kernel
theorem dX6_does_98 : decode cX6_does 98 = .ok (.aload_n 0, 1) := by decide +kernel
theorem dX6_does_99 : decode cX6_does 99 = .ok (.iload_n 2, 1) := by decide +kernel
theorem dX6_does_100 : decode cX6_does 100 = .ok (.iload_n 3, 1) := by decide +kernel
theorem dX6_does_101 : decode cX6_does 101 = .ok (.invokevirtual 118, 3) := by decide +kernel
theorem dX6_does_104 : decode cX6_does 104 = .ok (.goto 31, 3) := by decide +kernel
theorem dX6_does_107 : decode cX6_does 107 = .ok (.iload_n 1, 1) := by decide +kernel
theorem dX6_does_108 : decode cX6_does 108 = .ok (.bipush 100, 2) := by decide +kernel
theorem dX6_does_110 : decode cX6_does 110 = .ok (.if_icmp .ne 11, 3) := by decide +kernel
theorem dX6_does_113 : decode cX6_does 113 = .ok (.aload_n 0, 1) := by decide +kernel
theorem dX6_does_114 : decode cX6_does 114 = .ok (.iload_n 2, 1) := by decide +kernel
theorem dX6_does_115 : decode cX6_does 115 = .ok (.invokevirtual 153, 3) := by decide +kernel
theorem dX6_does_118 : decode cX6_does 118 = .ok (.goto 17, 3) := by decide +kernel
theorem dX6_does_121 : decode cX6_does 121 = .ok (.aload_n 0, 1) := by decide +kernel
theorem dX6_does_122 : decode cX6_does 122 = .ok (.iload_n 2, 1) := by decide +kernel
theorem dX6_does_123 : decode cX6_does 123 = .ok (.iload_n 3, 1) := by decide +kernel
theorem dX6_does_124 : decode cX6_does 124 = .ok (.iload 4, 2) := by decide +kernel
theorem dX6_does_126 : decode cX6_does 126 = .ok (.aload_n 0, 1) := by decide +kernel
theorem dX6_does_127 : decode cX6_does 127 = .ok (.getfield 33, 3) := by decide +kernel
theorem dX6_does_130 : decode cX6_does 130 = .ok (.iconst 3, 1) := by decide +kernel
theorem dX6_does_131 : decode cX6_does 131 = .ok (.iaload, 1) := by decide +kernel
theorem dX6_does_132 : decode cX6_does 132 = .ok (.invokevirtual 134, 3) := by decide +kernel
theorem dX6_does_135 : decode cX6_does 135 = .ok (.istore 6, 2) := by decide +kernel
theorem dX6_does_137 : decode cX6_does 137 = .ok (.iload 5, 2) := by decide +kernel
theorem dX6_does_139 : decode cX6_does 139 = .ok (.ifCond .ne 7, 3) := by decide +kernel
theorem dX6_does_142 : decode cX6_does 142 = .ok (.iconst 1, 1) := by decide +kernel
theorem dX6_does_143 : decode cX6_does 143 = .ok (.goto 4, 3) := by decide +kernel
theorem dX6_does_146 : decode cX6_does 146 = .ok (.iconst 0, 1) := by decide +kernel
theorem dX6_does_147 : decode cX6_does 147 = .ok (.ireturn, 1) := by decide +kernel
theorem dX6_go_0 : decode cX6_go 0 = .ok (.aload_n 0, 1) := by decide +kernel
theorem dX6_go_1 : decode cX6_go 1 = .ok (.iconst 0, 1) := by decide +kernel
theorem dX6_go_2 : decode cX6_go 2 = .ok (.putfield 166, 3) := by decide +kernel
theorem dX6_go_5 : decode cX6_go 5 = .ok (.aload_n 0, 1) := by decide +kernel
theorem dX6_go_6 : decode cX6_go 6 = .ok (.iconst 0, 1) := by decide +kernel
theorem dX6_go_7 : decode cX6_go 7 = .ok (.putfield 169, 3) := by decide +kernel
theorem dX6_go_10 : decode cX6_go 10 = .ok (.iconst 0, 1) := by decide +kernel
theorem dX6_go_11 : decode cX6_go 11 = .ok (.istore_n 2, 1) := by decide +kernel
theorem dX6_go_12 : decode cX6_go 12 = .ok (.iconst 1, 1) := by decide +kernel
theorem dX6_go_13 : decode cX6_go 13 = .ok (.istore_n 3, 1) := by decide +kernel
theorem dX6_go_14 : decode cX6_go 14 = .ok (.iload_n 3, 1) := by decide +kernel
theorem dX6_go_15 : decode cX6_go 15 = .ok (.ifCond .eq 101, 3) := by decide +kernel
theorem dX6_go_18 : decode cX6_go 18 = .ok (.aload_n 0, 1) := by decide +kernel
theorem dX6_go_19 : decode cX6_go 19 = .ok (.invokevirtual 182, 3) := by decide +kernel
theorem dX6_go_22 : decode cX6_go 22 = .ok (.iload_n 1, 1) := by decide +kernel
theorem dX6_go_23 : decode cX6_go 23 = .ok (.ifCond .eq 14, 3) := by decide +kernel
theorem dX6_go_26 : decode cX6_go 26 = .ok (.aload_n 0, 1) := by decide +kernel
theorem dX6_go_27 : decode cX6_go 27 = .ok (.invokevirtual 185, 3) := by decide +kernel
theorem dX6_go_30 : decode cX6_go 30 = .ok (.ifCond .eq 7, 3) := by decide +kernel
theorem dX6_go_33 : decode cX6_go 33 = .ok (.iconst 1, 1) := by decide +kernel
theorem dX6_go_34 : decode cX6_go 34 = .ok (.goto 4, 3) := by decide +kernel
theorem dX6_go_37 : decode cX6_go 37 = .ok (.iconst 0, 1) := by decide +kernel
theorem dX6_go_38 : decode cX6_go 38 = .ok (.istore 4, 2) := by decide +kernel
theorem dX6_go_40 : decode cX6_go 40 = .ok (.iload_n 2, 1) := by decide +kernel
theorem dX6_go_41 : decode cX6_go 41 = .ok (.iload 4, 2) := by decide +kernel
theorem dX6_go_43 : decode cX6_go 43 = .ok (.ifCond .eq 7, 3) := by decide +kernel
theorem dX6_go_46 : decode cX6_go 46 = .ok (.iconst 1, 1) := by decide +kernel
theorem dX6_go_47 : decode cX6_go 47 = .ok (.goto 4, 3) := by decide +kernel
theorem dX6_go_50 : decode cX6_go 50 = .ok (.iconst 0, 1) := by decide +kernel
theorem dX6_go_51 : decode cX6_go 51 = .ok (.iadd, 1) := by decide +kernel
theorem dX6_go_52 : decode cX6_go 52 = .ok (.istore_n 2, 1) := by decide +kernel
theorem dX6_go_53 : decode cX6_go 53 = .ok (.aload_n 0, 1) := by decide +kernel
theorem dX6_go_54 : decode cX6_go 54 = .ok (.getfield 169, 3) := by decide +kernel
theorem dX6_go_57 : decode cX6_go 57 = .ok (.ifCond .ne 27, 3) := by decide +kernel
theorem dX6_go_60 : decode cX6_go 60 = .ok (.iload 4, 2) := by decide +kernel
theorem dX6_go_62 : decode cX6_go 62 = .ok (.ifCond .ne 7, 3) := by decide +kernel
theorem dX6_go_65 : decode cX6_go 65 = .ok (.iload_n 1, 1) := by decide +kernel
theorem dX6_go_66 : decode cX6_go 66 = .ok (.ifCond .ne 18, 3) := by decide +kernel
theorem dX6_go_69 : decode cX6_go 69 = .ok (.aload_n 0, 1) := by decide +kernel
theorem dX6_go_70 : decode cX6_go 70 = .ok (.getfield 166, 3) := by decide +kernel
theorem dX6_go_73 : decode cX6_go 73 = .ok (.aload_n 0, 1) := by decide +kernel
theorem dX6_go_74 : decode cX6_go 74 = .ok (.getfield 163, 3) := by decide +kernel
theorem dX6_go_77 : decode cX6_go 77 = .ok (.if_icmp .ge 7, 3) := by decide +kernel
theorem dX6_go_80 : decode cX6_go 80 = .ok (.iconst 1, 1) := by decide +kernel
theorem dX6_go_81 : decode cX6_go 81 = .ok (.goto 4, 3) := by decide +kernel
theorem dX6_go_84 : decode cX6_go 84 = .ok (.iconst 0, 1) := by decide +kernel
theorem dX6_go_85 : decode cX6_go 85 = .ok (.istore_n 3, 1) := by decide +kernel
theorem dX6_go_86 : decode cX6_go 86 = .ok (.iload_n 3, 1) := by decide +kernel
theorem dX6_go_87 : decode cX6_go 87 = .ok (.ifCond .eq 26, 3) := by decide +kernel
theorem dX6_go_90 : decode cX6_go 90 = .ok (.aload_n 0, 1) := by decide +kernel
theorem dX6_go_91 : decode cX6_go 91 = .ok (.bipush 59, 2) := by decide +kernel
theorem dX6_go_93 : decode cX6_go 93 = .ok (.bipush 59, 2) := by decide +kernel
theorem dX6_go_95 : decode cX6_go 95 = .ok (.invokevirtual 172, 3) := by decide +kernel
theorem dX6_go_98 : decode cX6_go 98 = .ok (.istore 5, 2) := by decide +kernel
theorem dX6_go_100 : decode cX6_go 100 = .ok (.aload_n 0, 1) := by decide +kernel
theorem dX6_go_101 : decode cX6_go 101 = .ok (.getfield 169, 3) := by decide +kernel
theorem dX6_go_104 : decode cX6_go 104 = .ok (.ifCond .ne 7, 3) := by decide +kernel
theorem dX6_go_107 : decode cX6_go 107 = .ok (.iconst 1, 1) := by decide +kernel
theorem dX6_go_108 : decode cX6_go 108 = .ok (.goto 4, 3) := by decide +kernel
theorem dX6_go_111 : decode cX6_go 111 = .ok (.iconst 0, 1) := by decide +kernel
theorem dX6_go_112 : decode cX6_go 112 = .ok (.istore_n 3, 1) := by decide +kernel
theorem dX6_go_113 : decode cX6_go 113 = .ok (.goto (-99), 3) := by decide +kernel
theorem dX6_go_116 : decode cX6_go 116 = .ok (.iload_n 2, 1) := by decide +kernel
theorem dX6_go_117 : decode cX6_go 117 = .ok (.ireturn, 1) := by decide +kernel
theorem dX6_firstError_0 : decode cX6_firstError 0 = .ok (.aload_n 0, 1) := by decide +kernel
theorem dX6_firstError_1 : decode cX6_firstError 1 = .ok (.iconst 0, 1) := by decide +kernel
theorem dX6_firstError_2 : decode cX6_firstError 2 = .ok (.putfield 42, 3) := by decide +kernel
theorem dX6_firstError_5 : decode cX6_firstError 5 = .ok (.aload_n 0, 1) := by decide +kernel
theorem dX6_firstError_6 : decode cX6_firstError 6 = .ok (.iconst 0, 1) := by decide +kernel
theorem dX6_firstError_7 : decode cX6_firstError 7 = .ok (.invokevirtual 188, 3) := by decide +kernel
theorem dX6_firstError_10 : decode cX6_firstError 10 = .ok (.istore_n 1, 1) := by decide +kernel
theorem dX6_firstError_11 : decode cX6_firstError 11 = .ok (.aload_n 0, 1) := by decide +kernel
theorem dX6_firstError_12 : decode cX6_firstError 12 = .ok (.getfield 169, 3) := by decide +kernel
theorem dX6_firstError_15 : decode cX6_firstError 15 = .ok (.ifCond .eq 10, 3) := by decide +kernel
theorem dX6_firstError_18 : decode cX6_firstError 18 = .ok (.aload_n 0, 1) := by decide +kernel
theorem dX6_firstError_19 : decode cX6_firstError 19 = .ok (.getfield 166, 3) := by decide +kernel
theorem dX6_firstError_22 : decode cX6_firstError 22 = .ok (.goto 7, 3) := by decide +kernel
theorem dX6_firstError_25 : decode cX6_firstError 25 = .ok (.aload_n 0, 1) := by decide +kernel
theorem dX6_firstError_26 : decode cX6_firstError 26 = .ok (.getfield 163, 3) := by decide +kernel
theorem dX6_firstError_29 : decode cX6_firstError 29 = .ok (.ireturn, 1) := by decide +kernel
theorem dX6_build_0 : decode cX6_build 0 = .ok (.aload_n 0, 1) := by decide +kernel
theorem dX6_build_1 : decode cX6_build 1 = .ok (.iconst 0, 1) := by decide +kernel
theorem dX6_build_2 : decode cX6_build 2 = .ok (.invokevirtual 188, 3) := by decide +kernel
theorem dX6_build_5 : decode cX6_build 5 = .ok (.istore_n 1, 1) := by decide +kernel
theorem dX6_build_6 : decode cX6_build 6 = .ok (.aload_n 0, 1) := by decide +kernel
theorem dX6_build_7 : decode cX6_build 7 = .ok (.aload_n 0, 1) := by decide +kernel
theorem dX6_build_8 : decode cX6_build 8 = .ok (.getfield 169, 3) := by decide +kernel
theorem dX6_build_11 : decode cX6_build 11 = .ok (.ifCond .eq 7, 3) := by decide +kernel
theorem dX6_build_14 : decode cX6_build 14 = .ok (.iconst 1, 1) := by decide +kernel
theorem dX6_build_15 : decode cX6_build 15 = .ok (.goto 4, 3) := by decide +kernel
theorem dX6_build_18 : decode cX6_build 18 = .ok (.iconst 0, 1) := by decide +kernel
theorem dX6_build_19 : decode cX6_build 19 = .ok (.invokevirtual 111, 3) := by decide +kernel
theorem dX6_build_22 : decode cX6_build 22 = .ok (.ifCond .ne 5, 3) := by decide +kernel
theorem dX6_build_25 : decode cX6_build 25 = .ok (.iconst 0, 1) := by decide +kernel
theorem dX6_build_26 : decode cX6_build 26 = .ok (.ireturn, 1) := by decide +kernel
theorem dX6_build_27 : decode cX6_build 27 = .ok (.aload_n 0, 1) := by decide +kernel
theorem dX6_build_28 : decode cX6_build 28 = .ok (.invokevirtual 115, 3) := by decide +kernel
theorem dX6_build_31 : decode cX6_build 31 = .ok (.aload_n 0, 1) := by decide +kernel
theorem dX6_build_32 : decode cX6_build 32 = .ok (.iconst 1, 1) := by decide +kernel
theorem dX6_build_33 : decode cX6_build 33 = .ok (.invokevirtual 188, 3) := by decide +kernel
theorem dX6_build_36 : decode cX6_build 36 = .ok (.istore_n 2, 1) := by decide +kernel
theorem dX6_build_37 : decode cX6_build 37 = .ok (.aload_n 0, 1) := by decide +kernel
theorem dX6_build_38 : decode cX6_build 38 = .ok (.iconst 0, 1) := by decide +kernel
theorem dX6_build_39 : decode cX6_build 39 = .ok (.putfield 163, 3) := by decide +kernel
theorem dX6_build_42 : decode cX6_build 42 = .ok (.iload_n 2, 1) := by decide +kernel
theorem dX6_build_43 : decode cX6_build 43 = .ok (.ireturn, 1) := by decide +kernel
theorem dX6_undo_0 : decode cX6_undo 0 = .ok (.aload_n 0, 1) := by decide +kernel
theorem dX6_undo_1 : decode cX6_undo 1 = .ok (.aload_n 0, 1) := by decide +kernel
theorem dX6_undo_2 : decode cX6_undo 2 = .ok (.getfield 50, 3) := by decide +kernel
theorem dX6_undo_5 : decode cX6_undo 5 = .ok (.ifCond .le 7, 3) := by decide +kernel
theorem dX6_undo_8 : decode cX6_undo 8 = .ok (.iconst 0, 1) := by decide +kernel
theorem dX6_undo_9 : decode cX6_undo 9 = .ok (.goto 4, 3) := by decide +kernel
theorem dX6_undo_12 : decode cX6_undo 12 = .ok (.iconst 1, 1) := by decide +kernel
theorem dX6_undo_13 : decode cX6_undo 13 = .ok (.invokevirtual 111, 3) := by decide +kernel
theorem dX6_undo_16 : decode cX6_undo 16 = .ok (.ifCond .ne 5, 3) := by decide +kernel
theorem dX6_undo_19 : decode cX6_undo 19 = .ok (.iconst 0, 1) := by decide +kernel
theorem dX6_undo_20 : decode cX6_undo 20 = .ok (.ireturn, 1) := by decide +kernel
theorem dX6_undo_21 : decode cX6_undo 21 = .ok (.aload_n 0, 1) := by decide +kernel
theorem dX6_undo_22 : decode cX6_undo 22 = .ok (.dup, 1) := by decide +kernel
theorem dX6_undo_23 : decode cX6_undo 23 = .ok (.getfield 50, 3) := by decide +kernel
theorem dX6_undo_26 : decode cX6_undo 26 = .ok (.iconst 1, 1) := by decide +kernel
theorem dX6_undo_27 : decode cX6_undo 27 = .ok (.isub, 1) := by decide +kernel
theorem dX6_undo_28 : decode cX6_undo 28 = .ok (.putfield 50, 3) := by decide +kernel
theorem dX6_undo_31 : decode cX6_undo 31 = .ok (.iconst 0, 1) := by decide +kernel
theorem dX6_undo_32 : decode cX6_undo 32 = .ok (.istore_n 1, 1) := by decide +kernel
theorem dX6_undo_33 : decode cX6_undo 33 = .ok (.iload_n 1, 1) := by decide +kernel
theorem dX6_undo_34 : decode cX6_undo 34 = .ok (.bipush 60, 2) := by decide +kernel
theorem dX6_undo_36 : decode cX6_undo 36 = .ok (.if_icmp .ge 29, 3) := by decide +kernel
theorem dX6_undo_39 : decode cX6_undo 39 = .ok (.aload_n 0, 1) := by decide +kernel
theorem dX6_undo_40 : decode cX6_undo 40 = .ok (.getfield 7, 3) := by decide +kernel
theorem dX6_undo_43 : decode cX6_undo 43 = .ok (.iload_n 1, 1) := by decide +kernel
theorem dX6_undo_44 : decode cX6_undo 44 = .ok (.aload_n 0, 1) := by decide +kernel
theorem dX6_undo_45 : decode cX6_undo 45 = .ok (.getfield 16, 3) := by decide +kernel
theorem dX6_undo_48 : decode cX6_undo 48 = .ok (.bipush 60, 2) := by decide +kernel
theorem dX6_undo_50 : decode cX6_undo 50 = .ok (.aload_n 0, 1) := by decide +kernel
theorem dX6_undo_51 : decode cX6_undo 51 = .ok (.getfield 50, 3) := by decide +kernel
theorem dX6_undo_54 : decode cX6_undo 54 = .ok (.imul, 1) := by decide +kernel
theorem dX6_undo_55 : decode cX6_undo 55 = .ok (.iload_n 1, 1) := by decide +kernel
theorem dX6_undo_56 : decode cX6_undo 56 = .ok (.iadd, 1) := by decide +kernel
theorem dX6_undo_57 : decode cX6_undo 57 = .ok (.iaload, 1) := by decide +kernel
theorem dX6_undo_58 : decode cX6_undo 58 = .ok (.iastore, 1) := by decide +kernel
theorem dX6_undo_59 : decode cX6_undo 59 = .ok (.iinc 1 1, 3) := by decide +kernel
theorem dX6_undo_62 : decode cX6_undo 62 = .ok (.goto (-29), 3) := by decide +kernel
theorem dX6_undo_65 : decode cX6_undo 65 = .ok (.aload_n 0, 1) := by decide +kernel
theorem dX6_undo_66 : decode cX6_undo 66 = .ok (.getfield 50, 3) := by decide +kernel
theorem dX6_undo_69 : decode cX6_undo 69 = .ok (.ireturn, 1) := by decide +kernel
theorem dX6_pegOf_0 : decode cX6_pegOf 0 = .ok (.iload_n 2, 1) := by decide +kernel
theorem dX6_pegOf_1 : decode cX6_pegOf 1 = .ok (.tableswitch 123 0 7 #[47, 56, 66, 66, 75, 75, 84, 91], 47) := by decide +kernel
theorem dX6_pegOf_48 : decode cX6_pegOf 48 = .ok (.aload_n 0, 1) := by decide +kernel
theorem dX6_pegOf_49 : decode cX6_pegOf 49 = .ok (.getfield 7, 3) := by decide +kernel
theorem dX6_pegOf_52 : decode cX6_pegOf 52 = .ok (.iconst 1, 1) := by decide +kernel
theorem dX6_pegOf_53 : decode cX6_pegOf 53 = .ok (.iload_n 1, 1) := by decide +kernel
theorem dX6_pegOf_54 : decode cX6_pegOf 54 = .ok (.iadd, 1) := by decide +kernel
theorem dX6_pegOf_55 : decode cX6_pegOf 55 = .ok (.iaload, 1) := by decide +kernel
theorem dX6_pegOf_56 : decode cX6_pegOf 56 = .ok (.ireturn, 1) := by decide +kernel
theorem dX6_pegOf_57 : decode cX6_pegOf 57 = .ok (.aload_n 0, 1) := by decide +kernel
theorem dX6_pegOf_58 : decode cX6_pegOf 58 = .ok (.getfield 7, 3) := by decide +kernel
theorem dX6_pegOf_61 : decode cX6_pegOf 61 = .ok (.bipush 10, 2) := by decide +kernel
theorem dX6_pegOf_63 : decode cX6_pegOf 63 = .ok (.iload_n 1, 1) := by decide +kernel
theorem dX6_pegOf_64 : decode cX6_pegOf 64 = .ok (.iadd, 1) := by decide +kernel
theorem dX6_pegOf_65 : decode cX6_pegOf 65 = .ok (.iaload, 1) := by decide +kernel
theorem dX6_pegOf_66 : decode cX6_pegOf 66 = .ok (.ireturn, 1) := by decide +kernel
theorem dX6_pegOf_67 : decode cX6_pegOf 67 = .ok (.aload_n 0, 1) := by decide +kernel
theorem dX6_pegOf_68 : decode cX6_pegOf 68 = .ok (.iload_n 1, 1) := by decide +kernel
theorem dX6_pegOf_69 : decode cX6_pegOf 69 = .ok (.iload_n 2, 1) := by decide +kernel
theorem dX6_pegOf_70 : decode cX6_pegOf 70 = .ok (.iconst 2, 1) := by decide +kernel
theorem dX6_pegOf_71 : decode cX6_pegOf 71 = .ok (.isub, 1) := by decide +kernel
theorem dX6_pegOf_72 : decode cX6_pegOf 72 = .ok (.invokevirtual 60, 3) := by decide +kernel
theorem dX6_pegOf_75 : decode cX6_pegOf 75 = .ok (.ireturn, 1) := by decide +kernel
theorem dX6_pegOf_76 : decode cX6_pegOf 76 = .ok (.aload_n 0, 1) := by decide +kernel
theorem dX6_pegOf_77 : decode cX6_pegOf 77 = .ok (.iload_n 1, 1) := by decide +kernel
theorem dX6_pegOf_78 : decode cX6_pegOf 78 = .ok (.iload_n 2, 1) := by decide +kernel
theorem dX6_pegOf_79 : decode cX6_pegOf 79 = .ok (.iconst 4, 1) := by decide +kernel
theorem dX6_pegOf_80 : decode cX6_pegOf 80 = .ok (.isub, 1) := by decide +kernel
theorem dX6_pegOf_81 : decode cX6_pegOf 81 = .ok (.invokevirtual 53, 3) := by decide +kernel
theorem dX6_pegOf_84 : decode cX6_pegOf 84 = .ok (.ireturn, 1) := by decide +kernel
theorem dX6_pegOf_85 : decode cX6_pegOf 85 = .ok (.aload_n 0, 1) := by decide +kernel
theorem dX6_pegOf_86 : decode cX6_pegOf 86 = .ok (.iload_n 1, 1) := by decide +kernel
theorem dX6_pegOf_87 : decode cX6_pegOf 87 = .ok (.iconst 3, 1) := by decide +kernel
theorem dX6_pegOf_88 : decode cX6_pegOf 88 = .ok (.invokevirtual 127, 3) := by decide +kernel
theorem dX6_pegOf_91 : decode cX6_pegOf 91 = .ok (.ireturn, 1) := by decide +kernel
theorem dX6_pegOf_92 : decode cX6_pegOf 92 = .ok (.aload_n 0, 1) := by decide +kernel
theorem dX6_pegOf_93 : decode cX6_pegOf 93 = .ok (.getfield 22, 3) := by decide +kernel
theorem dX6_pegOf_96 : decode cX6_pegOf 96 = .ok (.iload_n 1, 1) := by decide +kernel
theorem dX6_pegOf_97 : decode cX6_pegOf 97 = .ok (.laload, 1) := by decide +kernel
theorem dX6_pegOf_98 : decode cX6_pegOf 98 = .ok (.lconst 0, 1) := by decide +kernel
theorem dX6_pegOf_99 : decode cX6_pegOf 99 = .ok (.lcmp, 1) := by decide +kernel
theorem dX6_pegOf_100 : decode cX6_pegOf 100 = .ok (.ifCond .ne 7, 3) := by decide +kernel
theorem dX6_pegOf_103 : decode cX6_pegOf 103 = .ok (.iconst 0, 1) := by decide +kernel
theorem dX6_pegOf_104 : decode cX6_pegOf 104 = .ok (.goto 19, 3) := by decide +kernel
theorem dX6_pegOf_107 : decode cX6_pegOf 107 = .ok (.aload_n 0, 1) := by decide +kernel
theorem dX6_pegOf_108 : decode cX6_pegOf 108 = .ok (.getfield 22, 3) := by decide +kernel
theorem dX6_pegOf_111 : decode cX6_pegOf 111 = .ok (.iload_n 1, 1) := by decide +kernel
theorem dX6_pegOf_112 : decode cX6_pegOf 112 = .ok (.laload, 1) := by decide +kernel
theorem dX6_pegOf_113 : decode cX6_pegOf 113 = .ok (.lconst 0, 1) := by decide +kernel
theorem dX6_pegOf_114 : decode cX6_pegOf 114 = .ok (.lcmp, 1) := by decide +kernel
theorem dX6_pegOf_115 : decode cX6_pegOf 115 = .ok (.ifCond .le 7, 3) := by decide +kernel
theorem dX6_pegOf_118 : decode cX6_pegOf 118 = .ok (.iconst 1, 1) := by decide +kernel
theorem dX6_pegOf_119 : decode cX6_pegOf 119 = .ok (.goto 4, 3) := by decide +kernel
theorem dX6_pegOf_122 : decode cX6_pegOf 122 = .ok (.iconst 2, 1) := by decide +kernel
theorem dX6_pegOf_123 : decode cX6_pegOf 123 = .ok (.ireturn, 1) := by decide +kernel
theorem dX6_pegOf_124 : decode cX6_pegOf 124 = .ok (.aload_n 0, 1) := by decide +kernel
theorem dX6_pegOf_125 : decode cX6_pegOf 125 = .ok (.getfield 29, 3) := by decide +kernel
theorem dX6_pegOf_128 : decode cX6_pegOf 128 = .ok (.iload_n 1, 1) := by decide +kernel
theorem dX6_pegOf_129 : decode cX6_pegOf 129 = .ok (.baload, 1) := by decide +kernel
theorem dX6_pegOf_130 : decode cX6_pegOf 130 = .ok (.ifCond .eq 7, 3) := by decide +kernel
theorem dX6_pegOf_133 : decode cX6_pegOf 133 = .ok (.iconst 1, 1) := by decide +kernel
theorem dX6_pegOf_134 : decode cX6_pegOf 134 = .ok (.goto 4, 3) := by decide +kernel
theorem dX6_pegOf_137 : decode cX6_pegOf 137 = .ok (.iconst 0, 1) := by decide +kernel
theorem dX6_pegOf_138 : decode cX6_pegOf 138 = .ok (.ireturn, 1) := by decide +kernel
theorem dX6_peg_0 : decode cX6_peg 0 = .ok (.aload_n 0, 1) := by decide +kernel
theorem dX6_peg_1 : decode cX6_peg 1 = .ok (.invokevirtual 156, 3) := by decide +kernel
theorem dX6_peg_4 : decode cX6_peg 4 = .ok (.aload_n 0, 1) := by decide +kernel
theorem dX6_peg_5 : decode cX6_peg 5 = .ok (.aload_n 0, 1) := by decide +kernel
theorem dX6_peg_6 : decode cX6_peg 6 = .ok (.iload_n 1, 1) := by decide +kernel
theorem dX6_peg_7 : decode cX6_peg 7 = .ok (.invokevirtual 121, 3) := by decide +kernel
theorem dX6_peg_10 : decode cX6_peg 10 = .ok (.ifCond .ne 7, 3) := by decide +kernel
theorem dX6_peg_13 : decode cX6_peg 13 = .ok (.iconst 1, 1) := by decide +kernel
theorem dX6_peg_14 : decode cX6_peg 14 = .ok (.goto 18, 3) := by decide +kernel
theorem dX6_peg_17 : decode cX6_peg 17 = .ok (.iload_n 2, 1) := by decide +kernel
theorem dX6_peg_18 : decode cX6_peg 18 = .ok (.iconst 0, 1) := by decide +kernel
theorem dX6_peg_19 : decode cX6_peg 19 = .ok (.bipush 8, 2) := by decide +kernel
theorem dX6_peg_21 : decode cX6_peg 21 = .ok (.invokestatic 46, 3) := by decide +kernel
theorem dX6_peg_24 : decode cX6_peg 24 = .ok (.ifCond .ne 7, 3) := by decide +kernel
theorem dX6_peg_27 : decode cX6_peg 27 = .ok (.iconst 2, 1) := by decide +kernel
theorem dX6_peg_28 : decode cX6_peg 28 = .ok (.goto 4, 3) := by decide +kernel
theorem dX6_peg_31 : decode cX6_peg 31 = .ok (.iconst 0, 1) := by decide +kernel
theorem dX6_peg_32 : decode cX6_peg 32 = .ok (.invokevirtual 111, 3) := by decide +kernel
theorem dX6_peg_35 : decode cX6_peg 35 = .ok (.ifCond .eq 12, 3) := by decide +kernel
theorem dX6_peg_38 : decode cX6_peg 38 = .ok (.aload_n 0, 1) := by decide +kernel
theorem dX6_peg_39 : decode cX6_peg 39 = .ok (.iload_n 1, 1) := by decide +kernel
theorem dX6_peg_40 : decode cX6_peg 40 = .ok (.iload_n 2, 1) := by decide +kernel
theorem dX6_peg_41 : decode cX6_peg 41 = .ok (.invokevirtual 192, 3) := by decide +kernel
theorem dX6_peg_44 : decode cX6_peg 44 = .ok (.goto 4, 3) := by decide +kernel
theorem dX6_peg_47 : decode cX6_peg 47 = .ok (.iconst 0, 1) := by decide +kernel
theorem dX6_peg_48 : decode cX6_peg 48 = .ok (.ireturn, 1) := by decide +kernel
theorem dX6_speed_0 : decode cX6_speed 0 = .ok (.aload_n 0, 1) := by decide +kernel
theorem dX6_speed_1 : decode cX6_speed 1 = .ok (.invokevirtual 156, 3) := by decide +kernel
theorem dX6_speed_4 : decode cX6_speed 4 = .ok (.aload_n 0, 1) := by decide +kernel
theorem dX6_speed_5 : decode cX6_speed 5 = .ok (.aload_n 0, 1) := by decide +kernel
theorem dX6_speed_6 : decode cX6_speed 6 = .ok (.iload_n 1, 1) := by decide +kernel
theorem dX6_speed_7 : decode cX6_speed 7 = .ok (.invokevirtual 121, 3) := by decide +kernel
theorem dX6_speed_10 : decode cX6_speed 10 = .ok (.ifCond .ne 7, 3) := by decide +kernel
theorem dX6_speed_13 : decode cX6_speed 13 = .ok (.iconst 1, 1) := by decide +kernel
theorem dX6_speed_14 : decode cX6_speed 14 = .ok (.goto 17, 3) := by decide +kernel
theorem dX6_speed_17 : decode cX6_speed 17 = .ok (.iload_n 2, 1) := by decide +kernel
theorem dX6_speed_18 : decode cX6_speed 18 = .ok (.iconst 0, 1) := by decide +kernel
theorem dX6_speed_19 : decode cX6_speed 19 = .ok (.iconst 1, 1) := by decide +kernel
theorem dX6_speed_20 : decode cX6_speed 20 = .ok (.invokestatic 46, 3) := by decide +kernel
theorem dX6_speed_23 : decode cX6_speed 23 = .ok (.ifCond .ne 7, 3) := by decide +kernel
theorem dX6_speed_26 : decode cX6_speed 26 = .ok (.iconst 2, 1) := by decide +kernel
theorem dX6_speed_27 : decode cX6_speed 27 = .ok (.goto 4, 3) := by decide +kernel
theorem dX6_speed_30 : decode cX6_speed 30 = .ok (.iconst 0, 1) := by decide +kernel
theorem dX6_speed_31 : decode cX6_speed 31 = .ok (.invokevirtual 111, 3) := by decide +kernel
theorem dX6_speed_34 : decode cX6_speed 34 = .ok (.ifCond .eq 25, 3) := by decide +kernel
theorem dX6_speed_37 : decode cX6_speed 37 = .ok (.iload_n 2, 1) := by decide +kernel
theorem dX6_speed_38 : decode cX6_speed 38 = .ok (.ifCond .ne 12, 3) := by decide +kernel
theorem dX6_speed_41 : decode cX6_speed 41 = .ok (.aload_n 0, 1) := by decide +kernel
theorem dX6_speed_42 : decode cX6_speed 42 = .ok (.getfield 22, 3) := by decide +kernel
theorem dX6_speed_45 : decode cX6_speed 45 = .ok (.iload_n 1, 1) := by decide +kernel
theorem dX6_speed_46 : decode cX6_speed 46 = .ok (.laload, 1) := by decide +kernel
theorem dX6_speed_47 : decode cX6_speed 47 = .ok (.goto 13, 3) := by decide +kernel
theorem dX6_speed_50 : decode cX6_speed 50 = .ok (.aload_n 0, 1) := by decide +kernel
theorem dX6_speed_51 : decode cX6_speed 51 = .ok (.getfield 26, 3) := by decide +kernel
theorem dX6_speed_54 : decode cX6_speed 54 = .ok (.iload_n 1, 1) := by decide +kernel
theorem dX6_speed_55 : decode cX6_speed 55 = .ok (.laload, 1) := by decide +kernel
theorem dX6_speed_56 : decode cX6_speed 56 = .ok (.goto 4, 3) := by decide +kernel
theorem dX6_speed_59 : decode cX6_speed 59 = .ok (.lconst 0, 1) := by decide +kernel
theorem dX6_speed_60 : decode cX6_speed 60 = .ok (.lreturn, 1) := by decide +kernel
theorem dX6_meshes_0 : decode cX6_meshes 0 = .ok (.aload_n 0, 1) := by decide +kernel
theorem dX6_meshes_1 : decode cX6_meshes 1 = .ok (.aload_n 0, 1) := by decide +kernel
theorem dX6_meshes_2 : decode cX6_meshes 2 = .ok (.iload_n 1, 1) := by decide +kernel
theorem dX6_meshes_3 : decode cX6_meshes 3 = .ok (.invokevirtual 121, 3) := by decide +kernel
theorem dX6_meshes_6 : decode cX6_meshes 6 = .ok (.ifCond .eq 15, 3) := by decide +kernel
theorem dX6_meshes_9 : decode cX6_meshes 9 = .ok (.aload_n 0, 1) := by decide +kernel
theorem dX6_meshes_10 : decode cX6_meshes 10 = .ok (.iload_n 2, 1) := by decide +kernel
theorem dX6_meshes_11 : decode cX6_meshes 11 = .ok (.invokevirtual 121, 3) := by decide +kernel
theorem dX6_meshes_14 : decode cX6_meshes 14 = .ok (.ifCond .eq 7, 3) := by decide +kernel
theorem dX6_meshes_17 : decode cX6_meshes 17 = .ok (.iconst 0, 1) := by decide +kernel
theorem dX6_meshes_18 : decode cX6_meshes 18 = .ok (.goto 4, 3) := by decide +kernel
theorem dX6_meshes_21 : decode cX6_meshes 21 = .ok (.iconst 1, 1) := by decide +kernel
theorem dX6_meshes_22 : decode cX6_meshes 22 = .ok (.invokevirtual 111, 3) := by decide +kernel
theorem dX6_meshes_25 : decode cX6_meshes 25 = .ok (.ifCond .eq 12, 3) := by decide +kernel
theorem dX6_meshes_28 : decode cX6_meshes 28 = .ok (.aload_n 0, 1) := by decide +kernel
theorem dX6_meshes_29 : decode cX6_meshes 29 = .ok (.iload_n 1, 1) := by decide +kernel
theorem dX6_meshes_30 : decode cX6_meshes 30 = .ok (.iload_n 2, 1) := by decide +kernel
theorem dX6_meshes_31 : decode cX6_meshes 31 = .ok (.invokevirtual 73, 3) := by decide +kernel
theorem dX6_meshes_34 : decode cX6_meshes 34 = .ok (.goto 4, 3) := by decide +kernel
theorem dX6_meshes_37 : decode cX6_meshes 37 = .ok (.iconst 0, 1) := by decide +kernel
theorem dX6_meshes_38 : decode cX6_meshes 38 = .ok (.ireturn, 1) := by decide +kernel
theorem dX6_layTrain_0 : decode cX6_layTrain 0 = .ok (.iconst 0, 1) := by decide +kernel
theorem dX6_layTrain_1 : decode cX6_layTrain 1 = .ok (.istore_n 3, 1) := by decide +kernel
theorem dX6_layTrain_2 : decode cX6_layTrain 2 = .ok (.iload_n 3, 1) := by decide +kernel
theorem dX6_layTrain_3 : decode cX6_layTrain 3 = .ok (.bipush 9, 2) := by decide +kernel
theorem dX6_layTrain_5 : decode cX6_layTrain 5 = .ok (.if_icmp .ge 25, 3) := by decide +kernel
theorem dX6_layTrain_8 : decode cX6_layTrain 8 = .ok (.aload_n 0, 1) := by decide +kernel
theorem dX6_layTrain_9 : decode cX6_layTrain 9 = .ok (.getfield 36, 3) := by decide +kernel
theorem dX6_layTrain_12 : decode cX6_layTrain 12 = .ok (.iload_n 3, 1) := by decide +kernel
theorem dX6_layTrain_13 : decode cX6_layTrain 13 = .ok (.iload_n 3, 1) := by decide +kernel
theorem dX6_layTrain_14 : decode cX6_layTrain 14 = .ok (.iload_n 2, 1) := by decide +kernel
theorem dX6_layTrain_15 : decode cX6_layTrain 15 = .ok (.if_icmp .ne 7, 3) := by decide +kernel
theorem dX6_layTrain_18 : decode cX6_layTrain 18 = .ok (.iconst 0, 1) := by decide +kernel
theorem dX6_layTrain_19 : decode cX6_layTrain 19 = .ok (.goto 4, 3) := by decide +kernel
theorem dX6_layTrain_22 : decode cX6_layTrain 22 = .ok (.iconst (-1), 1) := by decide +kernel
theorem dX6_layTrain_23 : decode cX6_layTrain 23 = .ok (.iastore, 1) := by decide +kernel
theorem dX6_layTrain_24 : decode cX6_layTrain 24 = .ok (.iinc 3 1, 3) := by decide +kernel
theorem dX6_layTrain_27 : decode cX6_layTrain 27 = .ok (.goto (-25), 3) := by decide +kernel
theorem dX6_layTrain_30 : decode cX6_layTrain 30 = .ok (.iconst 0, 1) := by decide +kernel
theorem dX6_layTrain_31 : decode cX6_layTrain 31 = .ok (.istore_n 3, 1) := by decide +kernel
theorem dX6_layTrain_32 : decode cX6_layTrain 32 = .ok (.iload_n 3, 1) := by decide +kernel
theorem dX6_layTrain_33 : decode cX6_layTrain 33 = .ok (.bipush 9, 2) := by decide +kernel
theorem dX6_layTrain_35 : decode cX6_layTrain 35 = .ok (.if_icmp .ge 123, 3) := by decide +kernel
theorem dX6_layTrain_38 : decode cX6_layTrain 38 = .ok (.iconst 0, 1) := by decide +kernel
theorem dX6_layTrain_39 : decode cX6_layTrain 39 = .ok (.istore 4, 2) := by decide +kernel
theorem dX6_layTrain_41 : decode cX6_layTrain 41 = .ok (.iload 4, 2) := by decide +kernel
theorem dX6_layTrain_43 : decode cX6_layTrain 43 = .ok (.aload_n 0, 1) := by decide +kernel
theorem dX6_layTrain_44 : decode cX6_layTrain 44 = .ok (.getfield 7, 3) := by decide +kernel
theorem dX6_layTrain_47 : decode cX6_layTrain 47 = .ok (.iconst 0, 1) := by decide +kernel
theorem dX6_layTrain_48 : decode cX6_layTrain 48 = .ok (.iaload, 1) := by decide +kernel
theorem dX6_layTrain_49 : decode cX6_layTrain 49 = .ok (.aload_n 0, 1) := by decide +kernel
theorem dX6_layTrain_50 : decode cX6_layTrain 50 = .ok (.getfield 7, 3) := by decide +kernel
theorem dX6_layTrain_53 : decode cX6_layTrain 53 = .ok (.iconst 0, 1) := by decide +kernel
theorem dX6_layTrain_54 : decode cX6_layTrain 54 = .ok (.iaload, 1) := by decide +kernel
theorem dX6_layTrain_55 : decode cX6_layTrain 55 = .ok (.imul, 1) := by decide +kernel
theorem dX6_layTrain_56 : decode cX6_layTrain 56 = .ok (.if_icmp .ge 96, 3) := by decide +kernel
theorem dX6_layTrain_59 : decode cX6_layTrain 59 = .ok (.iload 4, 2) := by decide +kernel
theorem dX6_layTrain_61 : decode cX6_layTrain 61 = .ok (.aload_n 0, 1) := by decide +kernel
theorem dX6_layTrain_62 : decode cX6_layTrain 62 = .ok (.getfield 7, 3) := by decide +kernel
theorem dX6_layTrain_65 : decode cX6_layTrain 65 = .ok (.iconst 0, 1) := by decide +kernel
theorem dX6_layTrain_66 : decode cX6_layTrain 66 = .ok (.iaload, 1) := by decide +kernel
theorem dX6_layTrain_67 : decode cX6_layTrain 67 = .ok (.idiv, 1) := by decide +kernel
theorem dX6_layTrain_68 : decode cX6_layTrain 68 = .ok (.istore 5, 2) := by decide +kernel
theorem dX6_layTrain_70 : decode cX6_layTrain 70 = .ok (.iload 4, 2) := by decide +kernel
theorem dX6_layTrain_72 : decode cX6_layTrain 72 = .ok (.aload_n 0, 1) := by decide +kernel
theorem dX6_layTrain_73 : decode cX6_layTrain 73 = .ok (.getfield 7, 3) := by decide +kernel
theorem dX6_layTrain_76 : decode cX6_layTrain 76 = .ok (.iconst 0, 1) := by decide +kernel
theorem dX6_layTrain_77 : decode cX6_layTrain 77 = .ok (.iaload, 1) := by decide +kernel
theorem dX6_layTrain_78 : decode cX6_layTrain 78 = .ok (.irem, 1) := by decide +kernel
theorem dX6_layTrain_79 : decode cX6_layTrain 79 = .ok (.istore 6, 2) := by decide +kernel
theorem dX6_layTrain_81 : decode cX6_layTrain 81 = .ok (.aload_n 0, 1) := by decide +kernel
theorem dX6_layTrain_82 : decode cX6_layTrain 82 = .ok (.getfield 36, 3) := by decide +kernel
theorem dX6_layTrain_85 : decode cX6_layTrain 85 = .ok (.iload 5, 2) := by decide +kernel
theorem dX6_layTrain_87 : decode cX6_layTrain 87 = .ok (.iaload, 1) := by decide +kernel
theorem dX6_layTrain_88 : decode cX6_layTrain 88 = .ok (.iload_n 3, 1) := by decide +kernel
theorem dX6_layTrain_89 : decode cX6_layTrain 89 = .ok (.if_icmp .ne 29, 3) := by decide +kernel
theorem dX6_layTrain_92 : decode cX6_layTrain 92 = .ok (.aload_n 0, 1) := by decide +kernel
theorem dX6_layTrain_93 : decode cX6_layTrain 93 = .ok (.getfield 36, 3) := by decide +kernel
theorem dX6_layTrain_96 : decode cX6_layTrain 96 = .ok (.iload 6, 2) := by decide +kernel
theorem dX6_layTrain_98 : decode cX6_layTrain 98 = .ok (.iaload, 1) := by decide +kernel
theorem dX6_layTrain_99 : decode cX6_layTrain 99 = .ok (.iconst (-1), 1) := by decide +kernel
theorem dX6_layTrain_100 : decode cX6_layTrain 100 = .ok (.if_icmp .ne 18, 3) := by decide +kernel
theorem dX6_layTrain_103 : decode cX6_layTrain 103 = .ok (.aload_n 0, 1) := by decide +kernel
theorem dX6_layTrain_104 : decode cX6_layTrain 104 = .ok (.iload 5, 2) := by decide +kernel
theorem dX6_layTrain_106 : decode cX6_layTrain 106 = .ok (.iload 6, 2) := by decide +kernel
theorem dX6_layTrain_108 : decode cX6_layTrain 108 = .ok (.invokevirtual 73, 3) := by decide +kernel
theorem dX6_layTrain_111 : decode cX6_layTrain 111 = .ok (.ifCond .le 7, 3) := by decide +kernel
theorem dX6_layTrain_114 : decode cX6_layTrain 114 = .ok (.iconst 1, 1) := by decide +kernel
theorem dX6_layTrain_115 : decode cX6_layTrain 115 = .ok (.goto 4, 3) := by decide +kernel
theorem dX6_layTrain_118 : decode cX6_layTrain 118 = .ok (.iconst 0, 1) := by decide +kernel
theorem dX6_layTrain_119 : decode cX6_layTrain 119 = .ok (.istore 7, 2) := by decide +kernel
theorem dX6_layTrain_121 : decode cX6_layTrain 121 = .ok (.aload_n 0, 1) := by decide +kernel
theorem dX6_layTrain_122 : decode cX6_layTrain 122 = .ok (.getfield 36, 3) := by decide +kernel
theorem dX6_layTrain_125 : decode cX6_layTrain 125 = .ok (.iload 6, 2) := by decide +kernel
theorem dX6_layTrain_127 : decode cX6_layTrain 127 = .ok (.iload 7, 2) := by decide +kernel
theorem dX6_layTrain_129 : decode cX6_layTrain 129 = .ok (.ifCond .eq 9, 3) := by decide +kernel
theorem dX6_layTrain_132 : decode cX6_layTrain 132 = .ok (.iload_n 3, 1) := by decide +kernel
theorem dX6_layTrain_133 : decode cX6_layTrain 133 = .ok (.iconst 1, 1) := by decide +kernel
theorem dX6_layTrain_134 : decode cX6_layTrain 134 = .ok (.iadd, 1) := by decide +kernel
theorem dX6_layTrain_135 : decode cX6_layTrain 135 = .ok (.goto 10, 3) := by decide +kernel
theorem dX6_layTrain_138 : decode cX6_layTrain 138 = .ok (.aload_n 0, 1) := by decide +kernel
theorem dX6_layTrain_139 : decode cX6_layTrain 139 = .ok (.getfield 36, 3) := by decide +kernel
theorem dX6_layTrain_142 : decode cX6_layTrain 142 = .ok (.iload 6, 2) := by decide +kernel
theorem dX6_layTrain_144 : decode cX6_layTrain 144 = .ok (.iaload, 1) := by decide +kernel
theorem dX6_layTrain_145 : decode cX6_layTrain 145 = .ok (.iastore, 1) := by decide +kernel
theorem dX6_layTrain_146 : decode cX6_layTrain 146 = .ok (.iinc 4 1, 3) := by decide +kernel
theorem dX6_layTrain_149 : decode cX6_layTrain 149 = .ok (.goto (-108), 3) := by decide +kernel
theorem dX6_layTrain_152 : decode cX6_layTrain 152 = .ok (.iinc 3 1, 3) := by decide +kernel
theorem dX6_layTrain_155 : decode cX6_layTrain 155 = .ok (.goto (-123), 3) := by decide +kernel
theorem dX6_layTrain_158 : decode cX6_layTrain 158 = .ok (.aload_n 0, 1) := by decide +kernel
theorem dX6_layTrain_159 : decode cX6_layTrain 159 = .ok (.aload_n 0, 1) := by decide +kernel
theorem dX6_layTrain_160 : decode cX6_layTrain 160 = .ok (.getfield 36, 3) := by decide +kernel
theorem dX6_layTrain_163 : decode cX6_layTrain 163 = .ok (.iload_n 1, 1) := by decide +kernel
theorem dX6_layTrain_164 : decode cX6_layTrain 164 = .ok (.iaload, 1) := by decide +kernel
theorem dX6_layTrain_165 : decode cX6_layTrain 165 = .ok (.iconst 1, 1) := by decide +kernel
theorem dX6_layTrain_166 : decode cX6_layTrain 166 = .ok (.iadd, 1) := by decide +kernel
theorem dX6_layTrain_167 : decode cX6_layTrain 167 = .ok (.putfield 195, 3) := by decide +kernel
theorem dX6_layTrain_170 : decode cX6_layTrain 170 = .ok (.aload_n 0, 1) := by decide +kernel
theorem dX6_layTrain_171 : decode cX6_layTrain 171 = .ok (.getfield 39, 3) := by decide +kernel
theorem dX6_layTrain_174 : decode cX6_layTrain 174 = .ok (.iconst 0, 1) := by decide +kernel
theorem dX6_layTrain_175 : decode cX6_layTrain 175 = .ok (.iload_n 1, 1) := by decide +kernel
theorem dX6_layTrain_176 : decode cX6_layTrain 176 = .ok (.iastore, 1) := by decide +kernel
theorem dX6_layTrain_177 : decode cX6_layTrain 177 = .ok (.iconst 1, 1) := by decide +kernel
theorem dX6_layTrain_178 : decode cX6_layTrain 178 = .ok (.istore_n 3, 1) := by decide +kernel
theorem dX6_layTrain_179 : decode cX6_layTrain 179 = .ok (.iload_n 3, 1) := by decide +kernel
theorem dX6_layTrain_180 : decode cX6_layTrain 180 = .ok (.aload_n 0, 1) := by decide +kernel
theorem dX6_layTrain_181 : decode cX6_layTrain 181 = .ok (.getfield 195, 3) := by decide +kernel
theorem dX6_layTrain_184 : decode cX6_layTrain 184 = .ok (.if_icmp .ge 92, 3) := by decide +kernel
theorem dX6_layTrain_187 : decode cX6_layTrain 187 = .ok (.iconst (-1), 1) := by decide +kernel
theorem dX6_layTrain_188 : decode cX6_layTrain 188 = .ok (.istore 4, 2) := by decide +kernel
theorem dX6_layTrain_190 : decode cX6_layTrain 190 = .ok (.aload_n 0, 1) := by decide +kernel
theorem dX6_layTrain_191 : decode cX6_layTrain 191 = .ok (.getfield 7, 3) := by decide +kernel
theorem dX6_layTrain_194 : decode cX6_layTrain 194 = .ok (.iconst 0, 1) := by decide +kernel
theorem dX6_layTrain_195 : decode cX6_layTrain 195 = .ok (.iaload, 1) := by decide +kernel
theorem dX6_layTrain_196 : decode cX6_layTrain 196 = .ok (.iconst 1, 1) := by decide +kernel
theorem dX6_layTrain_197 : decode cX6_layTrain 197 = .ok (.isub, 1) := by decide +kernel
theorem dX6_layTrain_198 : decode cX6_layTrain 198 = .ok (.istore 5, 2) := by decide +kernel
theorem dX6_layTrain_200 : decode cX6_layTrain 200 = .ok (.iload 5, 2) := by decide +kernel
theorem dX6_layTrain_202 : decode cX6_layTrain 202 = .ok (.ifCond .lt 60, 3) := by decide +kernel
theorem dX6_layTrain_205 : decode cX6_layTrain 205 = .ok (.aload_n 0, 1) := by decide +kernel
theorem dX6_layTrain_206 : decode cX6_layTrain 206 = .ok (.getfield 36, 3) := by decide +kernel
theorem dX6_layTrain_209 : decode cX6_layTrain 209 = .ok (.iload 5, 2) := by decide +kernel
theorem dX6_layTrain_211 : decode cX6_layTrain 211 = .ok (.iaload, 1) := by decide +kernel
theorem dX6_layTrain_212 : decode cX6_layTrain 212 = .ok (.aload_n 0, 1) := by decide +kernel
theorem dX6_layTrain_213 : decode cX6_layTrain 213 = .ok (.getfield 36, 3) := by decide +kernel
theorem dX6_layTrain_216 : decode cX6_layTrain 216 = .ok (.aload_n 0, 1) := by decide +kernel
theorem dX6_layTrain_217 : decode cX6_layTrain 217 = .ok (.getfield 39, 3) := by decide +kernel
theorem dX6_layTrain_220 : decode cX6_layTrain 220 = .ok (.iload_n 3, 1) := by decide +kernel
theorem dX6_layTrain_221 : decode cX6_layTrain 221 = .ok (.iconst 1, 1) := by decide +kernel
theorem dX6_layTrain_222 : decode cX6_layTrain 222 = .ok (.isub, 1) := by decide +kernel
theorem dX6_layTrain_223 : decode cX6_layTrain 223 = .ok (.iaload, 1) := by decide +kernel
theorem dX6_layTrain_224 : decode cX6_layTrain 224 = .ok (.iaload, 1) := by decide +kernel
theorem dX6_layTrain_225 : decode cX6_layTrain 225 = .ok (.iconst 1, 1) := by decide +kernel
theorem dX6_layTrain_226 : decode cX6_layTrain 226 = .ok (.isub, 1) := by decide +kernel
theorem dX6_layTrain_227 : decode cX6_layTrain 227 = .ok (.if_icmp .ne 25, 3) := by decide +kernel
theorem dX6_layTrain_230 : decode cX6_layTrain 230 = .ok (.aload_n 0, 1) := by decide +kernel
theorem dX6_layTrain_231 : decode cX6_layTrain 231 = .ok (.aload_n 0, 1) := by decide +kernel
theorem dX6_layTrain_232 : decode cX6_layTrain 232 = .ok (.getfield 39, 3) := by decide +kernel
theorem dX6_layTrain_235 : decode cX6_layTrain 235 = .ok (.iload_n 3, 1) := by decide +kernel
theorem dX6_layTrain_236 : decode cX6_layTrain 236 = .ok (.iconst 1, 1) := by decide +kernel
theorem dX6_layTrain_237 : decode cX6_layTrain 237 = .ok (.isub, 1) := by decide +kernel
theorem dX6_layTrain_238 : decode cX6_layTrain 238 = .ok (.iaload, 1) := by decide +kernel
theorem dX6_layTrain_239 : decode cX6_layTrain 239 = .ok (.iload 5, 2) := by decide +kernel
theorem dX6_layTrain_241 : decode cX6_layTrain 241 = .ok (.invokevirtual 73, 3) := by decide +kernel
theorem dX6_layTrain_244 : decode cX6_layTrain 244 = .ok (.ifCond .le 8, 3) := by decide +kernel
theorem dX6_layTrain_247 : decode cX6_layTrain 247 = .ok (.iload 5, 2) := by decide +kernel
theorem dX6_layTrain_249 : decode cX6_layTrain 249 = .ok (.goto 5, 3) := by decide +kernel
theorem dX6_layTrain_252 : decode cX6_layTrain 252 = .ok (.iload 4, 2) := by decide +kernel
theorem dX6_layTrain_254 : decode cX6_layTrain 254 = .ok (.istore 4, 2) := by decide +kernel
theorem dX6_layTrain_256 : decode cX6_layTrain 256 = .ok (.iinc 5 (-1), 3) := by decide +kernel
theorem dX6_layTrain_259 : decode cX6_layTrain 259 = .ok (.goto (-59), 3) := by decide +kernel
theorem dX6_layTrain_262 : decode cX6_layTrain 262 = .ok (.aload_n 0, 1) := by decide +kernel
theorem dX6_layTrain_263 : decode cX6_layTrain 263 = .ok (.getfield 39, 3) := by decide +kernel
theorem dX6_layTrain_266 : decode cX6_layTrain 266 = .ok (.iload_n 3, 1) := by decide +kernel
theorem dX6_layTrain_267 : decode cX6_layTrain 267 = .ok (.iload 4, 2) := by decide +kernel
theorem dX6_layTrain_269 : decode cX6_layTrain 269 = .ok (.iastore, 1) := by decide +kernel
theorem dX6_layTrain_270 : decode cX6_layTrain 270 = .ok (.iinc 3 1, 3) := by decide +kernel
theorem dX6_layTrain_273 : decode cX6_layTrain 273 = .ok (.goto (-94), 3) := by decide +kernel
theorem dX6_layTrain_276 : decode cX6_layTrain 276 = .ok (.aload_n 0, 1) := by decide +kernel
theorem dX6_layTrain_277 : decode cX6_layTrain 277 = .ok (.invokevirtual 198, 3) := by decide +kernel
theorem dX6_layTrain_280 : decode cX6_layTrain 280 = .ok (.return_, 1) := by decide +kernel
theorem dX6_layRatio_0 : decode cX6_layRatio 0 = .ok (.aload_n 0, 1) := by decide +kernel
theorem dX6_layRatio_1 : decode cX6_layRatio 1 = .ok (.aload_n 0, 1) := by decide +kernel
theorem dX6_layRatio_2 : decode cX6_layRatio 2 = .ok (.getfield 195, 3) := by decide +kernel
theorem dX6_layRatio_5 : decode cX6_layRatio 5 = .ok (.ifCond .le 7, 3) := by decide +kernel
theorem dX6_layRatio_8 : decode cX6_layRatio 8 = .ok (.lconst 1, 1) := by decide +kernel
theorem dX6_layRatio_9 : decode cX6_layRatio 9 = .ok (.goto 4, 3) := by decide +kernel
theorem dX6_layRatio_12 : decode cX6_layRatio 12 = .ok (.lconst 0, 1) := by decide +kernel
theorem dX6_layRatio_13 : decode cX6_layRatio 13 = .ok (.putfield 82, 3) := by decide +kernel
theorem dX6_layRatio_16 : decode cX6_layRatio 16 = .ok (.aload_n 0, 1) := by decide +kernel
theorem dX6_layRatio_17 : decode cX6_layRatio 17 = .ok (.lconst 1, 1) := by decide +kernel
theorem dX6_layRatio_18 : decode cX6_layRatio 18 = .ok (.putfield 86, 3) := by decide +kernel
theorem dX6_layRatio_21 : decode cX6_layRatio 21 = .ok (.aload_n 0, 1) := by decide +kernel
theorem dX6_layRatio_22 : decode cX6_layRatio 22 = .ok (.iconst 0, 1) := by decide +kernel
theorem dX6_layRatio_23 : decode cX6_layRatio 23 = .ok (.putfield 201, 3) := by decide +kernel
theorem dX6_layRatio_26 : decode cX6_layRatio 26 = .ok (.iconst (-1), 1) := by decide +kernel
theorem dX6_layRatio_27 : decode cX6_layRatio 27 = .ok (.istore_n 1, 1) := by decide +kernel
theorem dX6_layRatio_28 : decode cX6_layRatio 28 = .ok (.iconst 1, 1) := by decide +kernel
theorem dX6_layRatio_29 : decode cX6_layRatio 29 = .ok (.istore_n 2, 1) := by decide +kernel
theorem dX6_layRatio_30 : decode cX6_layRatio 30 = .ok (.iload_n 2, 1) := by decide +kernel
theorem dX6_layRatio_31 : decode cX6_layRatio 31 = .ok (.aload_n 0, 1) := by decide +kernel
theorem dX6_layRatio_32 : decode cX6_layRatio 32 = .ok (.getfield 195, 3) := by decide +kernel
theorem dX6_layRatio_35 : decode cX6_layRatio 35 = .ok (.if_icmp .ge 85, 3) := by decide +kernel
theorem dX6_layRatio_38 : decode cX6_layRatio 38 = .ok (.aload_n 0, 1) := by decide +kernel
theorem dX6_layRatio_39 : decode cX6_layRatio 39 = .ok (.aload_n 0, 1) := by decide +kernel
theorem dX6_layRatio_40 : decode cX6_layRatio 40 = .ok (.getfield 39, 3) := by decide +kernel
theorem dX6_layRatio_43 : decode cX6_layRatio 43 = .ok (.iload_n 2, 1) := by decide +kernel
theorem dX6_layRatio_44 : decode cX6_layRatio 44 = .ok (.iconst 1, 1) := by decide +kernel
theorem dX6_layRatio_45 : decode cX6_layRatio 45 = .ok (.isub, 1) := by decide +kernel
theorem dX6_layRatio_46 : decode cX6_layRatio 46 = .ok (.iaload, 1) := by decide +kernel
theorem dX6_layRatio_47 : decode cX6_layRatio 47 = .ok (.aload_n 0, 1) := by decide +kernel
theorem dX6_layRatio_48 : decode cX6_layRatio 48 = .ok (.getfield 39, 3) := by decide +kernel
theorem dX6_layRatio_51 : decode cX6_layRatio 51 = .ok (.iload_n 2, 1) := by decide +kernel
theorem dX6_layRatio_52 : decode cX6_layRatio 52 = .ok (.iaload, 1) := by decide +kernel
theorem dX6_layRatio_53 : decode cX6_layRatio 53 = .ok (.iconst 0, 1) := by decide +kernel
theorem dX6_layRatio_54 : decode cX6_layRatio 54 = .ok (.invokevirtual 70, 3) := by decide +kernel
theorem dX6_layRatio_57 : decode cX6_layRatio 57 = .ok (.ifCond .eq 7, 3) := by decide +kernel
theorem dX6_layRatio_60 : decode cX6_layRatio 60 = .ok (.iconst 0, 1) := by decide +kernel
theorem dX6_layRatio_61 : decode cX6_layRatio 61 = .ok (.goto 4, 3) := by decide +kernel
theorem dX6_layRatio_64 : decode cX6_layRatio 64 = .ok (.iconst 1, 1) := by decide +kernel
theorem dX6_layRatio_65 : decode cX6_layRatio 65 = .ok (.istore_n 3, 1) := by decide +kernel
theorem dX6_layRatio_66 : decode cX6_layRatio 66 = .ok (.aload_n 0, 1) := by decide +kernel
theorem dX6_layRatio_67 : decode cX6_layRatio 67 = .ok (.aload_n 0, 1) := by decide +kernel
theorem dX6_layRatio_68 : decode cX6_layRatio 68 = .ok (.getfield 82, 3) := by decide +kernel
theorem dX6_layRatio_71 : decode cX6_layRatio 71 = .ok (.aload_n 0, 1) := by decide +kernel
theorem dX6_layRatio_72 : decode cX6_layRatio 72 = .ok (.getfield 86, 3) := by decide +kernel
theorem dX6_layRatio_75 : decode cX6_layRatio 75 = .ok (.aload_n 0, 1) := by decide +kernel
theorem dX6_layRatio_76 : decode cX6_layRatio 76 = .ok (.getfield 39, 3) := by decide +kernel
theorem dX6_layRatio_79 : decode cX6_layRatio 79 = .ok (.iload_n 2, 1) := by decide +kernel
theorem dX6_layRatio_80 : decode cX6_layRatio 80 = .ok (.iconst 1, 1) := by decide +kernel
theorem dX6_layRatio_81 : decode cX6_layRatio 81 = .ok (.isub, 1) := by decide +kernel
theorem dX6_layRatio_82 : decode cX6_layRatio 82 = .ok (.iaload, 1) := by decide +kernel
theorem dX6_layRatio_83 : decode cX6_layRatio 83 = .ok (.aload_n 0, 1) := by decide +kernel
theorem dX6_layRatio_84 : decode cX6_layRatio 84 = .ok (.getfield 39, 3) := by decide +kernel
theorem dX6_layRatio_87 : decode cX6_layRatio 87 = .ok (.iload_n 2, 1) := by decide +kernel
theorem dX6_layRatio_88 : decode cX6_layRatio 88 = .ok (.iaload, 1) := by decide +kernel
theorem dX6_layRatio_89 : decode cX6_layRatio 89 = .ok (.iload_n 3, 1) := by decide +kernel
theorem dX6_layRatio_90 : decode cX6_layRatio 90 = .ok (.invokevirtual 93, 3) := by decide +kernel
theorem dX6_layRatio_93 : decode cX6_layRatio 93 = .ok (.aload_n 0, 1) := by decide +kernel
theorem dX6_layRatio_94 : decode cX6_layRatio 94 = .ok (.dup, 1) := by decide +kernel
theorem dX6_layRatio_95 : decode cX6_layRatio 95 = .ok (.getfield 201, 3) := by decide +kernel
theorem dX6_layRatio_98 : decode cX6_layRatio 98 = .ok (.iload_n 3, 1) := by decide +kernel
theorem dX6_layRatio_99 : decode cX6_layRatio 99 = .ok (.iload_n 1, 1) := by decide +kernel
theorem dX6_layRatio_100 : decode cX6_layRatio 100 = .ok (.if_icmp .ne 7, 3) := by decide +kernel
theorem dX6_layRatio_103 : decode cX6_layRatio 103 = .ok (.iconst 1, 1) := by decide +kernel
theorem dX6_layRatio_104 : decode cX6_layRatio 104 = .ok (.goto 4, 3) := by decide +kernel
theorem dX6_layRatio_107 : decode cX6_layRatio 107 = .ok (.iconst 0, 1) := by decide +kernel
theorem dX6_layRatio_108 : decode cX6_layRatio 108 = .ok (.iadd, 1) := by decide +kernel
theorem dX6_layRatio_109 : decode cX6_layRatio 109 = .ok (.putfield 201, 3) := by decide +kernel
theorem dX6_layRatio_112 : decode cX6_layRatio 112 = .ok (.iload_n 3, 1) := by decide +kernel
theorem dX6_layRatio_113 : decode cX6_layRatio 113 = .ok (.istore_n 1, 1) := by decide +kernel
theorem dX6_layRatio_114 : decode cX6_layRatio 114 = .ok (.iinc 2 1, 3) := by decide +kernel
theorem dX6_layRatio_117 : decode cX6_layRatio 117 = .ok (.goto (-87), 3) := by decide +kernel
theorem dX6_layRatio_120 : decode cX6_layRatio 120 = .ok (.return_, 1) := by decide +kernel
theorem dX6_trainOf_0 : decode cX6_trainOf 0 = .ok (.aload_n 0, 1) := by decide +kernel
theorem dX6_trainOf_1 : decode cX6_trainOf 1 = .ok (.iload_n 1, 1) := by decide +kernel
theorem dX6_trainOf_2 : decode cX6_trainOf 2 = .ok (.iload_n 2, 1) := by decide +kernel
theorem dX6_trainOf_3 : decode cX6_trainOf 3 = .ok (.invokevirtual 204, 3) := by decide +kernel
theorem dX6_trainOf_6 : decode cX6_trainOf 6 = .ok (.aload_n 0, 1) := by decide +kernel
theorem dX6_trainOf_7 : decode cX6_trainOf 7 = .ok (.getfield 195, 3) := by decide +kernel
theorem dX6_trainOf_10 : decode cX6_trainOf 10 = .ok (.ifCond .ne 5, 3) := by decide +kernel
theorem dX6_trainOf_13 : decode cX6_trainOf 13 = .ok (.iconst (-1), 1) := by decide +kernel
theorem dX6_trainOf_14 : decode cX6_trainOf 14 = .ok (.ireturn, 1) := by decide +kernel
theorem dX6_trainOf_15 : decode cX6_trainOf 15 = .ok (.iload_n 3, 1) := by decide +kernel
theorem dX6_trainOf_16 : decode cX6_trainOf 16 = .ok (.ifCond .ne 10, 3) := by decide +kernel
theorem dX6_trainOf_19 : decode cX6_trainOf 19 = .ok (.aload_n 0, 1) := by decide +kernel
theorem dX6_trainOf_20 : decode cX6_trainOf 20 = .ok (.getfield 195, 3) := by decide +kernel
theorem dX6_trainOf_23 : decode cX6_trainOf 23 = .ok (.goto 55, 3) := by decide +kernel
theorem dX6_trainOf_26 : decode cX6_trainOf 26 = .ok (.iload_n 3, 1) := by decide +kernel
theorem dX6_trainOf_27 : decode cX6_trainOf 27 = .ok (.iconst 1, 1) := by decide +kernel
theorem dX6_trainOf_28 : decode cX6_trainOf 28 = .ok (.if_icmp .ne 10, 3) := by decide +kernel
theorem dX6_trainOf_31 : decode cX6_trainOf 31 = .ok (.aload_n 0, 1) := by decide +kernel
theorem dX6_trainOf_32 : decode cX6_trainOf 32 = .ok (.getfield 201, 3) := by decide +kernel
theorem dX6_trainOf_35 : decode cX6_trainOf 35 = .ok (.goto 43, 3) := by decide +kernel
theorem dX6_trainOf_38 : decode cX6_trainOf 38 = .ok (.iload_n 3, 1) := by decide +kernel
theorem dX6_trainOf_39 : decode cX6_trainOf 39 = .ok (.iconst 2, 1) := by decide +kernel
theorem dX6_trainOf_40 : decode cX6_trainOf 40 = .ok (.if_icmp .ne 24, 3) := by decide +kernel
theorem dX6_trainOf_43 : decode cX6_trainOf 43 = .ok (.aload_n 0, 1) := by decide +kernel
theorem dX6_trainOf_44 : decode cX6_trainOf 44 = .ok (.getfield 195, 3) := by decide +kernel
theorem dX6_trainOf_47 : decode cX6_trainOf 47 = .ok (.iconst 1, 1) := by decide +kernel
theorem dX6_trainOf_48 : decode cX6_trainOf 48 = .ok (.if_icmp .le 12, 3) := by decide +kernel
theorem dX6_trainOf_51 : decode cX6_trainOf 51 = .ok (.aload_n 0, 1) := by decide +kernel
theorem dX6_trainOf_52 : decode cX6_trainOf 52 = .ok (.getfield 39, 3) := by decide +kernel
theorem dX6_trainOf_55 : decode cX6_trainOf 55 = .ok (.iconst 1, 1) := by decide +kernel
theorem dX6_trainOf_56 : decode cX6_trainOf 56 = .ok (.iaload, 1) := by decide +kernel
theorem dX6_trainOf_57 : decode cX6_trainOf 57 = .ok (.goto 21, 3) := by decide +kernel
theorem dX6_trainOf_60 : decode cX6_trainOf 60 = .ok (.iconst (-1), 1) := by decide +kernel
theorem dX6_trainOf_61 : decode cX6_trainOf 61 = .ok (.goto 17, 3) := by decide +kernel
theorem dX6_trainOf_64 : decode cX6_trainOf 64 = .ok (.aload_n 0, 1) := by decide +kernel
theorem dX6_trainOf_65 : decode cX6_trainOf 65 = .ok (.getfield 82, 3) := by decide +kernel
theorem dX6_trainOf_68 : decode cX6_trainOf 68 = .ok (.lconst 0, 1) := by decide +kernel
theorem dX6_trainOf_69 : decode cX6_trainOf 69 = .ok (.lcmp, 1) := by decide +kernel
theorem dX6_trainOf_70 : decode cX6_trainOf 70 = .ok (.ifCond .ge 7, 3) := by decide +kernel
theorem dX6_trainOf_73 : decode cX6_trainOf 73 = .ok (.iconst 1, 1) := by decide +kernel
theorem dX6_trainOf_74 : decode cX6_trainOf 74 = .ok (.goto 4, 3) := by decide +kernel
theorem dX6_trainOf_77 : decode cX6_trainOf 77 = .ok (.iconst 0, 1) := by decide +kernel
theorem dX6_trainOf_78 : decode cX6_trainOf 78 = .ok (.ireturn, 1) := by decide +kernel
theorem dX6_train_0 : decode cX6_train 0 = .ok (.aload_n 0, 1) := by decide +kernel
theorem dX6_train_1 : decode cX6_train 1 = .ok (.aload_n 0, 1) := by decide +kernel
theorem dX6_train_2 : decode cX6_train 2 = .ok (.iload_n 1, 1) := by decide +kernel
theorem dX6_train_3 : decode cX6_train 3 = .ok (.invokevirtual 121, 3) := by decide +kernel
theorem dX6_train_6 : decode cX6_train 6 = .ok (.ifCond .eq 11, 3) := by decide +kernel
theorem dX6_train_9 : decode cX6_train 9 = .ok (.aload_n 0, 1) := by decide +kernel
theorem dX6_train_10 : decode cX6_train 10 = .ok (.iload_n 2, 1) := by decide +kernel
theorem dX6_train_11 : decode cX6_train 11 = .ok (.invokevirtual 121, 3) := by decide +kernel
theorem dX6_train_14 : decode cX6_train 14 = .ok (.ifCond .ne 7, 3) := by decide +kernel
theorem dX6_train_17 : decode cX6_train 17 = .ok (.iconst 1, 1) := by decide +kernel
theorem dX6_train_18 : decode cX6_train 18 = .ok (.goto 17, 3) := by decide +kernel
theorem dX6_train_21 : decode cX6_train 21 = .ok (.iload_n 3, 1) := by decide +kernel
theorem dX6_train_22 : decode cX6_train 22 = .ok (.iconst 0, 1) := by decide +kernel
theorem dX6_train_23 : decode cX6_train 23 = .ok (.iconst 3, 1) := by decide +kernel
theorem dX6_train_24 : decode cX6_train 24 = .ok (.invokestatic 46, 3) := by decide +kernel
theorem dX6_train_27 : decode cX6_train 27 = .ok (.ifCond .ne 7, 3) := by decide +kernel
theorem dX6_train_30 : decode cX6_train 30 = .ok (.iconst 2, 1) := by decide +kernel
theorem dX6_train_31 : decode cX6_train 31 = .ok (.goto 4, 3) := by decide +kernel
theorem dX6_train_34 : decode cX6_train 34 = .ok (.iconst 0, 1) := by decide +kernel
theorem dX6_train_35 : decode cX6_train 35 = .ok (.invokevirtual 111, 3) := by decide +kernel
theorem dX6_train_38 : decode cX6_train 38 = .ok (.ifCond .eq 13, 3) := by decide +kernel
theorem dX6_train_41 : decode cX6_train 41 = .ok (.aload_n 0, 1) := by decide +kernel
theorem dX6_train_42 : decode cX6_train 42 = .ok (.iload_n 1, 1) := by decide +kernel
theorem dX6_train_43 : decode cX6_train 43 = .ok (.iload_n 2, 1) := by decide +kernel
theorem dX6_train_44 : decode cX6_train 44 = .ok (.iload_n 3, 1) := by decide +kernel
theorem dX6_train_45 : decode cX6_train 45 = .ok (.invokevirtual 208, 3) := by decide +kernel
theorem dX6_train_48 : decode cX6_train 48 = .ok (.goto 4, 3) := by decide +kernel
theorem dX6_train_51 : decode cX6_train 51 = .ok (.iconst 0, 1) := by decide +kernel
theorem dX6_train_52 : decode cX6_train 52 = .ok (.ireturn, 1) := by decide +kernel
theorem dX6_ratioOf_0 : decode cX6_ratioOf 0 = .ok (.aload_n 0, 1) := by decide +kernel
theorem dX6_ratioOf_1 : decode cX6_ratioOf 1 = .ok (.iload_n 1, 1) := by decide +kernel
theorem dX6_ratioOf_2 : decode cX6_ratioOf 2 = .ok (.iload_n 2, 1) := by decide +kernel
theorem dX6_ratioOf_3 : decode cX6_ratioOf 3 = .ok (.invokevirtual 204, 3) := by decide +kernel
theorem dX6_ratioOf_6 : decode cX6_ratioOf 6 = .ok (.iload_n 3, 1) := by decide +kernel
theorem dX6_ratioOf_7 : decode cX6_ratioOf 7 = .ok (.ifCond .ne 10, 3) := by decide +kernel
theorem dX6_ratioOf_10 : decode cX6_ratioOf 10 = .ok (.aload_n 0, 1) := by decide +kernel
theorem dX6_ratioOf_11 : decode cX6_ratioOf 11 = .ok (.getfield 82, 3) := by decide +kernel
theorem dX6_ratioOf_14 : decode cX6_ratioOf 14 = .ok (.goto 7, 3) := by decide +kernel
theorem dX6_ratioOf_17 : decode cX6_ratioOf 17 = .ok (.aload_n 0, 1) := by decide +kernel
theorem dX6_ratioOf_18 : decode cX6_ratioOf 18 = .ok (.getfield 86, 3) := by decide +kernel
theorem dX6_ratioOf_21 : decode cX6_ratioOf 21 = .ok (.lreturn, 1) := by decide +kernel
theorem dX6_ratio_0 : decode cX6_ratio 0 = .ok (.aload_n 0, 1) := by decide +kernel
theorem dX6_ratio_1 : decode cX6_ratio 1 = .ok (.aload_n 0, 1) := by decide +kernel
theorem dX6_ratio_2 : decode cX6_ratio 2 = .ok (.iload_n 1, 1) := by decide +kernel
theorem dX6_ratio_3 : decode cX6_ratio 3 = .ok (.invokevirtual 121, 3) := by decide +kernel
theorem dX6_ratio_6 : decode cX6_ratio 6 = .ok (.ifCond .eq 11, 3) := by decide +kernel
theorem dX6_ratio_9 : decode cX6_ratio 9 = .ok (.aload_n 0, 1) := by decide +kernel
theorem dX6_ratio_10 : decode cX6_ratio 10 = .ok (.iload_n 2, 1) := by decide +kernel
theorem dX6_ratio_11 : decode cX6_ratio 11 = .ok (.invokevirtual 121, 3) := by decide +kernel
theorem dX6_ratio_14 : decode cX6_ratio 14 = .ok (.ifCond .ne 7, 3) := by decide +kernel
theorem dX6_ratio_17 : decode cX6_ratio 17 = .ok (.iconst 1, 1) := by decide +kernel
theorem dX6_ratio_18 : decode cX6_ratio 18 = .ok (.goto 17, 3) := by decide +kernel
theorem dX6_ratio_21 : decode cX6_ratio 21 = .ok (.iload_n 3, 1) := by decide +kernel
theorem dX6_ratio_22 : decode cX6_ratio 22 = .ok (.iconst 0, 1) := by decide +kernel
theorem dX6_ratio_23 : decode cX6_ratio 23 = .ok (.iconst 1, 1) := by decide +kernel
theorem dX6_ratio_24 : decode cX6_ratio 24 = .ok (.invokestatic 46, 3) := by decide +kernel
theorem dX6_ratio_27 : decode cX6_ratio 27 = .ok (.ifCond .ne 7, 3) := by decide +kernel
theorem dX6_ratio_30 : decode cX6_ratio 30 = .ok (.iconst 2, 1) := by decide +kernel
theorem dX6_ratio_31 : decode cX6_ratio 31 = .ok (.goto 4, 3) := by decide +kernel
theorem dX6_ratio_34 : decode cX6_ratio 34 = .ok (.iconst 0, 1) := by decide +kernel
theorem dX6_ratio_35 : decode cX6_ratio 35 = .ok (.invokevirtual 111, 3) := by decide +kernel
theorem dX6_ratio_38 : decode cX6_ratio 38 = .ok (.ifCond .eq 13, 3) := by decide +kernel
theorem dX6_ratio_41 : decode cX6_ratio 41 = .ok (.aload_n 0, 1) := by decide +kernel
theorem dX6_ratio_42 : decode cX6_ratio 42 = .ok (.iload_n 1, 1) := by decide +kernel
theorem dX6_ratio_43 : decode cX6_ratio 43 = .ok (.iload_n 2, 1) := by decide +kernel
theorem dX6_ratio_44 : decode cX6_ratio 44 = .ok (.iload_n 3, 1) := by decide +kernel
theorem dX6_ratio_45 : decode cX6_ratio 45 = .ok (.invokevirtual 211, 3) := by decide +kernel
theorem dX6_ratio_48 : decode cX6_ratio 48 = .ok (.goto 4, 3) := by decide +kernel
theorem dX6_ratio_51 : decode cX6_ratio 51 = .ok (.lconst 0, 1) := by decide +kernel
theorem dX6_ratio_52 : decode cX6_ratio 52 = .ok (.lreturn, 1) := by decide +kernel
theorem dX6_backBehind_0 : decode cX6_backBehind 0 = .ok (.aload_n 0, 1) := by decide +kernel
theorem dX6_backBehind_1 : decode cX6_backBehind 1 = .ok (.getfield 7, 3) := by decide +kernel
theorem dX6_backBehind_4 : decode cX6_backBehind 4 = .ok (.bipush 55, 2) := by decide +kernel
theorem dX6_backBehind_6 : decode cX6_backBehind 6 = .ok (.iaload, 1) := by decide +kernel
theorem dX6_backBehind_7 : decode cX6_backBehind 7 = .ok (.iconst (-1), 1) := by decide +kernel
theorem dX6_backBehind_8 : decode cX6_backBehind 8 = .ok (.if_icmp .eq 10, 3) := by decide +kernel
theorem dX6_backBehind_11 : decode cX6_backBehind 11 = .ok (.aload_n 0, 1) := by decide +kernel
theorem dX6_backBehind_12 : decode cX6_backBehind 12 = .ok (.getfield 89, 3) := by decide +kernel
theorem dX6_backBehind_15 : decode cX6_backBehind 15 = .ok (.ifCond .eq 5, 3) := by decide +kernel
theorem dX6_backBehind_18 : decode cX6_backBehind 18 = .ok (.lconst 0, 1) := by decide +kernel
theorem dX6_backBehind_19 : decode cX6_backBehind 19 = .ok (.lreturn, 1) := by decide +kernel
theorem dX6_backBehind_20 : decode cX6_backBehind 20 = .ok (.lconst 1, 1) := by decide +kernel
theorem dX6_backBehind_21 : decode cX6_backBehind 21 = .ok (.lstore_n 1, 1) := by decide +kernel
theorem dX6_backBehind_22 : decode cX6_backBehind 22 = .ok (.iconst 0, 1) := by decide +kernel
theorem dX6_backBehind_23 : decode cX6_backBehind 23 = .ok (.istore_n 3, 1) := by decide +kernel
theorem dX6_backBehind_24 : decode cX6_backBehind 24 = .ok (.iload_n 3, 1) := by decide +kernel
theorem dX6_backBehind_25 : decode cX6_backBehind 25 = .ok (.aload_n 0, 1) := by decide +kernel
theorem dX6_backBehind_26 : decode cX6_backBehind 26 = .ok (.getfield 7, 3) := by decide +kernel
theorem dX6_backBehind_29 : decode cX6_backBehind 29 = .ok (.iconst 0, 1) := by decide +kernel
theorem dX6_backBehind_30 : decode cX6_backBehind 30 = .ok (.iaload, 1) := by decide +kernel
theorem dX6_backBehind_31 : decode cX6_backBehind 31 = .ok (.if_icmp .ge 29, 3) := by decide +kernel
theorem dX6_backBehind_34 : decode cX6_backBehind 34 = .ok (.lload_n 1, 1) := by decide +kernel
theorem dX6_backBehind_35 : decode cX6_backBehind 35 = .ok (.lload_n 1, 1) := by decide +kernel
theorem dX6_backBehind_36 : decode cX6_backBehind 36 = .ok (.aload_n 0, 1) := by decide +kernel
theorem dX6_backBehind_37 : decode cX6_backBehind 37 = .ok (.getfield 26, 3) := by decide +kernel
theorem dX6_backBehind_40 : decode cX6_backBehind 40 = .ok (.iload_n 3, 1) := by decide +kernel
theorem dX6_backBehind_41 : decode cX6_backBehind 41 = .ok (.laload, 1) := by decide +kernel
theorem dX6_backBehind_42 : decode cX6_backBehind 42 = .ok (.invokestatic 78, 3) := by decide +kernel
theorem dX6_backBehind_45 : decode cX6_backBehind 45 = .ok (.ldiv, 1) := by decide +kernel
theorem dX6_backBehind_46 : decode cX6_backBehind 46 = .ok (.aload_n 0, 1) := by decide +kernel
theorem dX6_backBehind_47 : decode cX6_backBehind 47 = .ok (.getfield 26, 3) := by decide +kernel
theorem dX6_backBehind_50 : decode cX6_backBehind 50 = .ok (.iload_n 3, 1) := by decide +kernel
theorem dX6_backBehind_51 : decode cX6_backBehind 51 = .ok (.laload, 1) := by decide +kernel
theorem dX6_backBehind_52 : decode cX6_backBehind 52 = .ok (.lmul, 1) := by decide +kernel
theorem dX6_backBehind_53 : decode cX6_backBehind 53 = .ok (.lstore_n 1, 1) := by decide +kernel
theorem dX6_backBehind_54 : decode cX6_backBehind 54 = .ok (.iinc 3 1, 3) := by decide +kernel
theorem dX6_backBehind_57 : decode cX6_backBehind 57 = .ok (.goto (-33), 3) := by decide +kernel
theorem dX6_backBehind_60 : decode cX6_backBehind 60 = .ok (.lload_n 1, 1) := by decide +kernel
theorem dX6_backBehind_61 : decode cX6_backBehind 61 = .ok (.lreturn, 1) := by decide +kernel
theorem dX6_marks_0 : decode cX6_marks 0 = .ok (.aload_n 0, 1) := by decide +kernel
theorem dX6_marks_1 : decode cX6_marks 1 = .ok (.iconst 0, 1) := by decide +kernel
theorem dX6_marks_2 : decode cX6_marks 2 = .ok (.putfield 42, 3) := by decide +kernel
theorem dX6_marks_5 : decode cX6_marks 5 = .ok (.aload_n 0, 1) := by decide +kernel
theorem dX6_marks_6 : decode cX6_marks 6 = .ok (.invokevirtual 156, 3) := by decide +kernel
theorem dX6_marks_9 : decode cX6_marks 9 = .ok (.aload_n 0, 1) := by decide +kernel
theorem dX6_marks_10 : decode cX6_marks 10 = .ok (.invokevirtual 215, 3) := by decide +kernel
theorem dX6_marks_13 : decode cX6_marks 13 = .ok (.lreturn, 1) := by decide +kernel
theorem dX6_sum_0 : decode cX6_sum 0 = .ok (.iconst 0, 1) := by decide +kernel
theorem dX6_sum_1 : decode cX6_sum 1 = .ok (.istore_n 2, 1) := by decide +kernel
theorem dX6_sum_2 : decode cX6_sum 2 = .ok (.iconst 0, 1) := by decide +kernel
theorem dX6_sum_3 : decode cX6_sum 3 = .ok (.istore_n 3, 1) := by decide +kernel
theorem dX6_sum_4 : decode cX6_sum 4 = .ok (.iload_n 3, 1) := by decide +kernel
theorem dX6_sum_5 : decode cX6_sum 5 = .ok (.aload_n 0, 1) := by decide +kernel
theorem dX6_sum_6 : decode cX6_sum 6 = .ok (.getfield 7, 3) := by decide +kernel
theorem dX6_sum_9 : decode cX6_sum 9 = .ok (.iconst 0, 1) := by decide +kernel
theorem dX6_sum_10 : decode cX6_sum 10 = .ok (.iaload, 1) := by decide +kernel
theorem dX6_sum_11 : decode cX6_sum 11 = .ok (.if_icmp .ge 134, 3) := by decide +kernel
theorem dX6_sum_14 : decode cX6_sum 14 = .ok (.iconst 0, 1) := by decide +kernel
theorem dX6_sum_15 : decode cX6_sum 15 = .ok (.istore 4, 2) := by decide +kernel
theorem dX6_sum_17 : decode cX6_sum 17 = .ok (.iload 4, 2) := by decide +kernel
theorem dX6_sum_19 : decode cX6_sum 19 = .ok (.iconst 2, 1) := by decide +kernel
theorem dX6_sum_20 : decode cX6_sum 20 = .ok (.if_icmp .ge 33, 3) := by decide +kernel
theorem dX6_sum_23 : decode cX6_sum 23 = .ok (.iload_n 2, 1) := by decide +kernel
theorem dX6_sum_24 : decode cX6_sum 24 = .ok (.iload_n 1, 1) := by decide +kernel
theorem dX6_sum_25 : decode cX6_sum 25 = .ok (.iconst 3, 1) := by decide +kernel
theorem dX6_sum_26 : decode cX6_sum 26 = .ok (.if_icmp .ge 18, 3) := by decide +kernel
theorem dX6_sum_29 : decode cX6_sum 29 = .ok (.aload_n 0, 1) := by decide +kernel
theorem dX6_sum_30 : decode cX6_sum 30 = .ok (.iload_n 3, 1) := by decide +kernel
theorem dX6_sum_31 : decode cX6_sum 31 = .ok (.iload 4, 2) := by decide +kernel
theorem dX6_sum_33 : decode cX6_sum 33 = .ok (.invokevirtual 53, 3) := by decide +kernel
theorem dX6_sum_36 : decode cX6_sum 36 = .ok (.iload_n 1, 1) := by decide +kernel
theorem dX6_sum_37 : decode cX6_sum 37 = .ok (.if_icmp .ne 7, 3) := by decide +kernel
theorem dX6_sum_40 : decode cX6_sum 40 = .ok (.iconst 1, 1) := by decide +kernel
theorem dX6_sum_41 : decode cX6_sum 41 = .ok (.goto 4, 3) := by decide +kernel
theorem dX6_sum_44 : decode cX6_sum 44 = .ok (.iconst 0, 1) := by decide +kernel
theorem dX6_sum_45 : decode cX6_sum 45 = .ok (.iadd, 1) := by decide +kernel
theorem dX6_sum_46 : decode cX6_sum 46 = .ok (.istore_n 2, 1) := by decide +kernel
theorem dX6_sum_47 : decode cX6_sum 47 = .ok (.iinc 4 1, 3) := by decide +kernel
theorem dX6_sum_50 : decode cX6_sum 50 = .ok (.goto (-33), 3) := by decide +kernel
theorem dX6_sum_53 : decode cX6_sum 53 = .ok (.iconst 0, 1) := by decide +kernel
theorem dX6_sum_54 : decode cX6_sum 54 = .ok (.istore 4, 2) := by decide +kernel
theorem dX6_sum_56 : decode cX6_sum 56 = .ok (.iload 4, 2) := by decide +kernel
theorem dX6_sum_58 : decode cX6_sum 58 = .ok (.iload_n 3, 1) := by decide +kernel
theorem dX6_sum_59 : decode cX6_sum 59 = .ok (.if_icmp .ge 80, 3) := by decide +kernel
theorem dX6_sum_62 : decode cX6_sum 62 = .ok (.iload_n 2, 1) := by decide +kernel
theorem dX6_sum_63 : decode cX6_sum 63 = .ok (.iload_n 1, 1) := by decide +kernel
theorem dX6_sum_64 : decode cX6_sum 64 = .ok (.iconst 3, 1) := by decide +kernel
theorem dX6_sum_65 : decode cX6_sum 65 = .ok (.if_icmp .ne 17, 3) := by decide +kernel
theorem dX6_sum_68 : decode cX6_sum 68 = .ok (.aload_n 0, 1) := by decide +kernel
theorem dX6_sum_69 : decode cX6_sum 69 = .ok (.iload_n 3, 1) := by decide +kernel
theorem dX6_sum_70 : decode cX6_sum 70 = .ok (.iload 4, 2) := by decide +kernel
theorem dX6_sum_72 : decode cX6_sum 72 = .ok (.invokevirtual 73, 3) := by decide +kernel
theorem dX6_sum_75 : decode cX6_sum 75 = .ok (.ifCond .le 7, 3) := by decide +kernel
theorem dX6_sum_78 : decode cX6_sum 78 = .ok (.iconst 1, 1) := by decide +kernel
theorem dX6_sum_79 : decode cX6_sum 79 = .ok (.goto 4, 3) := by decide +kernel
theorem dX6_sum_82 : decode cX6_sum 82 = .ok (.iconst 0, 1) := by decide +kernel
theorem dX6_sum_83 : decode cX6_sum 83 = .ok (.iadd, 1) := by decide +kernel
theorem dX6_sum_84 : decode cX6_sum 84 = .ok (.istore_n 2, 1) := by decide +kernel
theorem dX6_sum_85 : decode cX6_sum 85 = .ok (.iload_n 2, 1) := by decide +kernel
theorem dX6_sum_86 : decode cX6_sum 86 = .ok (.iload_n 1, 1) := by decide +kernel
theorem dX6_sum_87 : decode cX6_sum 87 = .ok (.bipush 9, 2) := by decide +kernel
theorem dX6_sum_89 : decode cX6_sum 89 = .ok (.if_icmp .ne 41, 3) := by decide +kernel
theorem dX6_sum_92 : decode cX6_sum 92 = .ok (.aload_n 0, 1) := by decide +kernel
theorem dX6_sum_93 : decode cX6_sum 93 = .ok (.iload_n 3, 1) := by decide +kernel
theorem dX6_sum_94 : decode cX6_sum 94 = .ok (.iload 4, 2) := by decide +kernel
theorem dX6_sum_96 : decode cX6_sum 96 = .ok (.iconst 0, 1) := by decide +kernel
theorem dX6_sum_97 : decode cX6_sum 97 = .ok (.iconst 0, 1) := by decide +kernel
theorem dX6_sum_98 : decode cX6_sum 98 = .ok (.invokevirtual 66, 3) := by decide +kernel
theorem dX6_sum_101 : decode cX6_sum 101 = .ok (.ifCond .eq 7, 3) := by decide +kernel
theorem dX6_sum_104 : decode cX6_sum 104 = .ok (.iconst 1, 1) := by decide +kernel
theorem dX6_sum_105 : decode cX6_sum 105 = .ok (.goto 4, 3) := by decide +kernel
theorem dX6_sum_108 : decode cX6_sum 108 = .ok (.iconst 0, 1) := by decide +kernel
theorem dX6_sum_109 : decode cX6_sum 109 = .ok (.aload_n 0, 1) := by decide +kernel
theorem dX6_sum_110 : decode cX6_sum 110 = .ok (.iload_n 3, 1) := by decide +kernel
theorem dX6_sum_111 : decode cX6_sum 111 = .ok (.iload 4, 2) := by decide +kernel
theorem dX6_sum_113 : decode cX6_sum 113 = .ok (.iconst 1, 1) := by decide +kernel
theorem dX6_sum_114 : decode cX6_sum 114 = .ok (.iconst 0, 1) := by decide +kernel
theorem dX6_sum_115 : decode cX6_sum 115 = .ok (.invokevirtual 66, 3) := by decide +kernel
theorem dX6_sum_118 : decode cX6_sum 118 = .ok (.ifCond .eq 7, 3) := by decide +kernel
theorem dX6_sum_121 : decode cX6_sum 121 = .ok (.iconst 1, 1) := by decide +kernel
theorem dX6_sum_122 : decode cX6_sum 122 = .ok (.goto 4, 3) := by decide +kernel
theorem dX6_sum_125 : decode cX6_sum 125 = .ok (.iconst 0, 1) := by decide +kernel
theorem dX6_sum_126 : decode cX6_sum 126 = .ok (.iadd, 1) := by decide +kernel
theorem dX6_sum_127 : decode cX6_sum 127 = .ok (.goto 4, 3) := by decide +kernel
theorem dX6_sum_130 : decode cX6_sum 130 = .ok (.iconst 0, 1) := by decide +kernel
theorem dX6_sum_131 : decode cX6_sum 131 = .ok (.iadd, 1) := by decide +kernel
theorem dX6_sum_132 : decode cX6_sum 132 = .ok (.istore_n 2, 1) := by decide +kernel
theorem dX6_sum_133 : decode cX6_sum 133 = .ok (.iinc 4 1, 3) := by decide +kernel
theorem dX6_sum_136 : decode cX6_sum 136 = .ok (.goto (-80), 3) := by decide +kernel
theorem dX6_sum_139 : decode cX6_sum 139 = .ok (.iinc 3 1, 3) := by decide +kernel
theorem dX6_sum_142 : decode cX6_sum 142 = .ok (.goto (-138), 3) := by decide +kernel
theorem dX6_sum_145 : decode cX6_sum 145 = .ok (.iload_n 2, 1) := by decide +kernel
theorem dX6_sum_146 : decode cX6_sum 146 = .ok (.ireturn, 1) := by decide +kernel
theorem dX6_counted_0 : decode cX6_counted 0 = .ok (.iload_n 1, 1) := by decide +kernel
theorem dX6_counted_1 : decode cX6_counted 1 = .ok (.tableswitch 115 0 9 #[55, 62, 62, 62, 68, 76, 81, 94, 102, 62], 55) := by decide +kernel
theorem dX6_counted_56 : decode cX6_counted 56 = .ok (.aload_n 0, 1) := by decide +kernel
theorem dX6_counted_57 : decode cX6_counted 57 = .ok (.getfield 7, 3) := by decide +kernel
theorem dX6_counted_60 : decode cX6_counted 60 = .ok (.iconst 0, 1) := by decide +kernel
theorem dX6_counted_61 : decode cX6_counted 61 = .ok (.iaload, 1) := by decide +kernel
theorem dX6_counted_62 : decode cX6_counted 62 = .ok (.ireturn, 1) := by decide +kernel
theorem dX6_counted_63 : decode cX6_counted 63 = .ok (.aload_n 0, 1) := by decide +kernel
theorem dX6_counted_64 : decode cX6_counted 64 = .ok (.iload_n 1, 1) := by decide +kernel
theorem dX6_counted_65 : decode cX6_counted 65 = .ok (.invokevirtual 219, 3) := by decide +kernel
theorem dX6_counted_68 : decode cX6_counted 68 = .ok (.ireturn, 1) := by decide +kernel
theorem dX6_counted_69 : decode cX6_counted 69 = .ok (.aload_n 0, 1) := by decide +kernel
theorem dX6_counted_70 : decode cX6_counted 70 = .ok (.getfield 7, 3) := by decide +kernel
theorem dX6_counted_73 : decode cX6_counted 73 = .ok (.bipush 55, 2) := by decide +kernel
theorem dX6_counted_75 : decode cX6_counted 75 = .ok (.iaload, 1) := by decide +kernel
theorem dX6_counted_76 : decode cX6_counted 76 = .ok (.ireturn, 1) := by decide +kernel
theorem dX6_counted_77 : decode cX6_counted 77 = .ok (.aload_n 0, 1) := by decide +kernel
theorem dX6_counted_78 : decode cX6_counted 78 = .ok (.invokevirtual 222, 3) := by decide +kernel
theorem dX6_counted_81 : decode cX6_counted 81 = .ok (.ireturn, 1) := by decide +kernel
theorem dX6_counted_82 : decode cX6_counted 82 = .ok (.aload_n 0, 1) := by decide +kernel
theorem dX6_counted_83 : decode cX6_counted 83 = .ok (.getfield 89, 3) := by decide +kernel
theorem dX6_counted_86 : decode cX6_counted 86 = .ok (.ifCond .eq 7, 3) := by decide +kernel
theorem dX6_counted_89 : decode cX6_counted 89 = .ok (.iconst 1, 1) := by decide +kernel
theorem dX6_counted_90 : decode cX6_counted 90 = .ok (.goto 4, 3) := by decide +kernel
theorem dX6_counted_93 : decode cX6_counted 93 = .ok (.iconst 0, 1) := by decide +kernel
theorem dX6_counted_94 : decode cX6_counted 94 = .ok (.ireturn, 1) := by decide +kernel
theorem dX6_counted_95 : decode cX6_counted 95 = .ok (.aload_n 0, 1) := by decide +kernel
theorem dX6_counted_96 : decode cX6_counted 96 = .ok (.getfield 7, 3) := by decide +kernel
theorem dX6_counted_99 : decode cX6_counted 99 = .ok (.bipush 56, 2) := by decide +kernel
theorem dX6_counted_101 : decode cX6_counted 101 = .ok (.iaload, 1) := by decide +kernel
theorem dX6_counted_102 : decode cX6_counted 102 = .ok (.ireturn, 1) := by decide +kernel
theorem dX6_counted_103 : decode cX6_counted 103 = .ok (.aload_n 0, 1) := by decide +kernel
theorem dX6_counted_104 : decode cX6_counted 104 = .ok (.invokevirtual 159, 3) := by decide +kernel
theorem dX6_counted_107 : decode cX6_counted 107 = .ok (.ifCond .eq 7, 3) := by decide +kernel
theorem dX6_counted_110 : decode cX6_counted 110 = .ok (.iconst 1, 1) := by decide +kernel
theorem dX6_counted_111 : decode cX6_counted 111 = .ok (.goto 4, 3) := by decide +kernel
theorem dX6_counted_114 : decode cX6_counted 114 = .ok (.iconst 0, 1) := by decide +kernel
theorem dX6_counted_115 : decode cX6_counted 115 = .ok (.ireturn, 1) := by decide +kernel
theorem dX6_counted_116 : decode cX6_counted 116 = .ok (.aload_n 0, 1) := by decide +kernel
theorem dX6_counted_117 : decode cX6_counted 117 = .ok (.getfield 50, 3) := by decide +kernel
theorem dX6_counted_120 : decode cX6_counted 120 = .ok (.ireturn, 1) := by decide +kernel
theorem dX6_count_0 : decode cX6_count 0 = .ok (.aload_n 0, 1) := by decide +kernel
theorem dX6_count_1 : decode cX6_count 1 = .ok (.invokevirtual 156, 3) := by decide +kernel
theorem dX6_count_4 : decode cX6_count 4 = .ok (.aload_n 0, 1) := by decide +kernel
theorem dX6_count_5 : decode cX6_count 5 = .ok (.iload_n 1, 1) := by decide +kernel
theorem dX6_count_6 : decode cX6_count 6 = .ok (.iconst 0, 1) := by decide +kernel
theorem dX6_count_7 : decode cX6_count 7 = .ok (.bipush 10, 2) := by decide +kernel
theorem dX6_count_9 : decode cX6_count 9 = .ok (.invokestatic 46, 3) := by decide +kernel
theorem dX6_count_12 : decode cX6_count 12 = .ok (.ifCond .eq 7, 3) := by decide +kernel
theorem dX6_count_15 : decode cX6_count 15 = .ok (.iconst 0, 1) := by decide +kernel
theorem dX6_count_16 : decode cX6_count 16 = .ok (.goto 4, 3) := by decide +kernel
theorem dX6_count_19 : decode cX6_count 19 = .ok (.iconst 1, 1) := by decide +kernel
theorem dX6_count_20 : decode cX6_count 20 = .ok (.invokevirtual 111, 3) := by decide +kernel
theorem dX6_count_23 : decode cX6_count 23 = .ok (.ifCond .eq 11, 3) := by decide +kernel
theorem dX6_count_26 : decode cX6_count 26 = .ok (.aload_n 0, 1) := by decide +kernel
theorem dX6_count_27 : decode cX6_count 27 = .ok (.iload_n 1, 1) := by decide +kernel
theorem dX6_count_28 : decode cX6_count 28 = .ok (.invokevirtual 225, 3) := by decide +kernel
theorem dX6_count_31 : decode cX6_count 31 = .ok (.goto 4, 3) := by decide +kernel
theorem dX6_count_34 : decode cX6_count 34 = .ok (.iconst 0, 1) := by decide +kernel
theorem dX6_count_35 : decode cX6_count 35 = .ok (.ireturn, 1) := by decide +kernel
theorem dX6_wouldPut_0 : decode cX6_wouldPut 0 = .ok (.aload_n 0, 1) := by decide +kernel
theorem dX6_wouldPut_1 : decode cX6_wouldPut 1 = .ok (.invokevirtual 228, 3) := by decide +kernel
theorem dX6_wouldPut_4 : decode cX6_wouldPut 4 = .ok (.aload_n 0, 1) := by decide +kernel
theorem dX6_wouldPut_5 : decode cX6_wouldPut 5 = .ok (.iload_n 1, 1) := by decide +kernel
theorem dX6_wouldPut_6 : decode cX6_wouldPut 6 = .ok (.iload_n 2, 1) := by decide +kernel
theorem dX6_wouldPut_7 : decode cX6_wouldPut 7 = .ok (.iconst 1, 1) := by decide +kernel
theorem dX6_wouldPut_8 : decode cX6_wouldPut 8 = .ok (.iload_n 3, 1) := by decide +kernel
theorem dX6_wouldPut_9 : decode cX6_wouldPut 9 = .ok (.invokevirtual 104, 3) := by decide +kernel
theorem dX6_wouldPut_12 : decode cX6_wouldPut 12 = .ok (.aload_n 0, 1) := by decide +kernel
theorem dX6_wouldPut_13 : decode cX6_wouldPut 13 = .ok (.invokevirtual 156, 3) := by decide +kernel
theorem dX6_wouldPut_16 : decode cX6_wouldPut 16 = .ok (.aload_n 0, 1) := by decide +kernel
theorem dX6_wouldPut_17 : decode cX6_wouldPut 17 = .ok (.iload_n 1, 1) := by decide +kernel
theorem dX6_wouldPut_18 : decode cX6_wouldPut 18 = .ok (.iload_n 2, 1) := by decide +kernel
theorem dX6_wouldPut_19 : decode cX6_wouldPut 19 = .ok (.invokevirtual 124, 3) := by decide +kernel
theorem dX6_wouldPut_22 : decode cX6_wouldPut 22 = .ok (.istore 5, 2) := by decide +kernel
theorem dX6_wouldPut_24 : decode cX6_wouldPut 24 = .ok (.aload_n 0, 1) := by decide +kernel
theorem dX6_wouldPut_25 : decode cX6_wouldPut 25 = .ok (.invokevirtual 159, 3) := by decide +kernel
theorem dX6_wouldPut_28 : decode cX6_wouldPut 28 = .ok (.ifCond .eq 18, 3) := by decide +kernel
theorem dX6_wouldPut_31 : decode cX6_wouldPut 31 = .ok (.aload_n 0, 1) := by decide +kernel
theorem dX6_wouldPut_32 : decode cX6_wouldPut 32 = .ok (.getfield 7, 3) := by decide +kernel
theorem dX6_wouldPut_35 : decode cX6_wouldPut 35 = .ok (.bipush 55, 2) := by decide +kernel
theorem dX6_wouldPut_37 : decode cX6_wouldPut 37 = .ok (.iaload, 1) := by decide +kernel
theorem dX6_wouldPut_38 : decode cX6_wouldPut 38 = .ok (.iconst (-1), 1) := by decide +kernel
theorem dX6_wouldPut_39 : decode cX6_wouldPut 39 = .ok (.if_icmp .eq 7, 3) := by decide +kernel
theorem dX6_wouldPut_42 : decode cX6_wouldPut 42 = .ok (.iconst 1, 1) := by decide +kernel
theorem dX6_wouldPut_43 : decode cX6_wouldPut 43 = .ok (.goto 4, 3) := by decide +kernel
theorem dX6_wouldPut_46 : decode cX6_wouldPut 46 = .ok (.iconst 0, 1) := by decide +kernel
theorem dX6_wouldPut_47 : decode cX6_wouldPut 47 = .ok (.istore 6, 2) := by decide +kernel
theorem dX6_wouldPut_49 : decode cX6_wouldPut 49 = .ok (.iload 4, 2) := by decide +kernel
theorem dX6_wouldPut_51 : decode cX6_wouldPut 51 = .ok (.ifCond .ne 23, 3) := by decide +kernel
theorem dX6_wouldPut_54 : decode cX6_wouldPut 54 = .ok (.iload 5, 2) := by decide +kernel
theorem dX6_wouldPut_56 : decode cX6_wouldPut 56 = .ok (.ifCond .le 7, 3) := by decide +kernel
theorem dX6_wouldPut_59 : decode cX6_wouldPut 59 = .ok (.iconst (-1), 1) := by decide +kernel
theorem dX6_wouldPut_60 : decode cX6_wouldPut 60 = .ok (.goto 58, 3) := by decide +kernel
theorem dX6_wouldPut_63 : decode cX6_wouldPut 63 = .ok (.aload_n 0, 1) := by decide +kernel
theorem dX6_wouldPut_64 : decode cX6_wouldPut 64 = .ok (.iload_n 1, 1) := by decide +kernel
theorem dX6_wouldPut_65 : decode cX6_wouldPut 65 = .ok (.iconst 1, 1) := by decide +kernel
theorem dX6_wouldPut_66 : decode cX6_wouldPut 66 = .ok (.iload_n 2, 1) := by decide +kernel
theorem dX6_wouldPut_67 : decode cX6_wouldPut 67 = .ok (.ishl, 1) := by decide +kernel
theorem dX6_wouldPut_68 : decode cX6_wouldPut 68 = .ok (.invokevirtual 127, 3) := by decide +kernel
theorem dX6_wouldPut_71 : decode cX6_wouldPut 71 = .ok (.goto 47, 3) := by decide +kernel
theorem dX6_wouldPut_74 : decode cX6_wouldPut 74 = .ok (.iload 4, 2) := by decide +kernel
theorem dX6_wouldPut_76 : decode cX6_wouldPut 76 = .ok (.iconst 1, 1) := by decide +kernel
theorem dX6_wouldPut_77 : decode cX6_wouldPut 77 = .ok (.if_icmp .ne 18, 3) := by decide +kernel
theorem dX6_wouldPut_80 : decode cX6_wouldPut 80 = .ok (.aload_n 0, 1) := by decide +kernel
theorem dX6_wouldPut_81 : decode cX6_wouldPut 81 = .ok (.getfield 89, 3) := by decide +kernel
theorem dX6_wouldPut_84 : decode cX6_wouldPut 84 = .ok (.ifCond .eq 7, 3) := by decide +kernel
theorem dX6_wouldPut_87 : decode cX6_wouldPut 87 = .ok (.iconst 1, 1) := by decide +kernel
theorem dX6_wouldPut_88 : decode cX6_wouldPut 88 = .ok (.goto 30, 3) := by decide +kernel
theorem dX6_wouldPut_91 : decode cX6_wouldPut 91 = .ok (.iconst 0, 1) := by decide +kernel
theorem dX6_wouldPut_92 : decode cX6_wouldPut 92 = .ok (.goto 26, 3) := by decide +kernel
theorem dX6_wouldPut_95 : decode cX6_wouldPut 95 = .ok (.iload 4, 2) := by decide +kernel
theorem dX6_wouldPut_97 : decode cX6_wouldPut 97 = .ok (.iconst 2, 1) := by decide +kernel
theorem dX6_wouldPut_98 : decode cX6_wouldPut 98 = .ok (.if_icmp .ne 10, 3) := by decide +kernel
theorem dX6_wouldPut_101 : decode cX6_wouldPut 101 = .ok (.aload_n 0, 1) := by decide +kernel
theorem dX6_wouldPut_102 : decode cX6_wouldPut 102 = .ok (.invokevirtual 222, 3) := by decide +kernel
theorem dX6_wouldPut_105 : decode cX6_wouldPut 105 = .ok (.goto 13, 3) := by decide +kernel
theorem dX6_wouldPut_108 : decode cX6_wouldPut 108 = .ok (.iload 6, 2) := by decide +kernel
theorem dX6_wouldPut_110 : decode cX6_wouldPut 110 = .ok (.ifCond .eq 7, 3) := by decide +kernel
theorem dX6_wouldPut_113 : decode cX6_wouldPut 113 = .ok (.iconst 1, 1) := by decide +kernel
theorem dX6_wouldPut_114 : decode cX6_wouldPut 114 = .ok (.goto 4, 3) := by decide +kernel
theorem dX6_wouldPut_117 : decode cX6_wouldPut 117 = .ok (.iconst 0, 1) := by decide +kernel
theorem dX6_wouldPut_118 : decode cX6_wouldPut 118 = .ok (.istore 7, 2) := by decide +kernel
theorem dX6_wouldPut_120 : decode cX6_wouldPut 120 = .ok (.aload_n 0, 1) := by decide +kernel
theorem dX6_wouldPut_121 : decode cX6_wouldPut 121 = .ok (.invokevirtual 231, 3) := by decide +kernel
theorem dX6_wouldPut_124 : decode cX6_wouldPut 124 = .ok (.iload 7, 2) := by decide +kernel
theorem dX6_wouldPut_126 : decode cX6_wouldPut 126 = .ok (.ireturn, 1) := by decide +kernel
theorem dX6_ifPut_0 : decode cX6_ifPut 0 = .ok (.aload_n 0, 1) := by decide +kernel
theorem dX6_ifPut_1 : decode cX6_ifPut 1 = .ok (.iload_n 1, 1) := by decide +kernel
theorem dX6_ifPut_2 : decode cX6_ifPut 2 = .ok (.invokevirtual 121, 3) := by decide +kernel
theorem dX6_ifPut_5 : decode cX6_ifPut 5 = .ok (.ifCond .ne 7, 3) := by decide +kernel
theorem dX6_ifPut_8 : decode cX6_ifPut 8 = .ok (.iconst 1, 1) := by decide +kernel
theorem dX6_ifPut_9 : decode cX6_ifPut 9 = .ok (.goto 37, 3) := by decide +kernel
theorem dX6_ifPut_12 : decode cX6_ifPut 12 = .ok (.iload_n 2, 1) := by decide +kernel
theorem dX6_ifPut_13 : decode cX6_ifPut 13 = .ok (.iconst 0, 1) := by decide +kernel
theorem dX6_ifPut_14 : decode cX6_ifPut 14 = .ok (.iconst 1, 1) := by decide +kernel
theorem dX6_ifPut_15 : decode cX6_ifPut 15 = .ok (.invokestatic 46, 3) := by decide +kernel
theorem dX6_ifPut_18 : decode cX6_ifPut 18 = .ok (.ifCond .eq 23, 3) := by decide +kernel
theorem dX6_ifPut_21 : decode cX6_ifPut 21 = .ok (.iload_n 3, 1) := by decide +kernel
theorem dX6_ifPut_22 : decode cX6_ifPut 22 = .ok (.iconst 0, 1) := by decide +kernel
theorem dX6_ifPut_23 : decode cX6_ifPut 23 = .ok (.bipush 20, 2) := by decide +kernel
theorem dX6_ifPut_25 : decode cX6_ifPut 25 = .ok (.invokestatic 46, 3) := by decide +kernel
theorem dX6_ifPut_28 : decode cX6_ifPut 28 = .ok (.ifCond .eq 13, 3) := by decide +kernel
theorem dX6_ifPut_31 : decode cX6_ifPut 31 = .ok (.iload 4, 2) := by decide +kernel
theorem dX6_ifPut_33 : decode cX6_ifPut 33 = .ok (.iconst 0, 1) := by decide +kernel
theorem dX6_ifPut_34 : decode cX6_ifPut 34 = .ok (.iconst 3, 1) := by decide +kernel
theorem dX6_ifPut_35 : decode cX6_ifPut 35 = .ok (.invokestatic 46, 3) := by decide +kernel
theorem dX6_ifPut_38 : decode cX6_ifPut 38 = .ok (.ifCond .ne 7, 3) := by decide +kernel
theorem dX6_ifPut_41 : decode cX6_ifPut 41 = .ok (.iconst 2, 1) := by decide +kernel
theorem dX6_ifPut_42 : decode cX6_ifPut 42 = .ok (.goto 4, 3) := by decide +kernel
theorem dX6_ifPut_45 : decode cX6_ifPut 45 = .ok (.iconst 0, 1) := by decide +kernel
theorem dX6_ifPut_46 : decode cX6_ifPut 46 = .ok (.istore 5, 2) := by decide +kernel
theorem dX6_ifPut_48 : decode cX6_ifPut 48 = .ok (.aload_n 0, 1) := by decide +kernel
theorem dX6_ifPut_49 : decode cX6_ifPut 49 = .ok (.iload 5, 2) := by decide +kernel
theorem dX6_ifPut_51 : decode cX6_ifPut 51 = .ok (.invokevirtual 111, 3) := by decide +kernel
theorem dX6_ifPut_54 : decode cX6_ifPut 54 = .ok (.ifCond .eq 15, 3) := by decide +kernel
theorem dX6_ifPut_57 : decode cX6_ifPut 57 = .ok (.aload_n 0, 1) := by decide +kernel
theorem dX6_ifPut_58 : decode cX6_ifPut 58 = .ok (.iload_n 1, 1) := by decide +kernel
theorem dX6_ifPut_59 : decode cX6_ifPut 59 = .ok (.iload_n 2, 1) := by decide +kernel
theorem dX6_ifPut_60 : decode cX6_ifPut 60 = .ok (.iload_n 3, 1) := by decide +kernel
theorem dX6_ifPut_61 : decode cX6_ifPut 61 = .ok (.iload 4, 2) := by decide +kernel
theorem dX6_ifPut_63 : decode cX6_ifPut 63 = .ok (.invokevirtual 234, 3) := by decide +kernel
theorem dX6_ifPut_66 : decode cX6_ifPut 66 = .ok (.goto 4, 3) := by decide +kernel
theorem dX6_ifPut_69 : decode cX6_ifPut 69 = .ok (.iconst 0, 1) := by decide +kernel
theorem dX6_ifPut_70 : decode cX6_ifPut 70 = .ok (.ireturn, 1) := by decide +kernel
theorem dX6_solves_0 : decode cX6_solves 0 = .ok (.aload_n 0, 1) := by decide +kernel
theorem dX6_solves_1 : decode cX6_solves 1 = .ok (.invokevirtual 156, 3) := by decide +kernel
theorem dX6_solves_4 : decode cX6_solves 4 = .ok (.aload_n 0, 1) := by decide +kernel
theorem dX6_solves_5 : decode cX6_solves 5 = .ok (.getfield 7, 3) := by decide +kernel
theorem dX6_solves_8 : decode cX6_solves 8 = .ok (.bipush 56, 2) := by decide +kernel
theorem dX6_solves_10 : decode cX6_solves 10 = .ok (.iaload, 1) := by decide +kernel
theorem dX6_solves_11 : decode cX6_solves 11 = .ok (.iconst (-1), 1) := by decide +kernel
theorem dX6_solves_12 : decode cX6_solves 12 = .ok (.if_icmp .eq 10, 3) := by decide +kernel
theorem dX6_solves_15 : decode cX6_solves 15 = .ok (.aload_n 0, 1) := by decide +kernel
theorem dX6_solves_16 : decode cX6_solves 16 = .ok (.invokevirtual 159, 3) := by decide +kernel
theorem dX6_solves_19 : decode cX6_solves 19 = .ok (.ifCond .eq 5, 3) := by decide +kernel
theorem dX6_solves_22 : decode cX6_solves 22 = .ok (.iconst (-1), 1) := by decide +kernel
theorem dX6_solves_23 : decode cX6_solves 23 = .ok (.ireturn, 1) := by decide +kernel
theorem dX6_solves_24 : decode cX6_solves 24 = .ok (.iconst 0, 1) := by decide +kernel
theorem dX6_solves_25 : decode cX6_solves 25 = .ok (.istore_n 1, 1) := by decide +kernel
theorem dX6_solves_26 : decode cX6_solves 26 = .ok (.iload_n 1, 1) := by decide +kernel
theorem dX6_solves_27 : decode cX6_solves 27 = .ok (.bipush 42, 2) := by decide +kernel
theorem dX6_solves_29 : decode cX6_solves 29 = .ok (.aload_n 0, 1) := by decide +kernel
theorem dX6_solves_30 : decode cX6_solves 30 = .ok (.getfield 7, 3) := by decide +kernel
theorem dX6_solves_33 : decode cX6_solves 33 = .ok (.iconst 0, 1) := by decide +kernel
theorem dX6_solves_34 : decode cX6_solves 34 = .ok (.iaload, 1) := by decide +kernel
theorem dX6_solves_35 : decode cX6_solves 35 = .ok (.imul, 1) := by decide +kernel
theorem dX6_solves_36 : decode cX6_solves 36 = .ok (.if_icmp .ge 84, 3) := by decide +kernel
theorem dX6_solves_39 : decode cX6_solves 39 = .ok (.iload_n 1, 1) := by decide +kernel
theorem dX6_solves_40 : decode cX6_solves 40 = .ok (.bipush 42, 2) := by decide +kernel
theorem dX6_solves_42 : decode cX6_solves 42 = .ok (.idiv, 1) := by decide +kernel
theorem dX6_solves_43 : decode cX6_solves 43 = .ok (.istore_n 2, 1) := by decide +kernel
theorem dX6_solves_44 : decode cX6_solves 44 = .ok (.iload_n 1, 1) := by decide +kernel
theorem dX6_solves_45 : decode cX6_solves 45 = .ok (.bipush 21, 2) := by decide +kernel
theorem dX6_solves_47 : decode cX6_solves 47 = .ok (.idiv, 1) := by decide +kernel
theorem dX6_solves_48 : decode cX6_solves 48 = .ok (.iconst 2, 1) := by decide +kernel
theorem dX6_solves_49 : decode cX6_solves 49 = .ok (.irem, 1) := by decide +kernel
theorem dX6_solves_50 : decode cX6_solves 50 = .ok (.istore_n 3, 1) := by decide +kernel
theorem dX6_solves_51 : decode cX6_solves 51 = .ok (.iload_n 1, 1) := by decide +kernel
theorem dX6_solves_52 : decode cX6_solves 52 = .ok (.bipush 21, 2) := by decide +kernel
theorem dX6_solves_54 : decode cX6_solves 54 = .ok (.irem, 1) := by decide +kernel
theorem dX6_solves_55 : decode cX6_solves 55 = .ok (.istore 4, 2) := by decide +kernel
theorem dX6_solves_57 : decode cX6_solves 57 = .ok (.aload_n 0, 1) := by decide +kernel
theorem dX6_solves_58 : decode cX6_solves 58 = .ok (.iload_n 2, 1) := by decide +kernel
theorem dX6_solves_59 : decode cX6_solves 59 = .ok (.iload_n 3, 1) := by decide +kernel
theorem dX6_solves_60 : decode cX6_solves 60 = .ok (.iconst 1, 1) := by decide +kernel
theorem dX6_solves_61 : decode cX6_solves 61 = .ok (.iload 4, 2) := by decide +kernel
theorem dX6_solves_63 : decode cX6_solves 63 = .ok (.invokevirtual 130, 3) := by decide +kernel
theorem dX6_solves_66 : decode cX6_solves 66 = .ok (.ifCond .ne 48, 3) := by decide +kernel
theorem dX6_solves_69 : decode cX6_solves 69 = .ok (.aload_n 0, 1) := by decide +kernel
theorem dX6_solves_70 : decode cX6_solves 70 = .ok (.invokevirtual 228, 3) := by decide +kernel
theorem dX6_solves_73 : decode cX6_solves 73 = .ok (.aload_n 0, 1) := by decide +kernel
theorem dX6_solves_74 : decode cX6_solves 74 = .ok (.iload_n 2, 1) := by decide +kernel
theorem dX6_solves_75 : decode cX6_solves 75 = .ok (.iload_n 3, 1) := by decide +kernel
theorem dX6_solves_76 : decode cX6_solves 76 = .ok (.iconst 1, 1) := by decide +kernel
theorem dX6_solves_77 : decode cX6_solves 77 = .ok (.iload 4, 2) := by decide +kernel
theorem dX6_solves_79 : decode cX6_solves 79 = .ok (.invokevirtual 104, 3) := by decide +kernel
theorem dX6_solves_82 : decode cX6_solves 82 = .ok (.aload_n 0, 1) := by decide +kernel
theorem dX6_solves_83 : decode cX6_solves 83 = .ok (.invokevirtual 156, 3) := by decide +kernel
theorem dX6_solves_86 : decode cX6_solves 86 = .ok (.aload_n 0, 1) := by decide +kernel
theorem dX6_solves_87 : decode cX6_solves 87 = .ok (.invokevirtual 159, 3) := by decide +kernel
theorem dX6_solves_90 : decode cX6_solves 90 = .ok (.istore 5, 2) := by decide +kernel
theorem dX6_solves_92 : decode cX6_solves 92 = .ok (.aload_n 0, 1) := by decide +kernel
theorem dX6_solves_93 : decode cX6_solves 93 = .ok (.invokevirtual 231, 3) := by decide +kernel
theorem dX6_solves_96 : decode cX6_solves 96 = .ok (.iload 5, 2) := by decide +kernel
theorem dX6_solves_98 : decode cX6_solves 98 = .ok (.ifCond .eq 16, 3) := by decide +kernel
theorem dX6_solves_101 : decode cX6_solves 101 = .ok (.bipush 100, 2) := by decide +kernel
theorem dX6_solves_103 : decode cX6_solves 103 = .ok (.iload_n 2, 1) := by decide +kernel
theorem dX6_solves_104 : decode cX6_solves 104 = .ok (.imul, 1) := by decide +kernel
theorem dX6_solves_105 : decode cX6_solves 105 = .ok (.bipush 50, 2) := by decide +kernel
theorem dX6_solves_107 : decode cX6_solves 107 = .ok (.iload_n 3, 1) := by decide +kernel
theorem dX6_solves_108 : decode cX6_solves 108 = .ok (.imul, 1) := by decide +kernel
theorem dX6_solves_109 : decode cX6_solves 109 = .ok (.iadd, 1) := by decide +kernel
theorem dX6_solves_110 : decode cX6_solves 110 = .ok (.iload 4, 2) := by decide +kernel
theorem dX6_solves_112 : decode cX6_solves 112 = .ok (.iadd, 1) := by decide +kernel
theorem dX6_solves_113 : decode cX6_solves 113 = .ok (.ireturn, 1) := by decide +kernel
theorem dX6_solves_114 : decode cX6_solves 114 = .ok (.iinc 1 1, 3) := by decide +kernel
theorem dX6_solves_117 : decode cX6_solves 117 = .ok (.goto (-91), 3) := by decide +kernel
theorem dX6_solves_120 : decode cX6_solves 120 = .ok (.iconst (-1), 1) := by decide +kernel
theorem dX6_solves_121 : decode cX6_solves 121 = .ok (.ireturn, 1) := by decide +kernel
theorem dX6_solutionOf_0 : decode cX6_solutionOf 0 = .ok (.aload_n 0, 1) := by decide +kernel
theorem dX6_solutionOf_1 : decode cX6_solutionOf 1 = .ok (.invokevirtual 237, 3) := by decide +kernel
theorem dX6_solutionOf_4 : decode cX6_solutionOf 4 = .ok (.istore_n 2, 1) := by decide +kernel
theorem dX6_solutionOf_5 : decode cX6_solutionOf 5 = .ok (.iload_n 2, 1) := by decide +kernel
theorem dX6_solutionOf_6 : decode cX6_solutionOf 6 = .ok (.iconst (-1), 1) := by decide +kernel
theorem dX6_solutionOf_7 : decode cX6_solutionOf 7 = .ok (.if_icmp .ne 7, 3) := by decide +kernel
theorem dX6_solutionOf_10 : decode cX6_solutionOf 10 = .ok (.iconst (-1), 1) := by decide +kernel
theorem dX6_solutionOf_11 : decode cX6_solutionOf 11 = .ok (.goto 32, 3) := by decide +kernel
theorem dX6_solutionOf_14 : decode cX6_solutionOf 14 = .ok (.iload_n 1, 1) := by decide +kernel
theorem dX6_solutionOf_15 : decode cX6_solutionOf 15 = .ok (.ifCond .ne 10, 3) := by decide +kernel
theorem dX6_solutionOf_18 : decode cX6_solutionOf 18 = .ok (.iload_n 2, 1) := by decide +kernel
theorem dX6_solutionOf_19 : decode cX6_solutionOf 19 = .ok (.bipush 100, 2) := by decide +kernel
theorem dX6_solutionOf_21 : decode cX6_solutionOf 21 = .ok (.idiv, 1) := by decide +kernel
theorem dX6_solutionOf_22 : decode cX6_solutionOf 22 = .ok (.goto 21, 3) := by decide +kernel
theorem dX6_solutionOf_25 : decode cX6_solutionOf 25 = .ok (.iload_n 1, 1) := by decide +kernel
theorem dX6_solutionOf_26 : decode cX6_solutionOf 26 = .ok (.iconst 1, 1) := by decide +kernel
theorem dX6_solutionOf_27 : decode cX6_solutionOf 27 = .ok (.if_icmp .ne 12, 3) := by decide +kernel
theorem dX6_solutionOf_30 : decode cX6_solutionOf 30 = .ok (.iload_n 2, 1) := by decide +kernel
theorem dX6_solutionOf_31 : decode cX6_solutionOf 31 = .ok (.bipush 50, 2) := by decide +kernel
theorem dX6_solutionOf_33 : decode cX6_solutionOf 33 = .ok (.idiv, 1) := by decide +kernel
theorem dX6_solutionOf_34 : decode cX6_solutionOf 34 = .ok (.iconst 2, 1) := by decide +kernel
theorem dX6_solutionOf_35 : decode cX6_solutionOf 35 = .ok (.irem, 1) := by decide +kernel
theorem dX6_solutionOf_36 : decode cX6_solutionOf 36 = .ok (.goto 7, 3) := by decide +kernel
theorem dX6_solutionOf_39 : decode cX6_solutionOf 39 = .ok (.iload_n 2, 1) := by decide +kernel
theorem dX6_solutionOf_40 : decode cX6_solutionOf 40 = .ok (.bipush 50, 2) := by decide +kernel
theorem dX6_solutionOf_42 : decode cX6_solutionOf 42 = .ok (.irem, 1) := by decide +kernel
theorem dX6_solutionOf_43 : decode cX6_solutionOf 43 = .ok (.ireturn, 1) := by decide +kernel
theorem dX6_solution_0 : decode cX6_solution 0 = .ok (.aload_n 0, 1) := by decide +kernel
theorem dX6_solution_1 : decode cX6_solution 1 = .ok (.iload_n 1, 1) := by decide +kernel
theorem dX6_solution_2 : decode cX6_solution 2 = .ok (.iconst 0, 1) := by decide +kernel
theorem dX6_solution_3 : decode cX6_solution 3 = .ok (.iconst 2, 1) := by decide +kernel
theorem dX6_solution_4 : decode cX6_solution 4 = .ok (.invokestatic 46, 3) := by decide +kernel
theorem dX6_solution_7 : decode cX6_solution 7 = .ok (.ifCond .eq 7, 3) := by decide +kernel
theorem dX6_solution_10 : decode cX6_solution 10 = .ok (.iconst 0, 1) := by decide +kernel
theorem dX6_solution_11 : decode cX6_solution 11 = .ok (.goto 4, 3) := by decide +kernel
theorem dX6_solution_14 : decode cX6_solution 14 = .ok (.iconst 1, 1) := by decide +kernel
theorem dX6_solution_15 : decode cX6_solution 15 = .ok (.invokevirtual 111, 3) := by decide +kernel
theorem dX6_solution_18 : decode cX6_solution 18 = .ok (.ifCond .eq 11, 3) := by decide +kernel
theorem dX6_solution_21 : decode cX6_solution 21 = .ok (.aload_n 0, 1) := by decide +kernel
theorem dX6_solution_22 : decode cX6_solution 22 = .ok (.iload_n 1, 1) := by decide +kernel
theorem dX6_solution_23 : decode cX6_solution 23 = .ok (.invokevirtual 240, 3) := by decide +kernel
theorem dX6_solution_26 : decode cX6_solution 26 = .ok (.goto 4, 3) := by decide +kernel
theorem dX6_solution_29 : decode cX6_solution 29 = .ok (.iconst 0, 1) := by decide +kernel
theorem dX6_solution_30 : decode cX6_solution 30 = .ok (.ireturn, 1) := by decide +kernel
theorem dX6_frees_0 : decode cX6_frees 0 = .ok (.aload_n 0, 1) := by decide +kernel
theorem dX6_frees_1 : decode cX6_frees 1 = .ok (.invokevirtual 156, 3) := by decide +kernel
theorem dX6_frees_4 : decode cX6_frees 4 = .ok (.aload_n 0, 1) := by decide +kernel
theorem dX6_frees_5 : decode cX6_frees 5 = .ok (.getfield 89, 3) := by decide +kernel
theorem dX6_frees_8 : decode cX6_frees 8 = .ok (.ifCond .ne 5, 3) := by decide +kernel
theorem dX6_frees_11 : decode cX6_frees 11 = .ok (.iconst (-1), 1) := by decide +kernel
theorem dX6_frees_12 : decode cX6_frees 12 = .ok (.ireturn, 1) := by decide +kernel
theorem dX6_frees_13 : decode cX6_frees 13 = .ok (.iconst 0, 1) := by decide +kernel
theorem dX6_frees_14 : decode cX6_frees 14 = .ok (.istore_n 1, 1) := by decide +kernel
theorem dX6_frees_15 : decode cX6_frees 15 = .ok (.iload_n 1, 1) := by decide +kernel
theorem dX6_frees_16 : decode cX6_frees 16 = .ok (.aload_n 0, 1) := by decide +kernel
theorem dX6_frees_17 : decode cX6_frees 17 = .ok (.getfield 7, 3) := by decide +kernel
theorem dX6_frees_20 : decode cX6_frees 20 = .ok (.iconst 0, 1) := by decide +kernel
theorem dX6_frees_21 : decode cX6_frees 21 = .ok (.iaload, 1) := by decide +kernel
theorem dX6_frees_22 : decode cX6_frees 22 = .ok (.if_icmp .ge 75, 3) := by decide +kernel
theorem dX6_frees_25 : decode cX6_frees 25 = .ok (.iload_n 1, 1) := by decide +kernel
theorem dX6_frees_26 : decode cX6_frees 26 = .ok (.aload_n 0, 1) := by decide +kernel
theorem dX6_frees_27 : decode cX6_frees 27 = .ok (.getfield 7, 3) := by decide +kernel
theorem dX6_frees_30 : decode cX6_frees 30 = .ok (.bipush 55, 2) := by decide +kernel
theorem dX6_frees_32 : decode cX6_frees 32 = .ok (.iaload, 1) := by decide +kernel
theorem dX6_frees_33 : decode cX6_frees 33 = .ok (.if_icmp .eq 58, 3) := by decide +kernel
theorem dX6_frees_36 : decode cX6_frees 36 = .ok (.aload_n 0, 1) := by decide +kernel
theorem dX6_frees_37 : decode cX6_frees 37 = .ok (.invokevirtual 228, 3) := by decide +kernel
theorem dX6_frees_40 : decode cX6_frees 40 = .ok (.aload_n 0, 1) := by decide +kernel
theorem dX6_frees_41 : decode cX6_frees 41 = .ok (.iload_n 1, 1) := by decide +kernel
theorem dX6_frees_42 : decode cX6_frees 42 = .ok (.iconst 0, 1) := by decide +kernel
theorem dX6_frees_43 : decode cX6_frees 43 = .ok (.iconst 0, 1) := by decide +kernel
theorem dX6_frees_44 : decode cX6_frees 44 = .ok (.iconst 0, 1) := by decide +kernel
theorem dX6_frees_45 : decode cX6_frees 45 = .ok (.invokevirtual 104, 3) := by decide +kernel
theorem dX6_frees_48 : decode cX6_frees 48 = .ok (.aload_n 0, 1) := by decide +kernel
theorem dX6_frees_49 : decode cX6_frees 49 = .ok (.iload_n 1, 1) := by decide +kernel
theorem dX6_frees_50 : decode cX6_frees 50 = .ok (.iconst 1, 1) := by decide +kernel
theorem dX6_frees_51 : decode cX6_frees 51 = .ok (.iconst 0, 1) := by decide +kernel
theorem dX6_frees_52 : decode cX6_frees 52 = .ok (.iconst 0, 1) := by decide +kernel
theorem dX6_frees_53 : decode cX6_frees 53 = .ok (.invokevirtual 104, 3) := by decide +kernel
theorem dX6_frees_56 : decode cX6_frees 56 = .ok (.aload_n 0, 1) := by decide +kernel
theorem dX6_frees_57 : decode cX6_frees 57 = .ok (.invokevirtual 156, 3) := by decide +kernel
theorem dX6_frees_60 : decode cX6_frees 60 = .ok (.aload_n 0, 1) := by decide +kernel
theorem dX6_frees_61 : decode cX6_frees 61 = .ok (.getfield 89, 3) := by decide +kernel
theorem dX6_frees_64 : decode cX6_frees 64 = .ok (.ifCond .ne 15, 3) := by decide +kernel
theorem dX6_frees_67 : decode cX6_frees 67 = .ok (.aload_n 0, 1) := by decide +kernel
theorem dX6_frees_68 : decode cX6_frees 68 = .ok (.invokevirtual 222, 3) := by decide +kernel
theorem dX6_frees_71 : decode cX6_frees 71 = .ok (.iconst 1, 1) := by decide +kernel
theorem dX6_frees_72 : decode cX6_frees 72 = .ok (.if_icmp .le 7, 3) := by decide +kernel
theorem dX6_frees_75 : decode cX6_frees 75 = .ok (.iconst 1, 1) := by decide +kernel
theorem dX6_frees_76 : decode cX6_frees 76 = .ok (.goto 4, 3) := by decide +kernel
theorem dX6_frees_79 : decode cX6_frees 79 = .ok (.iconst 0, 1) := by decide +kernel
theorem dX6_frees_80 : decode cX6_frees 80 = .ok (.istore_n 2, 1) := by decide +kernel
theorem dX6_frees_81 : decode cX6_frees 81 = .ok (.aload_n 0, 1) := by decide +kernel
theorem dX6_frees_82 : decode cX6_frees 82 = .ok (.invokevirtual 231, 3) := by decide +kernel
theorem dX6_frees_85 : decode cX6_frees 85 = .ok (.iload_n 2, 1) := by decide +kernel
theorem dX6_frees_86 : decode cX6_frees 86 = .ok (.ifCond .eq 5, 3) := by decide +kernel
theorem dX6_frees_89 : decode cX6_frees 89 = .ok (.iload_n 1, 1) := by decide +kernel
theorem dX6_frees_90 : decode cX6_frees 90 = .ok (.ireturn, 1) := by decide +kernel
theorem dX6_frees_91 : decode cX6_frees 91 = .ok (.iinc 1 1, 3) := by decide +kernel
theorem dX6_frees_94 : decode cX6_frees 94 = .ok (.goto (-79), 3) := by decide +kernel
theorem dX6_frees_97 : decode cX6_frees 97 = .ok (.iconst (-1), 1) := by decide +kernel
theorem dX6_frees_98 : decode cX6_frees 98 = .ok (.ireturn, 1) := by decide +kernel
theorem dX6_culprit_0 : decode cX6_culprit 0 = .ok (.aload_n 0, 1) := by decide +kernel
theorem dX6_culprit_1 : decode cX6_culprit 1 = .ok (.iconst 0, 1) := by decide +kernel
theorem dX6_culprit_2 : decode cX6_culprit 2 = .ok (.putfield 42, 3) := by decide +kernel
theorem dX6_culprit_5 : decode cX6_culprit 5 = .ok (.aload_n 0, 1) := by decide +kernel
theorem dX6_culprit_6 : decode cX6_culprit 6 = .ok (.invokevirtual 243, 3) := by decide +kernel
theorem dX6_culprit_9 : decode cX6_culprit 9 = .ok (.ireturn, 1) := by decide +kernel
theorem dX6_share_0 : decode cX6_share 0 = .ok (.iconst 0, 1) := by decide +kernel
theorem dX6_share_1 : decode cX6_share 1 = .ok (.istore_n 1, 1) := by decide +kernel
theorem dX6_share_2 : decode cX6_share 2 = .ok (.iconst 0, 1) := by decide +kernel
theorem dX6_share_3 : decode cX6_share 3 = .ok (.istore_n 2, 1) := by decide +kernel
theorem dX6_share_4 : decode cX6_share 4 = .ok (.iload_n 2, 1) := by decide +kernel
theorem dX6_share_5 : decode cX6_share 5 = .ok (.aload_n 0, 1) := by decide +kernel
theorem dX6_share_6 : decode cX6_share 6 = .ok (.getfield 7, 3) := by decide +kernel
theorem dX6_share_9 : decode cX6_share 9 = .ok (.iconst 0, 1) := by decide +kernel
theorem dX6_share_10 : decode cX6_share 10 = .ok (.iaload, 1) := by decide +kernel
theorem dX6_share_11 : decode cX6_share 11 = .ok (.if_icmp .ge 28, 3) := by decide +kernel
theorem dX6_share_14 : decode cX6_share 14 = .ok (.iload_n 1, 1) := by decide +kernel
theorem dX6_share_15 : decode cX6_share 15 = .ok (.aload_n 0, 1) := by decide +kernel
theorem dX6_share_16 : decode cX6_share 16 = .ok (.getfield 22, 3) := by decide +kernel
theorem dX6_share_19 : decode cX6_share 19 = .ok (.iload_n 2, 1) := by decide +kernel
theorem dX6_share_20 : decode cX6_share 20 = .ok (.laload, 1) := by decide +kernel
theorem dX6_share_21 : decode cX6_share 21 = .ok (.lconst 0, 1) := by decide +kernel
theorem dX6_share_22 : decode cX6_share 22 = .ok (.lcmp, 1) := by decide +kernel
theorem dX6_share_23 : decode cX6_share 23 = .ok (.ifCond .ne 7, 3) := by decide +kernel
theorem dX6_share_26 : decode cX6_share 26 = .ok (.iconst 0, 1) := by decide +kernel
theorem dX6_share_27 : decode cX6_share 27 = .ok (.goto 4, 3) := by decide +kernel
theorem dX6_share_30 : decode cX6_share 30 = .ok (.iconst 1, 1) := by decide +kernel
theorem dX6_share_31 : decode cX6_share 31 = .ok (.iadd, 1) := by decide +kernel
theorem dX6_share_32 : decode cX6_share 32 = .ok (.istore_n 1, 1) := by decide +kernel
theorem dX6_share_33 : decode cX6_share 33 = .ok (.iinc 2 1, 3) := by decide +kernel
theorem dX6_share_36 : decode cX6_share 36 = .ok (.goto (-32), 3) := by decide +kernel
theorem dX6_share_39 : decode cX6_share 39 = .ok (.aload_n 0, 1) := by decide +kernel
theorem dX6_share_40 : decode cX6_share 40 = .ok (.getfield 7, 3) := by decide +kernel
theorem dX6_share_43 : decode cX6_share 43 = .ok (.iconst 0, 1) := by decide +kernel
theorem dX6_share_44 : decode cX6_share 44 = .ok (.iaload, 1) := by decide +kernel
theorem dX6_share_45 : decode cX6_share 45 = .ok (.ifCond .ne 7, 3) := by decide +kernel
theorem dX6_share_48 : decode cX6_share 48 = .ok (.dconst 0, 1) := by decide +kernel
theorem dX6_share_49 : decode cX6_share 49 = .ok (.goto 13, 3) := by decide +kernel
theorem dX6_share_52 : decode cX6_share 52 = .ok (.iload_n 1, 1) := by decide +kernel
theorem dX6_share_53 : decode cX6_share 53 = .ok (.i2d, 1) := by decide +kernel
theorem dX6_share_54 : decode cX6_share 54 = .ok (.aload_n 0, 1) := by decide +kernel
theorem dX6_share_55 : decode cX6_share 55 = .ok (.getfield 7, 3) := by decide +kernel
theorem dX6_share_58 : decode cX6_share 58 = .ok (.iconst 0, 1) := by decide +kernel
theorem dX6_share_59 : decode cX6_share 59 = .ok (.iaload, 1) := by decide +kernel
theorem dX6_share_60 : decode cX6_share 60 = .ok (.i2d, 1) := by decide +kernel
theorem dX6_share_61 : decode cX6_share 61 = .ok (.ddiv, 1) := by decide +kernel
theorem dX6_share_62 : decode cX6_share 62 = .ok (.dreturn, 1) := by decide +kernel
theorem dX6_turningShare_0 : decode cX6_turningShare 0 = .ok (.aload_n 0, 1) := by decide +kernel
theorem dX6_turningShare_1 : decode cX6_turningShare 1 = .ok (.iconst 0, 1) := by decide +kernel
theorem dX6_turningShare_2 : decode cX6_turningShare 2 = .ok (.putfield 42, 3) := by decide +kernel
theorem dX6_turningShare_5 : decode cX6_turningShare 5 = .ok (.aload_n 0, 1) := by decide +kernel
theorem dX6_turningShare_6 : decode cX6_turningShare 6 = .ok (.invokevirtual 156, 3) := by decide +kernel
theorem dX6_turningShare_9 : decode cX6_turningShare 9 = .ok (.aload_n 0, 1) := by decide +kernel
theorem dX6_turningShare_10 : decode cX6_turningShare 10 = .ok (.invokevirtual 246, 3) := by decide +kernel
theorem dX6_turningShare_13 : decode cX6_turningShare 13 = .ok (.dreturn, 1) := by decide +kernel
theorem dX6_bitsOf_0 : decode cX6_bitsOf 0 = .ok (.dload_n 0, 1) := by decide +kernel
theorem dX6_bitsOf_1 : decode cX6_bitsOf 1 = .ok (.dconst 0, 1) := by decide +kernel
theorem dX6_bitsOf_2 : decode cX6_bitsOf 2 = .ok (.dcmp .l, 1) := by decide +kernel
theorem dX6_bitsOf_3 : decode cX6_bitsOf 3 = .ok (.ifCond .ne 5, 3) := by decide +kernel
theorem dX6_bitsOf_6 : decode cX6_bitsOf 6 = .ok (.lconst 0, 1) := by decide +kernel
theorem dX6_bitsOf_7 : decode cX6_bitsOf 7 = .ok (.lreturn, 1) := by decide +kernel
theorem dX6_bitsOf_8 : decode cX6_bitsOf 8 = .ok (.ldc2_w 250, 3) := by decide +kernel
theorem dX6_bitsOf_11 : decode cX6_bitsOf 11 = .ok (.lstore_n 2, 1) := by decide +kernel
theorem dX6_bitsOf_12 : decode cX6_bitsOf 12 = .ok (.dload_n 0, 1) := by decide +kernel
theorem dX6_bitsOf_13 : decode cX6_bitsOf 13 = .ok (.dstore 4, 2) := by decide +kernel
theorem dX6_bitsOf_15 : decode cX6_bitsOf 15 = .ok (.dload 4, 2) := by decide +kernel
theorem dX6_bitsOf_17 : decode cX6_bitsOf 17 = .ok (.dconst 1, 1) := by decide +kernel
theorem dX6_bitsOf_18 : decode cX6_bitsOf 18 = .ok (.dcmp .g, 1) := by decide +kernel
theorem dX6_bitsOf_19 : decode cX6_bitsOf 19 = .ok (.ifCond .ge 18, 3) := by decide +kernel
theorem dX6_bitsOf_22 : decode cX6_bitsOf 22 = .ok (.dload 4, 2) := by decide +kernel
theorem dX6_bitsOf_24 : decode cX6_bitsOf 24 = .ok (.ldc2_w 252, 3) := by decide +kernel
theorem dX6_bitsOf_27 : decode cX6_bitsOf 27 = .ok (.dmul, 1) := by decide +kernel
theorem dX6_bitsOf_28 : decode cX6_bitsOf 28 = .ok (.dstore 4, 2) := by decide +kernel
theorem dX6_bitsOf_30 : decode cX6_bitsOf 30 = .ok (.lload_n 2, 1) := by decide +kernel
theorem dX6_bitsOf_31 : decode cX6_bitsOf 31 = .ok (.lconst 1, 1) := by decide +kernel
theorem dX6_bitsOf_32 : decode cX6_bitsOf 32 = .ok (.lsub, 1) := by decide +kernel
theorem dX6_bitsOf_33 : decode cX6_bitsOf 33 = .ok (.lstore_n 2, 1) := by decide +kernel
theorem dX6_bitsOf_34 : decode cX6_bitsOf 34 = .ok (.goto (-19), 3) := by decide +kernel
theorem dX6_bitsOf_37 : decode cX6_bitsOf 37 = .ok (.lload_n 2, 1) := by decide +kernel
theorem dX6_bitsOf_38 : decode cX6_bitsOf 38 = .ok (.ldc2_w 254, 3) := by decide +kernel
theorem dX6_bitsOf_41 : decode cX6_bitsOf 41 = .ok (.lmul, 1) := by decide +kernel
theorem dX6_bitsOf_42 : decode cX6_bitsOf 42 = .ok (.dload 4, 2) := by decide +kernel
theorem dX6_bitsOf_44 : decode cX6_bitsOf 44 = .ok (.dconst 1, 1) := by decide +kernel
theorem dX6_bitsOf_45 : decode cX6_bitsOf 45 = .ok (.dsub, 1) := by decide +kernel
theorem dX6_bitsOf_46 : decode cX6_bitsOf 46 = .ok (.ldc2_w 256, 3) := by decide +kernel
theorem dX6_bitsOf_49 : decode cX6_bitsOf 49 = .ok (.dmul, 1) := by decide +kernel
theorem dX6_bitsOf_50 : decode cX6_bitsOf 50 = .ok (.d2l, 1) := by decide +kernel
theorem dX6_bitsOf_51 : decode cX6_bitsOf 51 = .ok (.ladd, 1) := by decide +kernel
theorem dX6_bitsOf_52 : decode cX6_bitsOf 52 = .ok (.lreturn, 1) := by decide +kernel
theorem dX6_digestOne_0 : decode cX6_digestOne 0 = .ok (.aload_n 0, 1) := by decide +kernel
theorem dX6_digestOne_1 : decode cX6_digestOne 1 = .ok (.ldc2_w 258, 3) := by decide +kernel
theorem dX6_digestOne_4 : decode cX6_digestOne 4 = .ok (.aload_n 0, 1) := by decide +kernel
theorem dX6_digestOne_5 : decode cX6_digestOne 5 = .ok (.getfield 260, 3) := by decide +kernel
theorem dX6_digestOne_8 : decode cX6_digestOne 8 = .ok (.lmul, 1) := by decide +kernel
theorem dX6_digestOne_9 : decode cX6_digestOne 9 = .ok (.lload_n 1, 1) := by decide +kernel
theorem dX6_digestOne_10 : decode cX6_digestOne 10 = .ok (.ladd, 1) := by decide +kernel
theorem dX6_digestOne_11 : decode cX6_digestOne 11 = .ok (.putfield 260, 3) := by decide +kernel
theorem dX6_digestOne_14 : decode cX6_digestOne 14 = .ok (.return_, 1) := by decide +kernel
theorem dX6_digest_0 : decode cX6_digest 0 = .ok (.aload_n 0, 1) := by decide +kernel
theorem dX6_digest_1 : decode cX6_digest 1 = .ok (.iconst 0, 1) := by decide +kernel
theorem dX6_digest_2 : decode cX6_digest 2 = .ok (.putfield 42, 3) := by decide +kernel
theorem dX6_digest_5 : decode cX6_digest 5 = .ok (.aload_n 0, 1) := by decide +kernel
theorem dX6_digest_6 : decode cX6_digest 6 = .ok (.invokevirtual 156, 3) := by decide +kernel
theorem dX6_digest_9 : decode cX6_digest 9 = .ok (.aload_n 0, 1) := by decide +kernel
theorem dX6_digest_10 : decode cX6_digest 10 = .ok (.ldc2_w 263, 3) := by decide +kernel
theorem dX6_digest_13 : decode cX6_digest 13 = .ok (.putfield 260, 3) := by decide +kernel
theorem dX6_digest_16 : decode cX6_digest 16 = .ok (.iconst 0, 1) := by decide +kernel
theorem dX6_digest_17 : decode cX6_digest 17 = .ok (.istore_n 1, 1) := by decide +kernel
theorem dX6_digest_18 : decode cX6_digest 18 = .ok (.iload_n 1, 1) := by decide +kernel
theorem dX6_digest_19 : decode cX6_digest 19 = .ok (.bipush 11, 2) := by decide +kernel
theorem dX6_digest_21 : decode cX6_digest 21 = .ok (.if_icmp .ge 19, 3) := by decide +kernel
theorem dX6_digest_24 : decode cX6_digest 24 = .ok (.aload_n 0, 1) := by decide +kernel
theorem dX6_digest_25 : decode cX6_digest 25 = .ok (.aload_n 0, 1) := by decide +kernel
theorem dX6_digest_26 : decode cX6_digest 26 = .ok (.iload_n 1, 1) := by decide +kernel
theorem dX6_digest_27 : decode cX6_digest 27 = .ok (.invokevirtual 225, 3) := by decide +kernel
theorem dX6_digest_30 : decode cX6_digest 30 = .ok (.i2l, 1) := by decide +kernel
theorem dX6_digest_31 : decode cX6_digest 31 = .ok (.invokevirtual 265, 3) := by decide +kernel
theorem dX6_digest_34 : decode cX6_digest 34 = .ok (.iinc 1 1, 3) := by decide +kernel
theorem dX6_digest_37 : decode cX6_digest 37 = .ok (.goto (-19), 3) := by decide +kernel
theorem dX6_digest_40 : decode cX6_digest 40 = .ok (.aload_n 0, 1) := by decide +kernel
theorem dX6_digest_41 : decode cX6_digest 41 = .ok (.aload_n 0, 1) := by decide +kernel
theorem dX6_digest_42 : decode cX6_digest 42 = .ok (.getfield 7, 3) := by decide +kernel
theorem dX6_digest_45 : decode cX6_digest 45 = .ok (.bipush 59, 2) := by decide +kernel
theorem dX6_digest_47 : decode cX6_digest 47 = .ok (.iaload, 1) := by decide +kernel
theorem dX6_digest_48 : decode cX6_digest 48 = .ok (.i2l, 1) := by decide +kernel
theorem dX6_digest_49 : decode cX6_digest 49 = .ok (.invokevirtual 265, 3) := by decide +kernel
theorem dX6_digest_52 : decode cX6_digest 52 = .ok (.iconst 0, 1) := by decide +kernel
theorem dX6_digest_53 : decode cX6_digest 53 = .ok (.istore_n 1, 1) := by decide +kernel
theorem dX6_digest_54 : decode cX6_digest 54 = .ok (.iload_n 1, 1) := by decide +kernel
theorem dX6_digest_55 : decode cX6_digest 55 = .ok (.aload_n 0, 1) := by decide +kernel
theorem dX6_digest_56 : decode cX6_digest 56 = .ok (.getfield 7, 3) := by decide +kernel
theorem dX6_digest_59 : decode cX6_digest 59 = .ok (.iconst 0, 1) := by decide +kernel
theorem dX6_digest_60 : decode cX6_digest 60 = .ok (.iaload, 1) := by decide +kernel
theorem dX6_digest_61 : decode cX6_digest 61 = .ok (.if_icmp .ge 54, 3) := by decide +kernel
theorem dX6_digest_64 : decode cX6_digest 64 = .ok (.iconst 0, 1) := by decide +kernel
theorem dX6_digest_65 : decode cX6_digest 65 = .ok (.istore_n 2, 1) := by decide +kernel
theorem dX6_digest_66 : decode cX6_digest 66 = .ok (.iload_n 2, 1) := by decide +kernel
theorem dX6_digest_67 : decode cX6_digest 67 = .ok (.bipush 9, 2) := by decide +kernel
theorem dX6_digest_69 : decode cX6_digest 69 = .ok (.if_icmp .ge 20, 3) := by decide +kernel
theorem dX6_digest_72 : decode cX6_digest 72 = .ok (.aload_n 0, 1) := by decide +kernel
theorem dX6_digest_73 : decode cX6_digest 73 = .ok (.aload_n 0, 1) := by decide +kernel
theorem dX6_digest_74 : decode cX6_digest 74 = .ok (.iload_n 1, 1) := by decide +kernel
theorem dX6_digest_75 : decode cX6_digest 75 = .ok (.iload_n 2, 1) := by decide +kernel
theorem dX6_digest_76 : decode cX6_digest 76 = .ok (.invokevirtual 192, 3) := by decide +kernel
theorem dX6_digest_79 : decode cX6_digest 79 = .ok (.i2l, 1) := by decide +kernel
theorem dX6_digest_80 : decode cX6_digest 80 = .ok (.invokevirtual 265, 3) := by decide +kernel
theorem dX6_digest_83 : decode cX6_digest 83 = .ok (.iinc 2 1, 3) := by decide +kernel
theorem dX6_digest_86 : decode cX6_digest 86 = .ok (.goto (-20), 3) := by decide +kernel
theorem dX6_digest_89 : decode cX6_digest 89 = .ok (.aload_n 0, 1) := by decide +kernel
theorem dX6_digest_90 : decode cX6_digest 90 = .ok (.aload_n 0, 1) := by decide +kernel
theorem dX6_digest_91 : decode cX6_digest 91 = .ok (.getfield 22, 3) := by decide +kernel
theorem dX6_digest_94 : decode cX6_digest 94 = .ok (.iload_n 1, 1) := by decide +kernel
theorem dX6_digest_95 : decode cX6_digest 95 = .ok (.laload, 1) := by decide +kernel
theorem dX6_digest_96 : decode cX6_digest 96 = .ok (.invokevirtual 265, 3) := by decide +kernel
theorem dX6_digest_99 : decode cX6_digest 99 = .ok (.aload_n 0, 1) := by decide +kernel
theorem dX6_digest_100 : decode cX6_digest 100 = .ok (.aload_n 0, 1) := by decide +kernel
theorem dX6_digest_101 : decode cX6_digest 101 = .ok (.getfield 26, 3) := by decide +kernel
theorem dX6_digest_104 : decode cX6_digest 104 = .ok (.iload_n 1, 1) := by decide +kernel
theorem dX6_digest_105 : decode cX6_digest 105 = .ok (.laload, 1) := by decide +kernel
theorem dX6_digest_106 : decode cX6_digest 106 = .ok (.invokevirtual 265, 3) := by decide +kernel
theorem dX6_digest_109 : decode cX6_digest 109 = .ok (.iinc 1 1, 3) := by decide +kernel
theorem dX6_digest_112 : decode cX6_digest 112 = .ok (.goto (-58), 3) := by decide +kernel
theorem dX6_digest_115 : decode cX6_digest 115 = .ok (.iconst 0, 1) := by decide +kernel
theorem dX6_digest_116 : decode cX6_digest 116 = .ok (.istore_n 1, 1) := by decide +kernel
theorem dX6_digest_117 : decode cX6_digest 117 = .ok (.iload_n 1, 1) := by decide +kernel
theorem dX6_digest_118 : decode cX6_digest 118 = .ok (.aload_n 0, 1) := by decide +kernel
theorem dX6_digest_119 : decode cX6_digest 119 = .ok (.getfield 7, 3) := by decide +kernel
theorem dX6_digest_122 : decode cX6_digest 122 = .ok (.iconst 0, 1) := by decide +kernel
theorem dX6_digest_123 : decode cX6_digest 123 = .ok (.iaload, 1) := by decide +kernel
theorem dX6_digest_124 : decode cX6_digest 124 = .ok (.if_icmp .ge 85, 3) := by decide +kernel
theorem dX6_digest_127 : decode cX6_digest 127 = .ok (.iconst 0, 1) := by decide +kernel
theorem dX6_digest_128 : decode cX6_digest 128 = .ok (.istore_n 2, 1) := by decide +kernel
theorem dX6_digest_129 : decode cX6_digest 129 = .ok (.iload_n 2, 1) := by decide +kernel
theorem dX6_digest_130 : decode cX6_digest 130 = .ok (.aload_n 0, 1) := by decide +kernel
theorem dX6_digest_131 : decode cX6_digest 131 = .ok (.getfield 7, 3) := by decide +kernel
theorem dX6_digest_134 : decode cX6_digest 134 = .ok (.iconst 0, 1) := by decide +kernel
theorem dX6_digest_135 : decode cX6_digest 135 = .ok (.iaload, 1) := by decide +kernel
theorem dX6_digest_136 : decode cX6_digest 136 = .ok (.if_icmp .ge 67, 3) := by decide +kernel
theorem dX6_digest_139 : decode cX6_digest 139 = .ok (.aload_n 0, 1) := by decide +kernel
theorem dX6_digest_140 : decode cX6_digest 140 = .ok (.aload_n 0, 1) := by decide +kernel
theorem dX6_digest_141 : decode cX6_digest 141 = .ok (.iload_n 1, 1) := by decide +kernel
theorem dX6_digest_142 : decode cX6_digest 142 = .ok (.iload_n 2, 1) := by decide +kernel
theorem dX6_digest_143 : decode cX6_digest 143 = .ok (.invokevirtual 73, 3) := by decide +kernel
theorem dX6_digest_146 : decode cX6_digest 146 = .ok (.i2l, 1) := by decide +kernel
theorem dX6_digest_147 : decode cX6_digest 147 = .ok (.invokevirtual 265, 3) := by decide +kernel
theorem dX6_digest_150 : decode cX6_digest 150 = .ok (.iconst 0, 1) := by decide +kernel
theorem dX6_digest_151 : decode cX6_digest 151 = .ok (.istore_n 3, 1) := by decide +kernel
theorem dX6_digest_152 : decode cX6_digest 152 = .ok (.iload_n 3, 1) := by decide +kernel
theorem dX6_digest_153 : decode cX6_digest 153 = .ok (.iconst 4, 1) := by decide +kernel
theorem dX6_digest_154 : decode cX6_digest 154 = .ok (.if_icmp .ge 21, 3) := by decide +kernel
theorem dX6_digest_157 : decode cX6_digest 157 = .ok (.aload_n 0, 1) := by decide +kernel
theorem dX6_digest_158 : decode cX6_digest 158 = .ok (.aload_n 0, 1) := by decide +kernel
theorem dX6_digest_159 : decode cX6_digest 159 = .ok (.iload_n 1, 1) := by decide +kernel
theorem dX6_digest_160 : decode cX6_digest 160 = .ok (.iload_n 2, 1) := by decide +kernel
theorem dX6_digest_161 : decode cX6_digest 161 = .ok (.iload_n 3, 1) := by decide +kernel
theorem dX6_digest_162 : decode cX6_digest 162 = .ok (.invokevirtual 208, 3) := by decide +kernel
theorem dX6_digest_165 : decode cX6_digest 165 = .ok (.i2l, 1) := by decide +kernel
theorem dX6_digest_166 : decode cX6_digest 166 = .ok (.invokevirtual 265, 3) := by decide +kernel
theorem dX6_digest_169 : decode cX6_digest 169 = .ok (.iinc 3 1, 3) := by decide +kernel
theorem dX6_digest_172 : decode cX6_digest 172 = .ok (.goto (-20), 3) := by decide +kernel
theorem dX6_digest_175 : decode cX6_digest 175 = .ok (.aload_n 0, 1) := by decide +kernel
theorem dX6_digest_176 : decode cX6_digest 176 = .ok (.aload_n 0, 1) := by decide +kernel
theorem dX6_digest_177 : decode cX6_digest 177 = .ok (.iload_n 1, 1) := by decide +kernel
theorem dX6_digest_178 : decode cX6_digest 178 = .ok (.iload_n 2, 1) := by decide +kernel
theorem dX6_digest_179 : decode cX6_digest 179 = .ok (.iconst 0, 1) := by decide +kernel
theorem dX6_digest_180 : decode cX6_digest 180 = .ok (.invokevirtual 211, 3) := by decide +kernel
theorem dX6_digest_183 : decode cX6_digest 183 = .ok (.invokevirtual 265, 3) := by decide +kernel
theorem dX6_digest_186 : decode cX6_digest 186 = .ok (.aload_n 0, 1) := by decide +kernel
theorem dX6_digest_187 : decode cX6_digest 187 = .ok (.aload_n 0, 1) := by decide +kernel
theorem dX6_digest_188 : decode cX6_digest 188 = .ok (.iload_n 1, 1) := by decide +kernel
theorem dX6_digest_189 : decode cX6_digest 189 = .ok (.iload_n 2, 1) := by decide +kernel
theorem dX6_digest_190 : decode cX6_digest 190 = .ok (.iconst 1, 1) := by decide +kernel
theorem dX6_digest_191 : decode cX6_digest 191 = .ok (.invokevirtual 211, 3) := by decide +kernel
theorem dX6_digest_194 : decode cX6_digest 194 = .ok (.invokevirtual 265, 3) := by decide +kernel
theorem dX6_digest_197 : decode cX6_digest 197 = .ok (.iinc 2 1, 3) := by decide +kernel
theorem dX6_digest_200 : decode cX6_digest 200 = .ok (.goto (-71), 3) := by decide +kernel
theorem dX6_digest_203 : decode cX6_digest 203 = .ok (.iinc 1 1, 3) := by decide +kernel
theorem dX6_digest_206 : decode cX6_digest 206 = .ok (.goto (-89), 3) := by decide +kernel
theorem dX6_digest_209 : decode cX6_digest 209 = .ok (.aload_n 0, 1) := by decide +kernel
theorem dX6_digest_210 : decode cX6_digest 210 = .ok (.aload_n 0, 1) := by decide +kernel
theorem dX6_digest_211 : decode cX6_digest 211 = .ok (.invokevirtual 215, 3) := by decide +kernel
theorem dX6_digest_214 : decode cX6_digest 214 = .ok (.invokevirtual 265, 3) := by decide +kernel
theorem dX6_digest_217 : decode cX6_digest 217 = .ok (.iconst 0, 1) := by decide +kernel
theorem dX6_digest_218 : decode cX6_digest 218 = .ok (.istore_n 1, 1) := by decide +kernel
theorem dX6_digest_219 : decode cX6_digest 219 = .ok (.iload_n 1, 1) := by decide +kernel
theorem dX6_digest_220 : decode cX6_digest 220 = .ok (.iconst 3, 1) := by decide +kernel
theorem dX6_digest_221 : decode cX6_digest 221 = .ok (.if_icmp .ge 19, 3) := by decide +kernel
theorem dX6_digest_224 : decode cX6_digest 224 = .ok (.aload_n 0, 1) := by decide +kernel
theorem dX6_digest_225 : decode cX6_digest 225 = .ok (.aload_n 0, 1) := by decide +kernel
theorem dX6_digest_226 : decode cX6_digest 226 = .ok (.iload_n 1, 1) := by decide +kernel
theorem dX6_digest_227 : decode cX6_digest 227 = .ok (.invokevirtual 240, 3) := by decide +kernel
theorem dX6_digest_230 : decode cX6_digest 230 = .ok (.i2l, 1) := by decide +kernel
theorem dX6_digest_231 : decode cX6_digest 231 = .ok (.invokevirtual 265, 3) := by decide +kernel
theorem dX6_digest_234 : decode cX6_digest 234 = .ok (.iinc 1 1, 3) := by decide +kernel
theorem dX6_digest_237 : decode cX6_digest 237 = .ok (.goto (-18), 3) := by decide +kernel
theorem dX6_digest_240 : decode cX6_digest 240 = .ok (.aload_n 0, 1) := by decide +kernel
theorem dX6_digest_241 : decode cX6_digest 241 = .ok (.aload_n 0, 1) := by decide +kernel
theorem dX6_digest_242 : decode cX6_digest 242 = .ok (.invokevirtual 243, 3) := by decide +kernel
theorem dX6_digest_245 : decode cX6_digest 245 = .ok (.i2l, 1) := by decide +kernel
theorem dX6_digest_246 : decode cX6_digest 246 = .ok (.invokevirtual 265, 3) := by decide +kernel
theorem dX6_digest_249 : decode cX6_digest 249 = .ok (.aload_n 0, 1) := by decide +kernel
theorem dX6_digest_250 : decode cX6_digest 250 = .ok (.invokevirtual 156, 3) := by decide +kernel
theorem dX6_digest_253 : decode cX6_digest 253 = .ok (.aload_n 0, 1) := by decide +kernel
theorem dX6_digest_254 : decode cX6_digest 254 = .ok (.aload_n 0, 1) := by decide +kernel
theorem dX6_digest_255 : decode cX6_digest 255 = .ok (.invokevirtual 246, 3) := by decide +kernel
theorem dX6_digest_258 : decode cX6_digest 258 = .ok (.invokestatic 269, 3) := by decide +kernel
theorem dX6_digest_261 : decode cX6_digest 261 = .ok (.invokevirtual 265, 3) := by decide +kernel
theorem dX6_digest_264 : decode cX6_digest 264 = .ok (.aload_n 0, 1) := by decide +kernel
theorem dX6_digest_265 : decode cX6_digest 265 = .ok (.aload_n 0, 1) := by decide +kernel
theorem dX6_digest_266 : decode cX6_digest 266 = .ok (.getfield 163, 3) := by decide +kernel
theorem dX6_digest_269 : decode cX6_digest 269 = .ok (.i2l, 1) := by decide +kernel
theorem dX6_digest_270 : decode cX6_digest 270 = .ok (.invokevirtual 265, 3) := by decide +kernel
theorem dX6_digest_273 : decode cX6_digest 273 = .ok (.iconst 0, 1) := by decide +kernel
theorem dX6_digest_274 : decode cX6_digest 274 = .ok (.istore_n 1, 1) := by decide +kernel
theorem dX6_digest_275 : decode cX6_digest 275 = .ok (.iload_n 1, 1) := by decide +kernel
theorem dX6_digest_276 : decode cX6_digest 276 = .ok (.aload_n 0, 1) := by decide +kernel
theorem dX6_digest_277 : decode cX6_digest 277 = .ok (.getfield 163, 3) := by decide +kernel
theorem dX6_digest_280 : decode cX6_digest 280 = .ok (.if_icmp .ge 20, 3) := by decide +kernel
theorem dX6_digest_283 : decode cX6_digest 283 = .ok (.aload_n 0, 1) := by decide +kernel
theorem dX6_digest_284 : decode cX6_digest 284 = .ok (.aload_n 0, 1) := by decide +kernel
theorem dX6_digest_285 : decode cX6_digest 285 = .ok (.getfield 19, 3) := by decide +kernel
theorem dX6_digest_288 : decode cX6_digest 288 = .ok (.iload_n 1, 1) := by decide +kernel
theorem dX6_digest_289 : decode cX6_digest 289 = .ok (.iaload, 1) := by decide +kernel
theorem dX6_digest_290 : decode cX6_digest 290 = .ok (.i2l, 1) := by decide +kernel
theorem dX6_digest_291 : decode cX6_digest 291 = .ok (.invokevirtual 265, 3) := by decide +kernel
theorem dX6_digest_294 : decode cX6_digest 294 = .ok (.iinc 1 1, 3) := by decide +kernel
theorem dX6_digest_297 : decode cX6_digest 297 = .ok (.goto (-22), 3) := by decide +kernel
theorem dX6_digest_300 : decode cX6_digest 300 = .ok (.aload_n 0, 1) := by decide +kernel
theorem dX6_digest_301 : decode cX6_digest 301 = .ok (.getfield 260, 3) := by decide +kernel
theorem dX6_digest_304 : decode cX6_digest 304 = .ok (.lreturn, 1) := by decide +kernel
theorem dL_addPeg_0 : decode cL_addPeg 0 = .ok (.aload_n 3, 1) := by decide +kernel
theorem dL_addPeg_1 : decode cL_addPeg 1 = .ok (.iconst 0, 1) := by decide +kernel
theorem dL_addPeg_2 : decode cL_addPeg 2 = .ok (.aload_n 0, 1) := by decide +kernel
theorem dL_addPeg_3 : decode cL_addPeg 3 = .ok (.iload_n 1, 1) := by decide +kernel
theorem dL_addPeg_4 : decode cL_addPeg 4 = .ok (.iload_n 2, 1) := by decide +kernel
theorem dL_addPeg_5 : decode cL_addPeg 5 = .ok (.invokevirtual 7, 3) := by decide +kernel
theorem dL_addPeg_8 : decode cL_addPeg 8 = .ok (.i2l, 1) := by decide +kernel
theorem dL_addPeg_9 : decode cL_addPeg 9 = .ok (.lastore, 1) := by decide +kernel
theorem dL_addPeg_10 : decode cL_addPeg 10 = .ok (.goto 11, 3) := by decide +kernel
theorem dL_addPeg_13 : decode cL_addPeg 13 = .ok (.astore 4, 2) := by decide +kernel
theorem dL_addPeg_15 : decode cL_addPeg 15 = .ok (.iconst 1, 1) := by decide +kernel
theorem dL_addPeg_16 : decode cL_addPeg 16 = .ok (.ireturn, 1) := by decide +kernel
theorem dL_addPeg_17 : decode cL_addPeg 17 = .ok (.astore 4, 2) := by decide +kernel
theorem dL_addPeg_19 : decode cL_addPeg 19 = .ok (.iconst 2, 1) := by decide +kernel
theorem dL_addPeg_20 : decode cL_addPeg 20 = .ok (.ireturn, 1) := by decide +kernel
theorem dL_addPeg_21 : decode cL_addPeg 21 = .ok (.iconst 0, 1) := by decide +kernel
theorem dL_addPeg_22 : decode cL_addPeg 22 = .ok (.ireturn, 1) := by decide +kernel
theorem dL_putGear_0 : decode cL_putGear 0 = .ok (.aload 4, 2) := by decide +kernel
theorem dL_putGear_2 : decode cL_putGear 2 = .ok (.iconst 0, 1) := by decide +kernel
theorem dL_putGear_3 : decode cL_putGear 3 = .ok (.aload_n 0, 1) := by decide +kernel
theorem dL_putGear_4 : decode cL_putGear 4 = .ok (.iload_n 1, 1) := by decide +kernel
theorem dL_putGear_5 : decode cL_putGear 5 = .ok (.iload_n 2, 1) := by decide +kernel
theorem dL_putGear_6 : decode cL_putGear 6 = .ok (.iload_n 3, 1) := by decide +kernel
theorem dL_putGear_7 : decode cL_putGear 7 = .ok (.invokevirtual 17, 3) := by decide +kernel
theorem dL_putGear_10 : decode cL_putGear 10 = .ok (.i2l, 1) := by decide +kernel
theorem dL_putGear_11 : decode cL_putGear 11 = .ok (.lastore, 1) := by decide +kernel
theorem dL_putGear_12 : decode cL_putGear 12 = .ok (.goto 15, 3) := by decide +kernel
theorem dL_putGear_15 : decode cL_putGear 15 = .ok (.astore 5, 2) := by decide +kernel
theorem dL_putGear_17 : decode cL_putGear 17 = .ok (.iconst 1, 1) := by decide +kernel
theorem dL_putGear_18 : decode cL_putGear 18 = .ok (.ireturn, 1) := by decide +kernel
theorem dL_putGear_19 : decode cL_putGear 19 = .ok (.astore 5, 2) := by decide +kernel
theorem dL_putGear_21 : decode cL_putGear 21 = .ok (.iconst 2, 1) := by decide +kernel
theorem dL_putGear_22 : decode cL_putGear 22 = .ok (.ireturn, 1) := by decide +kernel
theorem dL_putGear_23 : decode cL_putGear 23 = .ok (.astore 5, 2) := by decide +kernel
theorem dL_putGear_25 : decode cL_putGear 25 = .ok (.iconst 3, 1) := by decide +kernel
theorem dL_putGear_26 : decode cL_putGear 26 = .ok (.ireturn, 1) := by decide +kernel
theorem dL_putGear_27 : decode cL_putGear 27 = .ok (.iconst 0, 1) := by decide +kernel
theorem dL_putGear_28 : decode cL_putGear 28 = .ok (.ireturn, 1) := by decide +kernel
theorem dL_putRing_0 : decode cL_putRing 0 = .ok (.aload 4, 2) := by decide +kernel
theorem dL_putRing_2 : decode cL_putRing 2 = .ok (.iconst 0, 1) := by decide +kernel
theorem dL_putRing_3 : decode cL_putRing 3 = .ok (.aload_n 0, 1) := by decide +kernel
theorem dL_putRing_4 : decode cL_putRing 4 = .ok (.iload_n 1, 1) := by decide +kernel
theorem dL_putRing_5 : decode cL_putRing 5 = .ok (.iload_n 2, 1) := by decide +kernel
theorem dL_putRing_6 : decode cL_putRing 6 = .ok (.iload_n 3, 1) := by decide +kernel
theorem dL_putRing_7 : decode cL_putRing 7 = .ok (.invokevirtual 23, 3) := by decide +kernel
theorem dL_putRing_10 : decode cL_putRing 10 = .ok (.i2l, 1) := by decide +kernel
theorem dL_putRing_11 : decode cL_putRing 11 = .ok (.lastore, 1) := by decide +kernel
theorem dL_putRing_12 : decode cL_putRing 12 = .ok (.goto 15, 3) := by decide +kernel
theorem dL_putRing_15 : decode cL_putRing 15 = .ok (.astore 5, 2) := by decide +kernel
theorem dL_putRing_17 : decode cL_putRing 17 = .ok (.iconst 1, 1) := by decide +kernel
theorem dL_putRing_18 : decode cL_putRing 18 = .ok (.ireturn, 1) := by decide +kernel
theorem dL_putRing_19 : decode cL_putRing 19 = .ok (.astore 5, 2) := by decide +kernel
theorem dL_putRing_21 : decode cL_putRing 21 = .ok (.iconst 2, 1) := by decide +kernel
theorem dL_putRing_22 : decode cL_putRing 22 = .ok (.ireturn, 1) := by decide +kernel
theorem dL_putRing_23 : decode cL_putRing 23 = .ok (.astore 5, 2) := by decide +kernel
theorem dL_putRing_25 : decode cL_putRing 25 = .ok (.iconst 3, 1) := by decide +kernel
theorem dL_putRing_26 : decode cL_putRing 26 = .ok (.ireturn, 1) := by decide +kernel
theorem dL_putRing_27 : decode cL_putRing 27 = .ok (.iconst 0, 1) := by decide +kernel
theorem dL_putRing_28 : decode cL_putRing 28 = .ok (.ireturn, 1) := by decide +kernel
theorem dL_move_0 : decode cL_move 0 = .ok (.aload 4, 2) := by decide +kernel
theorem dL_move_2 : decode cL_move 2 = .ok (.iconst 0, 1) := by decide +kernel
theorem dL_move_3 : decode cL_move 3 = .ok (.aload_n 0, 1) := by decide +kernel
theorem dL_move_4 : decode cL_move 4 = .ok (.iload_n 1, 1) := by decide +kernel
theorem dL_move_5 : decode cL_move 5 = .ok (.iload_n 2, 1) := by decide +kernel
theorem dL_move_6 : decode cL_move 6 = .ok (.iload_n 3, 1) := by decide +kernel
theorem dL_move_7 : decode cL_move 7 = .ok (.invokevirtual 26, 3) := by decide +kernel
theorem dL_move_10 : decode cL_move 10 = .ok (.i2l, 1) := by decide +kernel
theorem dL_move_11 : decode cL_move 11 = .ok (.lastore, 1) := by decide +kernel
theorem dL_move_12 : decode cL_move 12 = .ok (.goto 15, 3) := by decide +kernel
theorem dL_move_15 : decode cL_move 15 = .ok (.astore 5, 2) := by decide +kernel
theorem dL_move_17 : decode cL_move 17 = .ok (.iconst 1, 1) := by decide +kernel
theorem dL_move_18 : decode cL_move 18 = .ok (.ireturn, 1) := by decide +kernel
theorem dL_move_19 : decode cL_move 19 = .ok (.astore 5, 2) := by decide +kernel
theorem dL_move_21 : decode cL_move 21 = .ok (.iconst 2, 1) := by decide +kernel
theorem dL_move_22 : decode cL_move 22 = .ok (.ireturn, 1) := by decide +kernel
theorem dL_move_23 : decode cL_move 23 = .ok (.astore 5, 2) := by decide +kernel
theorem dL_move_25 : decode cL_move 25 = .ok (.iconst 3, 1) := by decide +kernel
theorem dL_move_26 : decode cL_move 26 = .ok (.ireturn, 1) := by decide +kernel
theorem dL_move_27 : decode cL_move 27 = .ok (.iconst 0, 1) := by decide +kernel
theorem dL_move_28 : decode cL_move 28 = .ok (.ireturn, 1) := by decide +kernel
theorem dL_flip_0 : decode cL_flip 0 = .ok (.aload_n 2, 1) := by decide +kernel
theorem dL_flip_1 : decode cL_flip 1 = .ok (.iconst 0, 1) := by decide +kernel
theorem dL_flip_2 : decode cL_flip 2 = .ok (.aload_n 0, 1) := by decide +kernel
theorem dL_flip_3 : decode cL_flip 3 = .ok (.iload_n 1, 1) := by decide +kernel
theorem dL_flip_4 : decode cL_flip 4 = .ok (.invokevirtual 29, 3) := by decide +kernel
theorem dL_flip_7 : decode cL_flip 7 = .ok (.i2l, 1) := by decide +kernel
theorem dL_flip_8 : decode cL_flip 8 = .ok (.lastore, 1) := by decide +kernel
theorem dL_flip_9 : decode cL_flip 9 = .ok (.goto 9, 3) := by decide +kernel
theorem dL_flip_12 : decode cL_flip 12 = .ok (.astore_n 3, 1) := by decide +kernel
theorem dL_flip_13 : decode cL_flip 13 = .ok (.iconst 1, 1) := by decide +kernel
theorem dL_flip_14 : decode cL_flip 14 = .ok (.ireturn, 1) := by decide +kernel
theorem dL_flip_15 : decode cL_flip 15 = .ok (.astore_n 3, 1) := by decide +kernel
theorem dL_flip_16 : decode cL_flip 16 = .ok (.iconst 2, 1) := by decide +kernel
theorem dL_flip_17 : decode cL_flip 17 = .ok (.ireturn, 1) := by decide +kernel
theorem dL_flip_18 : decode cL_flip 18 = .ok (.iconst 0, 1) := by decide +kernel
theorem dL_flip_19 : decode cL_flip 19 = .ok (.ireturn, 1) := by decide +kernel
theorem dL_drive_0 : decode cL_drive 0 = .ok (.aload_n 2, 1) := by decide +kernel
theorem dL_drive_1 : decode cL_drive 1 = .ok (.iconst 0, 1) := by decide +kernel
theorem dL_drive_2 : decode cL_drive 2 = .ok (.aload_n 0, 1) := by decide +kernel
theorem dL_drive_3 : decode cL_drive 3 = .ok (.iload_n 1, 1) := by decide +kernel
theorem dL_drive_4 : decode cL_drive 4 = .ok (.invokevirtual 33, 3) := by decide +kernel
theorem dL_drive_7 : decode cL_drive 7 = .ok (.i2l, 1) := by decide +kernel
theorem dL_drive_8 : decode cL_drive 8 = .ok (.lastore, 1) := by decide +kernel
theorem dL_drive_9 : decode cL_drive 9 = .ok (.goto 6, 3) := by decide +kernel
theorem dL_drive_12 : decode cL_drive 12 = .ok (.astore_n 3, 1) := by decide +kernel
theorem dL_drive_13 : decode cL_drive 13 = .ok (.iconst 1, 1) := by decide +kernel
theorem dL_drive_14 : decode cL_drive 14 = .ok (.ireturn, 1) := by decide +kernel
theorem dL_drive_15 : decode cL_drive 15 = .ok (.iconst 0, 1) := by decide +kernel
theorem dL_drive_16 : decode cL_drive 16 = .ok (.ireturn, 1) := by decide +kernel
theorem dL_goal_0 : decode cL_goal 0 = .ok (.aload 4, 2) := by decide +kernel
theorem dL_goal_2 : decode cL_goal 2 = .ok (.iconst 0, 1) := by decide +kernel
theorem dL_goal_3 : decode cL_goal 3 = .ok (.aload_n 0, 1) := by decide +kernel
theorem dL_goal_4 : decode cL_goal 4 = .ok (.iload_n 1, 1) := by decide +kernel
theorem dL_goal_5 : decode cL_goal 5 = .ok (.iload_n 2, 1) := by decide +kernel
theorem dL_goal_6 : decode cL_goal 6 = .ok (.iload_n 3, 1) := by decide +kernel
theorem dL_goal_7 : decode cL_goal 7 = .ok (.invokevirtual 36, 3) := by decide +kernel
theorem dL_goal_10 : decode cL_goal 10 = .ok (.i2l, 1) := by decide +kernel
theorem dL_goal_11 : decode cL_goal 11 = .ok (.lastore, 1) := by decide +kernel
theorem dL_goal_12 : decode cL_goal 12 = .ok (.goto 11, 3) := by decide +kernel
theorem dL_goal_15 : decode cL_goal 15 = .ok (.astore 5, 2) := by decide +kernel
theorem dL_goal_17 : decode cL_goal 17 = .ok (.iconst 1, 1) := by decide +kernel
theorem dL_goal_18 : decode cL_goal 18 = .ok (.ireturn, 1) := by decide +kernel
theorem dL_goal_19 : decode cL_goal 19 = .ok (.astore 5, 2) := by decide +kernel
theorem dL_goal_21 : decode cL_goal 21 = .ok (.iconst 2, 1) := by decide +kernel
theorem dL_goal_22 : decode cL_goal 22 = .ok (.ireturn, 1) := by decide +kernel
theorem dL_goal_23 : decode cL_goal 23 = .ok (.iconst 0, 1) := by decide +kernel
theorem dL_goal_24 : decode cL_goal 24 = .ok (.ireturn, 1) := by decide +kernel
theorem dL_set_0 : decode cL_set 0 = .ok (.aload_n 2, 1) := by decide +kernel
theorem dL_set_1 : decode cL_set 1 = .ok (.iconst 0, 1) := by decide +kernel
theorem dL_set_2 : decode cL_set 2 = .ok (.aload_n 0, 1) := by decide +kernel
theorem dL_set_3 : decode cL_set 3 = .ok (.iload_n 1, 1) := by decide +kernel
theorem dL_set_4 : decode cL_set 4 = .ok (.invokevirtual 39, 3) := by decide +kernel
theorem dL_set_7 : decode cL_set 7 = .ok (.i2l, 1) := by decide +kernel
theorem dL_set_8 : decode cL_set 8 = .ok (.lastore, 1) := by decide +kernel
theorem dL_set_9 : decode cL_set 9 = .ok (.goto 6, 3) := by decide +kernel
theorem dL_set_12 : decode cL_set 12 = .ok (.astore_n 3, 1) := by decide +kernel
theorem dL_set_13 : decode cL_set 13 = .ok (.iconst 1, 1) := by decide +kernel
theorem dL_set_14 : decode cL_set 14 = .ok (.ireturn, 1) := by decide +kernel
theorem dL_set_15 : decode cL_set 15 = .ok (.iconst 0, 1) := by decide +kernel
theorem dL_set_16 : decode cL_set 16 = .ok (.ireturn, 1) := by decide +kernel
theorem dL_append_0 : decode cL_append 0 = .ok (.aload_n 2, 1) := by decide +kernel
theorem dL_append_1 : decode cL_append 1 = .ok (.iconst 0, 1) := by decide +kernel
theorem dL_append_2 : decode cL_append 2 = .ok (.aload_n 0, 1) := by decide +kernel
theorem dL_append_3 : decode cL_append 3 = .ok (.iload_n 1, 1) := by decide +kernel
theorem dL_append_4 : decode cL_append 4 = .ok (.invokevirtual 42, 3) := by decide +kernel
theorem dL_append_7 : decode cL_append 7 = .ok (.i2l, 1) := by decide +kernel
theorem dL_append_8 : decode cL_append 8 = .ok (.lastore, 1) := by decide +kernel
theorem dL_append_9 : decode cL_append 9 = .ok (.goto 9, 3) := by decide +kernel
theorem dL_append_12 : decode cL_append 12 = .ok (.astore_n 3, 1) := by decide +kernel
theorem dL_append_13 : decode cL_append 13 = .ok (.iconst 1, 1) := by decide +kernel
theorem dL_append_14 : decode cL_append 14 = .ok (.ireturn, 1) := by decide +kernel
theorem dL_append_15 : decode cL_append 15 = .ok (.astore_n 3, 1) := by decide +kernel
theorem dL_append_16 : decode cL_append 16 = .ok (.iconst 2, 1) := by decide +kernel
theorem dL_append_17 : decode cL_append 17 = .ok (.ireturn, 1) := by decide +kernel
theorem dL_append_18 : decode cL_append 18 = .ok (.iconst 0, 1) := by decide +kernel
theorem dL_append_19 : decode cL_append 19 = .ok (.ireturn, 1) := by decide +kernel
theorem dL_build_0 : decode cL_build 0 = .ok (.aload_n 1, 1) := by decide +kernel
theorem dL_build_1 : decode cL_build 1 = .ok (.iconst 0, 1) := by decide +kernel
theorem dL_build_2 : decode cL_build 2 = .ok (.aload_n 0, 1) := by decide +kernel
theorem dL_build_3 : decode cL_build 3 = .ok (.invokevirtual 45, 3) := by decide +kernel
theorem dL_build_6 : decode cL_build 6 = .ok (.i2l, 1) := by decide +kernel
theorem dL_build_7 : decode cL_build 7 = .ok (.lastore, 1) := by decide +kernel
theorem dL_build_8 : decode cL_build 8 = .ok (.goto 6, 3) := by decide +kernel
theorem dL_build_11 : decode cL_build 11 = .ok (.astore_n 2, 1) := by decide +kernel
theorem dL_build_12 : decode cL_build 12 = .ok (.iconst 1, 1) := by decide +kernel
theorem dL_build_13 : decode cL_build 13 = .ok (.ireturn, 1) := by decide +kernel
theorem dL_build_14 : decode cL_build 14 = .ok (.iconst 0, 1) := by decide +kernel
theorem dL_build_15 : decode cL_build 15 = .ok (.ireturn, 1) := by decide +kernel
theorem dL_undo_0 : decode cL_undo 0 = .ok (.aload_n 1, 1) := by decide +kernel
theorem dL_undo_1 : decode cL_undo 1 = .ok (.iconst 0, 1) := by decide +kernel
theorem dL_undo_2 : decode cL_undo 2 = .ok (.aload_n 0, 1) := by decide +kernel
theorem dL_undo_3 : decode cL_undo 3 = .ok (.invokevirtual 49, 3) := by decide +kernel
theorem dL_undo_6 : decode cL_undo 6 = .ok (.i2l, 1) := by decide +kernel
theorem dL_undo_7 : decode cL_undo 7 = .ok (.lastore, 1) := by decide +kernel
theorem dL_undo_8 : decode cL_undo 8 = .ok (.goto 6, 3) := by decide +kernel
theorem dL_undo_11 : decode cL_undo 11 = .ok (.astore_n 2, 1) := by decide +kernel
theorem dL_undo_12 : decode cL_undo 12 = .ok (.iconst 1, 1) := by decide +kernel
theorem dL_undo_13 : decode cL_undo 13 = .ok (.ireturn, 1) := by decide +kernel
theorem dL_undo_14 : decode cL_undo 14 = .ok (.iconst 0, 1) := by decide +kernel
theorem dL_undo_15 : decode cL_undo 15 = .ok (.ireturn, 1) := by decide +kernel
theorem dL_peg_0 : decode cL_peg 0 = .ok (.aload_n 3, 1) := by decide +kernel
theorem dL_peg_1 : decode cL_peg 1 = .ok (.iconst 0, 1) := by decide +kernel
theorem dL_peg_2 : decode cL_peg 2 = .ok (.aload_n 0, 1) := by decide +kernel
theorem dL_peg_3 : decode cL_peg 3 = .ok (.iload_n 1, 1) := by decide +kernel
theorem dL_peg_4 : decode cL_peg 4 = .ok (.iload_n 2, 1) := by decide +kernel
theorem dL_peg_5 : decode cL_peg 5 = .ok (.invokevirtual 52, 3) := by decide +kernel
theorem dL_peg_8 : decode cL_peg 8 = .ok (.i2l, 1) := by decide +kernel
theorem dL_peg_9 : decode cL_peg 9 = .ok (.lastore, 1) := by decide +kernel
theorem dL_peg_10 : decode cL_peg 10 = .ok (.goto 11, 3) := by decide +kernel
theorem dL_peg_13 : decode cL_peg 13 = .ok (.astore 4, 2) := by decide +kernel
theorem dL_peg_15 : decode cL_peg 15 = .ok (.iconst 1, 1) := by decide +kernel
theorem dL_peg_16 : decode cL_peg 16 = .ok (.ireturn, 1) := by decide +kernel
theorem dL_peg_17 : decode cL_peg 17 = .ok (.astore 4, 2) := by decide +kernel
theorem dL_peg_19 : decode cL_peg 19 = .ok (.iconst 2, 1) := by decide +kernel
theorem dL_peg_20 : decode cL_peg 20 = .ok (.ireturn, 1) := by decide +kernel
theorem dL_peg_21 : decode cL_peg 21 = .ok (.iconst 0, 1) := by decide +kernel
theorem dL_peg_22 : decode cL_peg 22 = .ok (.ireturn, 1) := by decide +kernel
theorem dL_speed_0 : decode cL_speed 0 = .ok (.aload_n 3, 1) := by decide +kernel
theorem dL_speed_1 : decode cL_speed 1 = .ok (.iconst 0, 1) := by decide +kernel
theorem dL_speed_2 : decode cL_speed 2 = .ok (.aload_n 0, 1) := by decide +kernel
theorem dL_speed_3 : decode cL_speed 3 = .ok (.iload_n 1, 1) := by decide +kernel
theorem dL_speed_4 : decode cL_speed 4 = .ok (.iload_n 2, 1) := by decide +kernel
theorem dL_speed_5 : decode cL_speed 5 = .ok (.invokevirtual 55, 3) := by decide +kernel
theorem dL_speed_8 : decode cL_speed 8 = .ok (.lastore, 1) := by decide +kernel
theorem dL_speed_9 : decode cL_speed 9 = .ok (.goto 11, 3) := by decide +kernel
theorem dL_speed_12 : decode cL_speed 12 = .ok (.astore 4, 2) := by decide +kernel
theorem dL_speed_14 : decode cL_speed 14 = .ok (.iconst 1, 1) := by decide +kernel
theorem dL_speed_15 : decode cL_speed 15 = .ok (.ireturn, 1) := by decide +kernel
theorem dL_speed_16 : decode cL_speed 16 = .ok (.astore 4, 2) := by decide +kernel
theorem dL_speed_18 : decode cL_speed 18 = .ok (.iconst 2, 1) := by decide +kernel
theorem dL_speed_19 : decode cL_speed 19 = .ok (.ireturn, 1) := by decide +kernel
theorem dL_speed_20 : decode cL_speed 20 = .ok (.iconst 0, 1) := by decide +kernel
theorem dL_speed_21 : decode cL_speed 21 = .ok (.ireturn, 1) := by decide +kernel
theorem dL_meshes_0 : decode cL_meshes 0 = .ok (.aload_n 3, 1) := by decide +kernel
theorem dL_meshes_1 : decode cL_meshes 1 = .ok (.iconst 0, 1) := by decide +kernel
theorem dL_meshes_2 : decode cL_meshes 2 = .ok (.aload_n 0, 1) := by decide +kernel
theorem dL_meshes_3 : decode cL_meshes 3 = .ok (.iload_n 1, 1) := by decide +kernel
theorem dL_meshes_4 : decode cL_meshes 4 = .ok (.iload_n 2, 1) := by decide +kernel
theorem dL_meshes_5 : decode cL_meshes 5 = .ok (.invokevirtual 59, 3) := by decide +kernel
theorem dL_meshes_8 : decode cL_meshes 8 = .ok (.i2l, 1) := by decide +kernel
theorem dL_meshes_9 : decode cL_meshes 9 = .ok (.lastore, 1) := by decide +kernel
theorem dL_meshes_10 : decode cL_meshes 10 = .ok (.goto 7, 3) := by decide +kernel
theorem dL_meshes_13 : decode cL_meshes 13 = .ok (.astore 4, 2) := by decide +kernel
theorem dL_meshes_15 : decode cL_meshes 15 = .ok (.iconst 1, 1) := by decide +kernel
theorem dL_meshes_16 : decode cL_meshes 16 = .ok (.ireturn, 1) := by decide +kernel
theorem dL_meshes_17 : decode cL_meshes 17 = .ok (.iconst 0, 1) := by decide +kernel
theorem dL_meshes_18 : decode cL_meshes 18 = .ok (.ireturn, 1) := by decide +kernel
theorem dL_train_0 : decode cL_train 0 = .ok (.aload 4, 2) := by decide +kernel
theorem dL_train_2 : decode cL_train 2 = .ok (.iconst 0, 1) := by decide +kernel
theorem dL_train_3 : decode cL_train 3 = .ok (.aload_n 0, 1) := by decide +kernel
theorem dL_train_4 : decode cL_train 4 = .ok (.iload_n 1, 1) := by decide +kernel
theorem dL_train_5 : decode cL_train 5 = .ok (.iload_n 2, 1) := by decide +kernel
theorem dL_train_6 : decode cL_train 6 = .ok (.iload_n 3, 1) := by decide +kernel
theorem dL_train_7 : decode cL_train 7 = .ok (.invokevirtual 62, 3) := by decide +kernel
theorem dL_train_10 : decode cL_train 10 = .ok (.i2l, 1) := by decide +kernel
theorem dL_train_11 : decode cL_train 11 = .ok (.lastore, 1) := by decide +kernel
theorem dL_train_12 : decode cL_train 12 = .ok (.goto 11, 3) := by decide +kernel
theorem dL_train_15 : decode cL_train 15 = .ok (.astore 5, 2) := by decide +kernel
theorem dL_train_17 : decode cL_train 17 = .ok (.iconst 1, 1) := by decide +kernel
theorem dL_train_18 : decode cL_train 18 = .ok (.ireturn, 1) := by decide +kernel
theorem dL_train_19 : decode cL_train 19 = .ok (.astore 5, 2) := by decide +kernel
theorem dL_train_21 : decode cL_train 21 = .ok (.iconst 2, 1) := by decide +kernel
theorem dL_train_22 : decode cL_train 22 = .ok (.ireturn, 1) := by decide +kernel
theorem dL_train_23 : decode cL_train 23 = .ok (.iconst 0, 1) := by decide +kernel
theorem dL_train_24 : decode cL_train 24 = .ok (.ireturn, 1) := by decide +kernel
theorem dL_ratio_0 : decode cL_ratio 0 = .ok (.aload 4, 2) := by decide +kernel
theorem dL_ratio_2 : decode cL_ratio 2 = .ok (.iconst 0, 1) := by decide +kernel
theorem dL_ratio_3 : decode cL_ratio 3 = .ok (.aload_n 0, 1) := by decide +kernel
theorem dL_ratio_4 : decode cL_ratio 4 = .ok (.iload_n 1, 1) := by decide +kernel
theorem dL_ratio_5 : decode cL_ratio 5 = .ok (.iload_n 2, 1) := by decide +kernel
theorem dL_ratio_6 : decode cL_ratio 6 = .ok (.iload_n 3, 1) := by decide +kernel
theorem dL_ratio_7 : decode cL_ratio 7 = .ok (.invokevirtual 65, 3) := by decide +kernel
theorem dL_ratio_10 : decode cL_ratio 10 = .ok (.lastore, 1) := by decide +kernel
theorem dL_ratio_11 : decode cL_ratio 11 = .ok (.goto 11, 3) := by decide +kernel
theorem dL_ratio_14 : decode cL_ratio 14 = .ok (.astore 5, 2) := by decide +kernel
theorem dL_ratio_16 : decode cL_ratio 16 = .ok (.iconst 1, 1) := by decide +kernel
theorem dL_ratio_17 : decode cL_ratio 17 = .ok (.ireturn, 1) := by decide +kernel
theorem dL_ratio_18 : decode cL_ratio 18 = .ok (.astore 5, 2) := by decide +kernel
theorem dL_ratio_20 : decode cL_ratio 20 = .ok (.iconst 2, 1) := by decide +kernel
theorem dL_ratio_21 : decode cL_ratio 21 = .ok (.ireturn, 1) := by decide +kernel
theorem dL_ratio_22 : decode cL_ratio 22 = .ok (.iconst 0, 1) := by decide +kernel
theorem dL_ratio_23 : decode cL_ratio 23 = .ok (.ireturn, 1) := by decide +kernel
theorem dL_count_0 : decode cL_count 0 = .ok (.aload_n 2, 1) := by decide +kernel
theorem dL_count_1 : decode cL_count 1 = .ok (.iconst 0, 1) := by decide +kernel
theorem dL_count_2 : decode cL_count 2 = .ok (.aload_n 0, 1) := by decide +kernel
theorem dL_count_3 : decode cL_count 3 = .ok (.iload_n 1, 1) := by decide +kernel
theorem dL_count_4 : decode cL_count 4 = .ok (.invokevirtual 69, 3) := by decide +kernel
theorem dL_count_7 : decode cL_count 7 = .ok (.i2l, 1) := by decide +kernel
theorem dL_count_8 : decode cL_count 8 = .ok (.lastore, 1) := by decide +kernel
theorem dL_count_9 : decode cL_count 9 = .ok (.goto 6, 3) := by decide +kernel
theorem dL_count_12 : decode cL_count 12 = .ok (.astore_n 3, 1) := by decide +kernel
theorem dL_count_13 : decode cL_count 13 = .ok (.iconst 1, 1) := by decide +kernel
theorem dL_count_14 : decode cL_count 14 = .ok (.ireturn, 1) := by decide +kernel
theorem dL_count_15 : decode cL_count 15 = .ok (.iconst 0, 1) := by decide +kernel
theorem dL_count_16 : decode cL_count 16 = .ok (.ireturn, 1) := by decide +kernel
theorem dL_ifPut_0 : decode cL_ifPut 0 = .ok (.aload 5, 2) := by decide +kernel
theorem dL_ifPut_2 : decode cL_ifPut 2 = .ok (.iconst 0, 1) := by decide +kernel
theorem dL_ifPut_3 : decode cL_ifPut 3 = .ok (.aload_n 0, 1) := by decide +kernel
theorem dL_ifPut_4 : decode cL_ifPut 4 = .ok (.iload_n 1, 1) := by decide +kernel
theorem dL_ifPut_5 : decode cL_ifPut 5 = .ok (.iload_n 2, 1) := by decide +kernel
theorem dL_ifPut_6 : decode cL_ifPut 6 = .ok (.iload_n 3, 1) := by decide +kernel
theorem dL_ifPut_7 : decode cL_ifPut 7 = .ok (.iload 4, 2) := by decide +kernel
theorem dL_ifPut_9 : decode cL_ifPut 9 = .ok (.invokevirtual 72, 3) := by decide +kernel
theorem dL_ifPut_12 : decode cL_ifPut 12 = .ok (.i2l, 1) := by decide +kernel
theorem dL_ifPut_13 : decode cL_ifPut 13 = .ok (.lastore, 1) := by decide +kernel
theorem dL_ifPut_14 : decode cL_ifPut 14 = .ok (.goto 11, 3) := by decide +kernel
theorem dL_ifPut_17 : decode cL_ifPut 17 = .ok (.astore 6, 2) := by decide +kernel
theorem dL_ifPut_19 : decode cL_ifPut 19 = .ok (.iconst 1, 1) := by decide +kernel
theorem dL_ifPut_20 : decode cL_ifPut 20 = .ok (.ireturn, 1) := by decide +kernel
theorem dL_ifPut_21 : decode cL_ifPut 21 = .ok (.astore 6, 2) := by decide +kernel
theorem dL_ifPut_23 : decode cL_ifPut 23 = .ok (.iconst 2, 1) := by decide +kernel
theorem dL_ifPut_24 : decode cL_ifPut 24 = .ok (.ireturn, 1) := by decide +kernel
theorem dL_ifPut_25 : decode cL_ifPut 25 = .ok (.iconst 0, 1) := by decide +kernel
theorem dL_ifPut_26 : decode cL_ifPut 26 = .ok (.ireturn, 1) := by decide +kernel
theorem dL_solution_0 : decode cL_solution 0 = .ok (.aload_n 2, 1) := by decide +kernel
theorem dL_solution_1 : decode cL_solution 1 = .ok (.iconst 0, 1) := by decide +kernel
theorem dL_solution_2 : decode cL_solution 2 = .ok (.aload_n 0, 1) := by decide +kernel
theorem dL_solution_3 : decode cL_solution 3 = .ok (.iload_n 1, 1) := by decide +kernel
theorem dL_solution_4 : decode cL_solution 4 = .ok (.invokevirtual 76, 3) := by decide +kernel
theorem dL_solution_7 : decode cL_solution 7 = .ok (.i2l, 1) := by decide +kernel
theorem dL_solution_8 : decode cL_solution 8 = .ok (.lastore, 1) := by decide +kernel
theorem dL_solution_9 : decode cL_solution 9 = .ok (.goto 6, 3) := by decide +kernel
theorem dL_solution_12 : decode cL_solution 12 = .ok (.astore_n 3, 1) := by decide +kernel
theorem dL_solution_13 : decode cL_solution 13 = .ok (.iconst 1, 1) := by decide +kernel
theorem dL_solution_14 : decode cL_solution 14 = .ok (.ireturn, 1) := by decide +kernel
theorem dL_solution_15 : decode cL_solution 15 = .ok (.iconst 0, 1) := by decide +kernel
theorem dL_solution_16 : decode cL_solution 16 = .ok (.ireturn, 1) := by decide +kernel
theorem dL_law_0 : decode cL_law 0 = .ok (.new 8, 3) := by decide +kernel
theorem dL_law_3 : decode cL_law 3 = .ok (.dup, 1) := by decide +kernel
theorem dL_law_4 : decode cL_law 4 = .ok (.invokespecial 79, 3) := by decide +kernel
theorem dL_law_7 : decode cL_law 7 = .ok (.astore_n 1, 1) := by decide +kernel
theorem dL_law_8 : decode cL_law 8 = .ok (.new 80, 3) := by decide +kernel
theorem dL_law_11 : decode cL_law 11 = .ok (.dup, 1) := by decide +kernel
theorem dL_law_12 : decode cL_law 12 = .ok (.invokespecial 82, 3) := by decide +kernel
theorem dL_law_15 : decode cL_law 15 = .ok (.astore_n 2, 1) := by decide +kernel
theorem dL_law_16 : decode cL_law 16 = .ok (.iconst 1, 1) := by decide +kernel
theorem dL_law_17 : decode cL_law 17 = .ok (.newarray .long, 2) := by decide +kernel
theorem dL_law_19 : decode cL_law 19 = .ok (.astore_n 3, 1) := by decide +kernel
theorem dL_law_20 : decode cL_law 20 = .ok (.iconst 0, 1) := by decide +kernel
theorem dL_law_21 : decode cL_law 21 = .ok (.istore 4, 2) := by decide +kernel
theorem dL_law_23 : decode cL_law 23 = .ok (.iload 4, 2) := by decide +kernel
theorem dL_law_25 : decode cL_law 25 = .ok (.aload_n 0, 1) := by decide +kernel
theorem dL_law_26 : decode cL_law 26 = .ok (.arraylength, 1) := by decide +kernel
theorem dL_law_27 : decode cL_law 27 = .ok (.iconst 5, 1) := by decide +kernel
theorem dL_law_28 : decode cL_law 28 = .ok (.isub, 1) := by decide +kernel
theorem dL_law_29 : decode cL_law 29 = .ok (.if_icmp .gt 1503, 3) := by decide +kernel
theorem dL_law_32 : decode cL_law 32 = .ok (.aload_n 0, 1) := by decide +kernel
theorem dL_law_33 : decode cL_law 33 = .ok (.iload 4, 2) := by decide +kernel
theorem dL_law_35 : decode cL_law 35 = .ok (.iaload, 1) := by decide +kernel
theorem dL_law_36 : decode cL_law 36 = .ok (.bipush 31, 2) := by decide +kernel
theorem dL_law_38 : decode cL_law 38 = .ok (.iand, 1) := by decide +kernel
theorem dL_law_39 : decode cL_law 39 = .ok (.tableswitch 1487 0 24 #[113, 181, 261, 341, 421, 477, 533, 613, 669, 725, 738, 751, 795, 839, 907, 974, 1042, 1122, 1201, 1215, 1271, 1363, 1419, 1432, 1473], 113) := by decide +kernel
theorem dL_law_152 : decode cL_law 152 = .ok (.aload_n 1, 1) := by decide +kernel
theorem dL_law_153 : decode cL_law 153 = .ok (.aload_n 0, 1) := by decide +kernel
theorem dL_law_154 : decode cL_law 154 = .ok (.iload 4, 2) := by decide +kernel
theorem dL_law_156 : decode cL_law 156 = .ok (.iconst 1, 1) := by decide +kernel
theorem dL_law_157 : decode cL_law 157 = .ok (.iadd, 1) := by decide +kernel
theorem dL_law_158 : decode cL_law 158 = .ok (.iaload, 1) := by decide +kernel
theorem dL_law_159 : decode cL_law 159 = .ok (.aload_n 0, 1) := by decide +kernel
theorem dL_law_160 : decode cL_law 160 = .ok (.iload 4, 2) := by decide +kernel
theorem dL_law_162 : decode cL_law 162 = .ok (.iconst 2, 1) := by decide +kernel
theorem dL_law_163 : decode cL_law 163 = .ok (.iadd, 1) := by decide +kernel
theorem dL_law_164 : decode cL_law 164 = .ok (.iaload, 1) := by decide +kernel
theorem dL_law_165 : decode cL_law 165 = .ok (.aload_n 3, 1) := by decide +kernel
theorem dL_law_166 : decode cL_law 166 = .ok (.invokestatic 83, 3) := by decide +kernel
theorem dL_law_169 : decode cL_law 169 = .ok (.istore 5, 2) := by decide +kernel
theorem dL_law_171 : decode cL_law 171 = .ok (.aload_n 2, 1) := by decide +kernel
theorem dL_law_172 : decode cL_law 172 = .ok (.aload_n 0, 1) := by decide +kernel
theorem dL_law_173 : decode cL_law 173 = .ok (.iload 4, 2) := by decide +kernel
theorem dL_law_175 : decode cL_law 175 = .ok (.iconst 1, 1) := by decide +kernel
theorem dL_law_176 : decode cL_law 176 = .ok (.iadd, 1) := by decide +kernel
theorem dL_law_177 : decode cL_law 177 = .ok (.iaload, 1) := by decide +kernel
theorem dL_law_178 : decode cL_law 178 = .ok (.aload_n 0, 1) := by decide +kernel
theorem dL_law_179 : decode cL_law 179 = .ok (.iload 4, 2) := by decide +kernel
theorem dL_law_181 : decode cL_law 181 = .ok (.iconst 2, 1) := by decide +kernel
theorem dL_law_182 : decode cL_law 182 = .ok (.iadd, 1) := by decide +kernel
theorem dL_law_183 : decode cL_law 183 = .ok (.iaload, 1) := by decide +kernel
theorem dL_law_184 : decode cL_law 184 = .ok (.invokevirtual 88, 3) := by decide +kernel
theorem dL_law_187 : decode cL_law 187 = .ok (.istore 6, 2) := by decide +kernel
theorem dL_law_189 : decode cL_law 189 = .ok (.aload_n 2, 1) := by decide +kernel
theorem dL_law_190 : decode cL_law 190 = .ok (.invokevirtual 89, 3) := by decide +kernel
theorem dL_law_193 : decode cL_law 193 = .ok (.iload 5, 2) := by decide +kernel
theorem dL_law_195 : decode cL_law 195 = .ok (.if_icmp .eq 5, 3) := by decide +kernel
theorem dL_law_198 : decode cL_law 198 = .ok (.iconst 0, 1) := by decide +kernel
theorem dL_law_199 : decode cL_law 199 = .ok (.ireturn, 1) := by decide +kernel
theorem dL_law_200 : decode cL_law 200 = .ok (.iload 5, 2) := by decide +kernel
theorem dL_law_202 : decode cL_law 202 = .ok (.ifCond .ne 15, 3) := by decide +kernel
theorem dL_law_205 : decode cL_law 205 = .ok (.aload_n 3, 1) := by decide +kernel
theorem dL_law_206 : decode cL_law 206 = .ok (.iconst 0, 1) := by decide +kernel
theorem dL_law_207 : decode cL_law 207 = .ok (.laload, 1) := by decide +kernel
theorem dL_law_208 : decode cL_law 208 = .ok (.iload 6, 2) := by decide +kernel
theorem dL_law_210 : decode cL_law 210 = .ok (.i2l, 1) := by decide +kernel
theorem dL_law_211 : decode cL_law 211 = .ok (.lcmp, 1) := by decide +kernel
theorem dL_law_212 : decode cL_law 212 = .ok (.ifCond .eq 5, 3) := by decide +kernel
theorem dL_law_215 : decode cL_law 215 = .ok (.iconst 0, 1) := by decide +kernel
theorem dL_law_216 : decode cL_law 216 = .ok (.ireturn, 1) := by decide +kernel
theorem dL_law_217 : decode cL_law 217 = .ok (.goto 1309, 3) := by decide +kernel
theorem dL_law_220 : decode cL_law 220 = .ok (.aload_n 1, 1) := by decide +kernel
theorem dL_law_221 : decode cL_law 221 = .ok (.aload_n 0, 1) := by decide +kernel
theorem dL_law_222 : decode cL_law 222 = .ok (.iload 4, 2) := by decide +kernel
theorem dL_law_224 : decode cL_law 224 = .ok (.iconst 1, 1) := by decide +kernel
theorem dL_law_225 : decode cL_law 225 = .ok (.iadd, 1) := by decide +kernel
theorem dL_law_226 : decode cL_law 226 = .ok (.iaload, 1) := by decide +kernel
theorem dL_law_227 : decode cL_law 227 = .ok (.aload_n 0, 1) := by decide +kernel
theorem dL_law_228 : decode cL_law 228 = .ok (.iload 4, 2) := by decide +kernel
theorem dL_law_230 : decode cL_law 230 = .ok (.iconst 2, 1) := by decide +kernel
theorem dL_law_231 : decode cL_law 231 = .ok (.iadd, 1) := by decide +kernel
theorem dL_law_232 : decode cL_law 232 = .ok (.iaload, 1) := by decide +kernel
theorem dL_law_233 : decode cL_law 233 = .ok (.aload_n 0, 1) := by decide +kernel
theorem dL_law_234 : decode cL_law 234 = .ok (.iload 4, 2) := by decide +kernel
theorem dL_law_236 : decode cL_law 236 = .ok (.iconst 3, 1) := by decide +kernel
theorem dL_law_237 : decode cL_law 237 = .ok (.iadd, 1) := by decide +kernel
theorem dL_law_238 : decode cL_law 238 = .ok (.iaload, 1) := by decide +kernel
theorem dL_law_239 : decode cL_law 239 = .ok (.aload_n 3, 1) := by decide +kernel
theorem dL_law_240 : decode cL_law 240 = .ok (.invokestatic 92, 3) := by decide +kernel
theorem dL_law_243 : decode cL_law 243 = .ok (.istore 5, 2) := by decide +kernel
theorem dL_law_245 : decode cL_law 245 = .ok (.aload_n 2, 1) := by decide +kernel
theorem dL_law_246 : decode cL_law 246 = .ok (.aload_n 0, 1) := by decide +kernel
theorem dL_law_247 : decode cL_law 247 = .ok (.iload 4, 2) := by decide +kernel
theorem dL_law_249 : decode cL_law 249 = .ok (.iconst 1, 1) := by decide +kernel
theorem dL_law_250 : decode cL_law 250 = .ok (.iadd, 1) := by decide +kernel
theorem dL_law_251 : decode cL_law 251 = .ok (.iaload, 1) := by decide +kernel
theorem dL_law_252 : decode cL_law 252 = .ok (.aload_n 0, 1) := by decide +kernel
theorem dL_law_253 : decode cL_law 253 = .ok (.iload 4, 2) := by decide +kernel
theorem dL_law_255 : decode cL_law 255 = .ok (.iconst 2, 1) := by decide +kernel
theorem dL_law_256 : decode cL_law 256 = .ok (.iadd, 1) := by decide +kernel
theorem dL_law_257 : decode cL_law 257 = .ok (.iaload, 1) := by decide +kernel
theorem dL_law_258 : decode cL_law 258 = .ok (.aload_n 0, 1) := by decide +kernel
theorem dL_law_259 : decode cL_law 259 = .ok (.iload 4, 2) := by decide +kernel
theorem dL_law_261 : decode cL_law 261 = .ok (.iconst 3, 1) := by decide +kernel
theorem dL_law_262 : decode cL_law 262 = .ok (.iadd, 1) := by decide +kernel
theorem dL_law_263 : decode cL_law 263 = .ok (.iaload, 1) := by decide +kernel
theorem dL_law_264 : decode cL_law 264 = .ok (.invokevirtual 95, 3) := by decide +kernel
theorem dL_law_267 : decode cL_law 267 = .ok (.istore 6, 2) := by decide +kernel
theorem dL_law_269 : decode cL_law 269 = .ok (.aload_n 2, 1) := by decide +kernel
theorem dL_law_270 : decode cL_law 270 = .ok (.invokevirtual 89, 3) := by decide +kernel
theorem dL_law_273 : decode cL_law 273 = .ok (.iload 5, 2) := by decide +kernel
theorem dL_law_275 : decode cL_law 275 = .ok (.if_icmp .eq 5, 3) := by decide +kernel
theorem dL_law_278 : decode cL_law 278 = .ok (.iconst 0, 1) := by decide +kernel
theorem dL_law_279 : decode cL_law 279 = .ok (.ireturn, 1) := by decide +kernel
theorem dL_law_280 : decode cL_law 280 = .ok (.iload 5, 2) := by decide +kernel
theorem dL_law_282 : decode cL_law 282 = .ok (.ifCond .ne 15, 3) := by decide +kernel
theorem dL_law_285 : decode cL_law 285 = .ok (.aload_n 3, 1) := by decide +kernel
theorem dL_law_286 : decode cL_law 286 = .ok (.iconst 0, 1) := by decide +kernel
theorem dL_law_287 : decode cL_law 287 = .ok (.laload, 1) := by decide +kernel
theorem dL_law_288 : decode cL_law 288 = .ok (.iload 6, 2) := by decide +kernel
theorem dL_law_290 : decode cL_law 290 = .ok (.i2l, 1) := by decide +kernel
theorem dL_law_291 : decode cL_law 291 = .ok (.lcmp, 1) := by decide +kernel
theorem dL_law_292 : decode cL_law 292 = .ok (.ifCond .eq 5, 3) := by decide +kernel
theorem dL_law_295 : decode cL_law 295 = .ok (.iconst 0, 1) := by decide +kernel
theorem dL_law_296 : decode cL_law 296 = .ok (.ireturn, 1) := by decide +kernel
theorem dL_law_297 : decode cL_law 297 = .ok (.goto 1229, 3) := by decide +kernel
theorem dL_law_300 : decode cL_law 300 = .ok (.aload_n 1, 1) := by decide +kernel
theorem dL_law_301 : decode cL_law 301 = .ok (.aload_n 0, 1) := by decide +kernel
theorem dL_law_302 : decode cL_law 302 = .ok (.iload 4, 2) := by decide +kernel
theorem dL_law_304 : decode cL_law 304 = .ok (.iconst 1, 1) := by decide +kernel
theorem dL_law_305 : decode cL_law 305 = .ok (.iadd, 1) := by decide +kernel
theorem dL_law_306 : decode cL_law 306 = .ok (.iaload, 1) := by decide +kernel
theorem dL_law_307 : decode cL_law 307 = .ok (.aload_n 0, 1) := by decide +kernel
theorem dL_law_308 : decode cL_law 308 = .ok (.iload 4, 2) := by decide +kernel
theorem dL_law_310 : decode cL_law 310 = .ok (.iconst 2, 1) := by decide +kernel
theorem dL_law_311 : decode cL_law 311 = .ok (.iadd, 1) := by decide +kernel
theorem dL_law_312 : decode cL_law 312 = .ok (.iaload, 1) := by decide +kernel
theorem dL_law_313 : decode cL_law 313 = .ok (.aload_n 0, 1) := by decide +kernel
theorem dL_law_314 : decode cL_law 314 = .ok (.iload 4, 2) := by decide +kernel
theorem dL_law_316 : decode cL_law 316 = .ok (.iconst 3, 1) := by decide +kernel
theorem dL_law_317 : decode cL_law 317 = .ok (.iadd, 1) := by decide +kernel
theorem dL_law_318 : decode cL_law 318 = .ok (.iaload, 1) := by decide +kernel
theorem dL_law_319 : decode cL_law 319 = .ok (.aload_n 3, 1) := by decide +kernel
theorem dL_law_320 : decode cL_law 320 = .ok (.invokestatic 96, 3) := by decide +kernel
theorem dL_law_323 : decode cL_law 323 = .ok (.istore 5, 2) := by decide +kernel
theorem dL_law_325 : decode cL_law 325 = .ok (.aload_n 2, 1) := by decide +kernel
theorem dL_law_326 : decode cL_law 326 = .ok (.aload_n 0, 1) := by decide +kernel
theorem dL_law_327 : decode cL_law 327 = .ok (.iload 4, 2) := by decide +kernel
theorem dL_law_329 : decode cL_law 329 = .ok (.iconst 1, 1) := by decide +kernel
theorem dL_law_330 : decode cL_law 330 = .ok (.iadd, 1) := by decide +kernel
theorem dL_law_331 : decode cL_law 331 = .ok (.iaload, 1) := by decide +kernel
theorem dL_law_332 : decode cL_law 332 = .ok (.aload_n 0, 1) := by decide +kernel
theorem dL_law_333 : decode cL_law 333 = .ok (.iload 4, 2) := by decide +kernel
theorem dL_law_335 : decode cL_law 335 = .ok (.iconst 2, 1) := by decide +kernel
theorem dL_law_336 : decode cL_law 336 = .ok (.iadd, 1) := by decide +kernel
theorem dL_law_337 : decode cL_law 337 = .ok (.iaload, 1) := by decide +kernel
theorem dL_law_338 : decode cL_law 338 = .ok (.aload_n 0, 1) := by decide +kernel
theorem dL_law_339 : decode cL_law 339 = .ok (.iload 4, 2) := by decide +kernel
theorem dL_law_341 : decode cL_law 341 = .ok (.iconst 3, 1) := by decide +kernel
theorem dL_law_342 : decode cL_law 342 = .ok (.iadd, 1) := by decide +kernel
theorem dL_law_343 : decode cL_law 343 = .ok (.iaload, 1) := by decide +kernel
theorem dL_law_344 : decode cL_law 344 = .ok (.invokevirtual 98, 3) := by decide +kernel
theorem dL_law_347 : decode cL_law 347 = .ok (.istore 6, 2) := by decide +kernel
theorem dL_law_349 : decode cL_law 349 = .ok (.aload_n 2, 1) := by decide +kernel
theorem dL_law_350 : decode cL_law 350 = .ok (.invokevirtual 89, 3) := by decide +kernel
theorem dL_law_353 : decode cL_law 353 = .ok (.iload 5, 2) := by decide +kernel
theorem dL_law_355 : decode cL_law 355 = .ok (.if_icmp .eq 5, 3) := by decide +kernel
theorem dL_law_358 : decode cL_law 358 = .ok (.iconst 0, 1) := by decide +kernel
theorem dL_law_359 : decode cL_law 359 = .ok (.ireturn, 1) := by decide +kernel
theorem dL_law_360 : decode cL_law 360 = .ok (.iload 5, 2) := by decide +kernel
theorem dL_law_362 : decode cL_law 362 = .ok (.ifCond .ne 15, 3) := by decide +kernel
theorem dL_law_365 : decode cL_law 365 = .ok (.aload_n 3, 1) := by decide +kernel
theorem dL_law_366 : decode cL_law 366 = .ok (.iconst 0, 1) := by decide +kernel
theorem dL_law_367 : decode cL_law 367 = .ok (.laload, 1) := by decide +kernel
theorem dL_law_368 : decode cL_law 368 = .ok (.iload 6, 2) := by decide +kernel
theorem dL_law_370 : decode cL_law 370 = .ok (.i2l, 1) := by decide +kernel
theorem dL_law_371 : decode cL_law 371 = .ok (.lcmp, 1) := by decide +kernel
theorem dL_law_372 : decode cL_law 372 = .ok (.ifCond .eq 5, 3) := by decide +kernel
theorem dL_law_375 : decode cL_law 375 = .ok (.iconst 0, 1) := by decide +kernel
theorem dL_law_376 : decode cL_law 376 = .ok (.ireturn, 1) := by decide +kernel
theorem dL_law_377 : decode cL_law 377 = .ok (.goto 1149, 3) := by decide +kernel
theorem dL_law_380 : decode cL_law 380 = .ok (.aload_n 1, 1) := by decide +kernel
theorem dL_law_381 : decode cL_law 381 = .ok (.aload_n 0, 1) := by decide +kernel
theorem dL_law_382 : decode cL_law 382 = .ok (.iload 4, 2) := by decide +kernel
theorem dL_law_384 : decode cL_law 384 = .ok (.iconst 1, 1) := by decide +kernel
theorem dL_law_385 : decode cL_law 385 = .ok (.iadd, 1) := by decide +kernel
theorem dL_law_386 : decode cL_law 386 = .ok (.iaload, 1) := by decide +kernel
theorem dL_law_387 : decode cL_law 387 = .ok (.aload_n 0, 1) := by decide +kernel
theorem dL_law_388 : decode cL_law 388 = .ok (.iload 4, 2) := by decide +kernel
theorem dL_law_390 : decode cL_law 390 = .ok (.iconst 2, 1) := by decide +kernel
theorem dL_law_391 : decode cL_law 391 = .ok (.iadd, 1) := by decide +kernel
theorem dL_law_392 : decode cL_law 392 = .ok (.iaload, 1) := by decide +kernel
theorem dL_law_393 : decode cL_law 393 = .ok (.aload_n 0, 1) := by decide +kernel
theorem dL_law_394 : decode cL_law 394 = .ok (.iload 4, 2) := by decide +kernel
theorem dL_law_396 : decode cL_law 396 = .ok (.iconst 3, 1) := by decide +kernel
theorem dL_law_397 : decode cL_law 397 = .ok (.iadd, 1) := by decide +kernel
theorem dL_law_398 : decode cL_law 398 = .ok (.iaload, 1) := by decide +kernel
theorem dL_law_399 : decode cL_law 399 = .ok (.aload_n 3, 1) := by decide +kernel
theorem dL_law_400 : decode cL_law 400 = .ok (.invokestatic 99, 3) := by decide +kernel
theorem dL_law_403 : decode cL_law 403 = .ok (.istore 5, 2) := by decide +kernel
theorem dL_law_405 : decode cL_law 405 = .ok (.aload_n 2, 1) := by decide +kernel
theorem dL_law_406 : decode cL_law 406 = .ok (.aload_n 0, 1) := by decide +kernel
theorem dL_law_407 : decode cL_law 407 = .ok (.iload 4, 2) := by decide +kernel
theorem dL_law_409 : decode cL_law 409 = .ok (.iconst 1, 1) := by decide +kernel
theorem dL_law_410 : decode cL_law 410 = .ok (.iadd, 1) := by decide +kernel
theorem dL_law_411 : decode cL_law 411 = .ok (.iaload, 1) := by decide +kernel
theorem dL_law_412 : decode cL_law 412 = .ok (.aload_n 0, 1) := by decide +kernel
theorem dL_law_413 : decode cL_law 413 = .ok (.iload 4, 2) := by decide +kernel
theorem dL_law_415 : decode cL_law 415 = .ok (.iconst 2, 1) := by decide +kernel
theorem dL_law_416 : decode cL_law 416 = .ok (.iadd, 1) := by decide +kernel
theorem dL_law_417 : decode cL_law 417 = .ok (.iaload, 1) := by decide +kernel
theorem dL_law_418 : decode cL_law 418 = .ok (.aload_n 0, 1) := by decide +kernel
theorem dL_law_419 : decode cL_law 419 = .ok (.iload 4, 2) := by decide +kernel
theorem dL_law_421 : decode cL_law 421 = .ok (.iconst 3, 1) := by decide +kernel
theorem dL_law_422 : decode cL_law 422 = .ok (.iadd, 1) := by decide +kernel
theorem dL_law_423 : decode cL_law 423 = .ok (.iaload, 1) := by decide +kernel
theorem dL_law_424 : decode cL_law 424 = .ok (.invokevirtual 101, 3) := by decide +kernel
theorem dL_law_427 : decode cL_law 427 = .ok (.istore 6, 2) := by decide +kernel
theorem dL_law_429 : decode cL_law 429 = .ok (.aload_n 2, 1) := by decide +kernel
theorem dL_law_430 : decode cL_law 430 = .ok (.invokevirtual 89, 3) := by decide +kernel
theorem dL_law_433 : decode cL_law 433 = .ok (.iload 5, 2) := by decide +kernel
theorem dL_law_435 : decode cL_law 435 = .ok (.if_icmp .eq 5, 3) := by decide +kernel
theorem dL_law_438 : decode cL_law 438 = .ok (.iconst 0, 1) := by decide +kernel
theorem dL_law_439 : decode cL_law 439 = .ok (.ireturn, 1) := by decide +kernel
theorem dL_law_440 : decode cL_law 440 = .ok (.iload 5, 2) := by decide +kernel
theorem dL_law_442 : decode cL_law 442 = .ok (.ifCond .ne 15, 3) := by decide +kernel
theorem dL_law_445 : decode cL_law 445 = .ok (.aload_n 3, 1) := by decide +kernel
theorem dL_law_446 : decode cL_law 446 = .ok (.iconst 0, 1) := by decide +kernel
theorem dL_law_447 : decode cL_law 447 = .ok (.laload, 1) := by decide +kernel
theorem dL_law_448 : decode cL_law 448 = .ok (.iload 6, 2) := by decide +kernel
theorem dL_law_450 : decode cL_law 450 = .ok (.i2l, 1) := by decide +kernel
theorem dL_law_451 : decode cL_law 451 = .ok (.lcmp, 1) := by decide +kernel
theorem dL_law_452 : decode cL_law 452 = .ok (.ifCond .eq 5, 3) := by decide +kernel
theorem dL_law_455 : decode cL_law 455 = .ok (.iconst 0, 1) := by decide +kernel
theorem dL_law_456 : decode cL_law 456 = .ok (.ireturn, 1) := by decide +kernel
theorem dL_law_457 : decode cL_law 457 = .ok (.goto 1069, 3) := by decide +kernel
theorem dL_law_460 : decode cL_law 460 = .ok (.aload_n 1, 1) := by decide +kernel
theorem dL_law_461 : decode cL_law 461 = .ok (.aload_n 0, 1) := by decide +kernel
theorem dL_law_462 : decode cL_law 462 = .ok (.iload 4, 2) := by decide +kernel
theorem dL_law_464 : decode cL_law 464 = .ok (.iconst 1, 1) := by decide +kernel
theorem dL_law_465 : decode cL_law 465 = .ok (.iadd, 1) := by decide +kernel
theorem dL_law_466 : decode cL_law 466 = .ok (.iaload, 1) := by decide +kernel
theorem dL_law_467 : decode cL_law 467 = .ok (.aload_n 3, 1) := by decide +kernel
theorem dL_law_468 : decode cL_law 468 = .ok (.invokestatic 102, 3) := by decide +kernel
theorem dL_law_471 : decode cL_law 471 = .ok (.istore 5, 2) := by decide +kernel
theorem dL_law_473 : decode cL_law 473 = .ok (.aload_n 2, 1) := by decide +kernel
theorem dL_law_474 : decode cL_law 474 = .ok (.aload_n 0, 1) := by decide +kernel
theorem dL_law_475 : decode cL_law 475 = .ok (.iload 4, 2) := by decide +kernel
theorem dL_law_477 : decode cL_law 477 = .ok (.iconst 1, 1) := by decide +kernel
theorem dL_law_478 : decode cL_law 478 = .ok (.iadd, 1) := by decide +kernel
theorem dL_law_479 : decode cL_law 479 = .ok (.iaload, 1) := by decide +kernel
theorem dL_law_480 : decode cL_law 480 = .ok (.invokevirtual 105, 3) := by decide +kernel
theorem dL_law_483 : decode cL_law 483 = .ok (.istore 6, 2) := by decide +kernel
theorem dL_law_485 : decode cL_law 485 = .ok (.aload_n 2, 1) := by decide +kernel
theorem dL_law_486 : decode cL_law 486 = .ok (.invokevirtual 89, 3) := by decide +kernel
theorem dL_law_489 : decode cL_law 489 = .ok (.iload 5, 2) := by decide +kernel
theorem dL_law_491 : decode cL_law 491 = .ok (.if_icmp .eq 5, 3) := by decide +kernel
theorem dL_law_494 : decode cL_law 494 = .ok (.iconst 0, 1) := by decide +kernel
theorem dL_law_495 : decode cL_law 495 = .ok (.ireturn, 1) := by decide +kernel
theorem dL_law_496 : decode cL_law 496 = .ok (.iload 5, 2) := by decide +kernel
theorem dL_law_498 : decode cL_law 498 = .ok (.ifCond .ne 15, 3) := by decide +kernel
theorem dL_law_501 : decode cL_law 501 = .ok (.aload_n 3, 1) := by decide +kernel
theorem dL_law_502 : decode cL_law 502 = .ok (.iconst 0, 1) := by decide +kernel
theorem dL_law_503 : decode cL_law 503 = .ok (.laload, 1) := by decide +kernel
theorem dL_law_504 : decode cL_law 504 = .ok (.iload 6, 2) := by decide +kernel
theorem dL_law_506 : decode cL_law 506 = .ok (.i2l, 1) := by decide +kernel
theorem dL_law_507 : decode cL_law 507 = .ok (.lcmp, 1) := by decide +kernel
theorem dL_law_508 : decode cL_law 508 = .ok (.ifCond .eq 5, 3) := by decide +kernel
theorem dL_law_511 : decode cL_law 511 = .ok (.iconst 0, 1) := by decide +kernel
theorem dL_law_512 : decode cL_law 512 = .ok (.ireturn, 1) := by decide +kernel
theorem dL_law_513 : decode cL_law 513 = .ok (.goto 1013, 3) := by decide +kernel
theorem dL_law_516 : decode cL_law 516 = .ok (.aload_n 1, 1) := by decide +kernel
theorem dL_law_517 : decode cL_law 517 = .ok (.aload_n 0, 1) := by decide +kernel
theorem dL_law_518 : decode cL_law 518 = .ok (.iload 4, 2) := by decide +kernel
theorem dL_law_520 : decode cL_law 520 = .ok (.iconst 1, 1) := by decide +kernel
theorem dL_law_521 : decode cL_law 521 = .ok (.iadd, 1) := by decide +kernel
theorem dL_law_522 : decode cL_law 522 = .ok (.iaload, 1) := by decide +kernel
theorem dL_law_523 : decode cL_law 523 = .ok (.aload_n 3, 1) := by decide +kernel
theorem dL_law_524 : decode cL_law 524 = .ok (.invokestatic 106, 3) := by decide +kernel
theorem dL_law_527 : decode cL_law 527 = .ok (.istore 5, 2) := by decide +kernel
theorem dL_law_529 : decode cL_law 529 = .ok (.aload_n 2, 1) := by decide +kernel
theorem dL_law_530 : decode cL_law 530 = .ok (.aload_n 0, 1) := by decide +kernel
theorem dL_law_531 : decode cL_law 531 = .ok (.iload 4, 2) := by decide +kernel
theorem dL_law_533 : decode cL_law 533 = .ok (.iconst 1, 1) := by decide +kernel
theorem dL_law_534 : decode cL_law 534 = .ok (.iadd, 1) := by decide +kernel
theorem dL_law_535 : decode cL_law 535 = .ok (.iaload, 1) := by decide +kernel
theorem dL_law_536 : decode cL_law 536 = .ok (.invokevirtual 108, 3) := by decide +kernel
theorem dL_law_539 : decode cL_law 539 = .ok (.istore 6, 2) := by decide +kernel
theorem dL_law_541 : decode cL_law 541 = .ok (.aload_n 2, 1) := by decide +kernel
theorem dL_law_542 : decode cL_law 542 = .ok (.invokevirtual 89, 3) := by decide +kernel
theorem dL_law_545 : decode cL_law 545 = .ok (.iload 5, 2) := by decide +kernel
theorem dL_law_547 : decode cL_law 547 = .ok (.if_icmp .eq 5, 3) := by decide +kernel
theorem dL_law_550 : decode cL_law 550 = .ok (.iconst 0, 1) := by decide +kernel
theorem dL_law_551 : decode cL_law 551 = .ok (.ireturn, 1) := by decide +kernel
theorem dL_law_552 : decode cL_law 552 = .ok (.iload 5, 2) := by decide +kernel
theorem dL_law_554 : decode cL_law 554 = .ok (.ifCond .ne 15, 3) := by decide +kernel
theorem dL_law_557 : decode cL_law 557 = .ok (.aload_n 3, 1) := by decide +kernel
theorem dL_law_558 : decode cL_law 558 = .ok (.iconst 0, 1) := by decide +kernel
theorem dL_law_559 : decode cL_law 559 = .ok (.laload, 1) := by decide +kernel
theorem dL_law_560 : decode cL_law 560 = .ok (.iload 6, 2) := by decide +kernel
theorem dL_law_562 : decode cL_law 562 = .ok (.i2l, 1) := by decide +kernel
theorem dL_law_563 : decode cL_law 563 = .ok (.lcmp, 1) := by decide +kernel
theorem dL_law_564 : decode cL_law 564 = .ok (.ifCond .eq 5, 3) := by decide +kernel
theorem dL_law_567 : decode cL_law 567 = .ok (.iconst 0, 1) := by decide +kernel
theorem dL_law_568 : decode cL_law 568 = .ok (.ireturn, 1) := by decide +kernel
theorem dL_law_569 : decode cL_law 569 = .ok (.goto 957, 3) := by decide +kernel
theorem dL_law_572 : decode cL_law 572 = .ok (.aload_n 1, 1) := by decide +kernel
theorem dL_law_573 : decode cL_law 573 = .ok (.aload_n 0, 1) := by decide +kernel
theorem dL_law_574 : decode cL_law 574 = .ok (.iload 4, 2) := by decide +kernel
theorem dL_law_576 : decode cL_law 576 = .ok (.iconst 1, 1) := by decide +kernel
theorem dL_law_577 : decode cL_law 577 = .ok (.iadd, 1) := by decide +kernel
theorem dL_law_578 : decode cL_law 578 = .ok (.iaload, 1) := by decide +kernel
theorem dL_law_579 : decode cL_law 579 = .ok (.aload_n 0, 1) := by decide +kernel
theorem dL_law_580 : decode cL_law 580 = .ok (.iload 4, 2) := by decide +kernel
theorem dL_law_582 : decode cL_law 582 = .ok (.iconst 2, 1) := by decide +kernel
theorem dL_law_583 : decode cL_law 583 = .ok (.iadd, 1) := by decide +kernel
theorem dL_law_584 : decode cL_law 584 = .ok (.iaload, 1) := by decide +kernel
theorem dL_law_585 : decode cL_law 585 = .ok (.aload_n 0, 1) := by decide +kernel
theorem dL_law_586 : decode cL_law 586 = .ok (.iload 4, 2) := by decide +kernel
theorem dL_law_588 : decode cL_law 588 = .ok (.iconst 3, 1) := by decide +kernel
theorem dL_law_589 : decode cL_law 589 = .ok (.iadd, 1) := by decide +kernel
theorem dL_law_590 : decode cL_law 590 = .ok (.iaload, 1) := by decide +kernel
theorem dL_law_591 : decode cL_law 591 = .ok (.aload_n 3, 1) := by decide +kernel
theorem dL_law_592 : decode cL_law 592 = .ok (.invokestatic 109, 3) := by decide +kernel
theorem dL_law_595 : decode cL_law 595 = .ok (.istore 5, 2) := by decide +kernel
theorem dL_law_597 : decode cL_law 597 = .ok (.aload_n 2, 1) := by decide +kernel
theorem dL_law_598 : decode cL_law 598 = .ok (.aload_n 0, 1) := by decide +kernel
theorem dL_law_599 : decode cL_law 599 = .ok (.iload 4, 2) := by decide +kernel
theorem dL_law_601 : decode cL_law 601 = .ok (.iconst 1, 1) := by decide +kernel
theorem dL_law_602 : decode cL_law 602 = .ok (.iadd, 1) := by decide +kernel
theorem dL_law_603 : decode cL_law 603 = .ok (.iaload, 1) := by decide +kernel
theorem dL_law_604 : decode cL_law 604 = .ok (.aload_n 0, 1) := by decide +kernel
theorem dL_law_605 : decode cL_law 605 = .ok (.iload 4, 2) := by decide +kernel
theorem dL_law_607 : decode cL_law 607 = .ok (.iconst 2, 1) := by decide +kernel
theorem dL_law_608 : decode cL_law 608 = .ok (.iadd, 1) := by decide +kernel
theorem dL_law_609 : decode cL_law 609 = .ok (.iaload, 1) := by decide +kernel
theorem dL_law_610 : decode cL_law 610 = .ok (.aload_n 0, 1) := by decide +kernel
theorem dL_law_611 : decode cL_law 611 = .ok (.iload 4, 2) := by decide +kernel
theorem dL_law_613 : decode cL_law 613 = .ok (.iconst 3, 1) := by decide +kernel
theorem dL_law_614 : decode cL_law 614 = .ok (.iadd, 1) := by decide +kernel
theorem dL_law_615 : decode cL_law 615 = .ok (.iaload, 1) := by decide +kernel
theorem dL_law_616 : decode cL_law 616 = .ok (.invokevirtual 111, 3) := by decide +kernel
theorem dL_law_619 : decode cL_law 619 = .ok (.istore 6, 2) := by decide +kernel
theorem dL_law_621 : decode cL_law 621 = .ok (.aload_n 2, 1) := by decide +kernel
theorem dL_law_622 : decode cL_law 622 = .ok (.invokevirtual 89, 3) := by decide +kernel
theorem dL_law_625 : decode cL_law 625 = .ok (.iload 5, 2) := by decide +kernel
theorem dL_law_627 : decode cL_law 627 = .ok (.if_icmp .eq 5, 3) := by decide +kernel
theorem dL_law_630 : decode cL_law 630 = .ok (.iconst 0, 1) := by decide +kernel
theorem dL_law_631 : decode cL_law 631 = .ok (.ireturn, 1) := by decide +kernel
theorem dL_law_632 : decode cL_law 632 = .ok (.iload 5, 2) := by decide +kernel
theorem dL_law_634 : decode cL_law 634 = .ok (.ifCond .ne 15, 3) := by decide +kernel
theorem dL_law_637 : decode cL_law 637 = .ok (.aload_n 3, 1) := by decide +kernel
theorem dL_law_638 : decode cL_law 638 = .ok (.iconst 0, 1) := by decide +kernel
theorem dL_law_639 : decode cL_law 639 = .ok (.laload, 1) := by decide +kernel
theorem dL_law_640 : decode cL_law 640 = .ok (.iload 6, 2) := by decide +kernel
theorem dL_law_642 : decode cL_law 642 = .ok (.i2l, 1) := by decide +kernel
theorem dL_law_643 : decode cL_law 643 = .ok (.lcmp, 1) := by decide +kernel
theorem dL_law_644 : decode cL_law 644 = .ok (.ifCond .eq 5, 3) := by decide +kernel
theorem dL_law_647 : decode cL_law 647 = .ok (.iconst 0, 1) := by decide +kernel
theorem dL_law_648 : decode cL_law 648 = .ok (.ireturn, 1) := by decide +kernel
theorem dL_law_649 : decode cL_law 649 = .ok (.goto 877, 3) := by decide +kernel
theorem dL_law_652 : decode cL_law 652 = .ok (.aload_n 1, 1) := by decide +kernel
theorem dL_law_653 : decode cL_law 653 = .ok (.aload_n 0, 1) := by decide +kernel
theorem dL_law_654 : decode cL_law 654 = .ok (.iload 4, 2) := by decide +kernel
theorem dL_law_656 : decode cL_law 656 = .ok (.iconst 1, 1) := by decide +kernel
theorem dL_law_657 : decode cL_law 657 = .ok (.iadd, 1) := by decide +kernel
theorem dL_law_658 : decode cL_law 658 = .ok (.iaload, 1) := by decide +kernel
theorem dL_law_659 : decode cL_law 659 = .ok (.aload_n 3, 1) := by decide +kernel
theorem dL_law_660 : decode cL_law 660 = .ok (.invokestatic 112, 3) := by decide +kernel
theorem dL_law_663 : decode cL_law 663 = .ok (.istore 5, 2) := by decide +kernel
theorem dL_law_665 : decode cL_law 665 = .ok (.aload_n 2, 1) := by decide +kernel
theorem dL_law_666 : decode cL_law 666 = .ok (.aload_n 0, 1) := by decide +kernel
theorem dL_law_667 : decode cL_law 667 = .ok (.iload 4, 2) := by decide +kernel
theorem dL_law_669 : decode cL_law 669 = .ok (.iconst 1, 1) := by decide +kernel
theorem dL_law_670 : decode cL_law 670 = .ok (.iadd, 1) := by decide +kernel
theorem dL_law_671 : decode cL_law 671 = .ok (.iaload, 1) := by decide +kernel
theorem dL_law_672 : decode cL_law 672 = .ok (.invokevirtual 114, 3) := by decide +kernel
theorem dL_law_675 : decode cL_law 675 = .ok (.istore 6, 2) := by decide +kernel
theorem dL_law_677 : decode cL_law 677 = .ok (.aload_n 2, 1) := by decide +kernel
theorem dL_law_678 : decode cL_law 678 = .ok (.invokevirtual 89, 3) := by decide +kernel
theorem dL_law_681 : decode cL_law 681 = .ok (.iload 5, 2) := by decide +kernel
theorem dL_law_683 : decode cL_law 683 = .ok (.if_icmp .eq 5, 3) := by decide +kernel
theorem dL_law_686 : decode cL_law 686 = .ok (.iconst 0, 1) := by decide +kernel
theorem dL_law_687 : decode cL_law 687 = .ok (.ireturn, 1) := by decide +kernel
theorem dL_law_688 : decode cL_law 688 = .ok (.iload 5, 2) := by decide +kernel
theorem dL_law_690 : decode cL_law 690 = .ok (.ifCond .ne 15, 3) := by decide +kernel
theorem dL_law_693 : decode cL_law 693 = .ok (.aload_n 3, 1) := by decide +kernel
theorem dL_law_694 : decode cL_law 694 = .ok (.iconst 0, 1) := by decide +kernel
theorem dL_law_695 : decode cL_law 695 = .ok (.laload, 1) := by decide +kernel
theorem dL_law_696 : decode cL_law 696 = .ok (.iload 6, 2) := by decide +kernel
theorem dL_law_698 : decode cL_law 698 = .ok (.i2l, 1) := by decide +kernel
theorem dL_law_699 : decode cL_law 699 = .ok (.lcmp, 1) := by decide +kernel
theorem dL_law_700 : decode cL_law 700 = .ok (.ifCond .eq 5, 3) := by decide +kernel
theorem dL_law_703 : decode cL_law 703 = .ok (.iconst 0, 1) := by decide +kernel
theorem dL_law_704 : decode cL_law 704 = .ok (.ireturn, 1) := by decide +kernel
theorem dL_law_705 : decode cL_law 705 = .ok (.goto 821, 3) := by decide +kernel
theorem dL_law_708 : decode cL_law 708 = .ok (.aload_n 1, 1) := by decide +kernel
theorem dL_law_709 : decode cL_law 709 = .ok (.aload_n 0, 1) := by decide +kernel
theorem dL_law_710 : decode cL_law 710 = .ok (.iload 4, 2) := by decide +kernel
theorem dL_law_712 : decode cL_law 712 = .ok (.iconst 1, 1) := by decide +kernel
theorem dL_law_713 : decode cL_law 713 = .ok (.iadd, 1) := by decide +kernel
theorem dL_law_714 : decode cL_law 714 = .ok (.iaload, 1) := by decide +kernel
theorem dL_law_715 : decode cL_law 715 = .ok (.aload_n 3, 1) := by decide +kernel
theorem dL_law_716 : decode cL_law 716 = .ok (.invokestatic 115, 3) := by decide +kernel
theorem dL_law_719 : decode cL_law 719 = .ok (.istore 5, 2) := by decide +kernel
theorem dL_law_721 : decode cL_law 721 = .ok (.aload_n 2, 1) := by decide +kernel
theorem dL_law_722 : decode cL_law 722 = .ok (.aload_n 0, 1) := by decide +kernel
theorem dL_law_723 : decode cL_law 723 = .ok (.iload 4, 2) := by decide +kernel
theorem dL_law_725 : decode cL_law 725 = .ok (.iconst 1, 1) := by decide +kernel
theorem dL_law_726 : decode cL_law 726 = .ok (.iadd, 1) := by decide +kernel
theorem dL_law_727 : decode cL_law 727 = .ok (.iaload, 1) := by decide +kernel
theorem dL_law_728 : decode cL_law 728 = .ok (.invokevirtual 117, 3) := by decide +kernel
theorem dL_law_731 : decode cL_law 731 = .ok (.istore 6, 2) := by decide +kernel
theorem dL_law_733 : decode cL_law 733 = .ok (.aload_n 2, 1) := by decide +kernel
theorem dL_law_734 : decode cL_law 734 = .ok (.invokevirtual 89, 3) := by decide +kernel
theorem dL_law_737 : decode cL_law 737 = .ok (.iload 5, 2) := by decide +kernel
theorem dL_law_739 : decode cL_law 739 = .ok (.if_icmp .eq 5, 3) := by decide +kernel
theorem dL_law_742 : decode cL_law 742 = .ok (.iconst 0, 1) := by decide +kernel
theorem dL_law_743 : decode cL_law 743 = .ok (.ireturn, 1) := by decide +kernel
theorem dL_law_744 : decode cL_law 744 = .ok (.iload 5, 2) := by decide +kernel
theorem dL_law_746 : decode cL_law 746 = .ok (.ifCond .ne 15, 3) := by decide +kernel
theorem dL_law_749 : decode cL_law 749 = .ok (.aload_n 3, 1) := by decide +kernel
theorem dL_law_750 : decode cL_law 750 = .ok (.iconst 0, 1) := by decide +kernel
theorem dL_law_751 : decode cL_law 751 = .ok (.laload, 1) := by decide +kernel
theorem dL_law_752 : decode cL_law 752 = .ok (.iload 6, 2) := by decide +kernel
theorem dL_law_754 : decode cL_law 754 = .ok (.i2l, 1) := by decide +kernel
theorem dL_law_755 : decode cL_law 755 = .ok (.lcmp, 1) := by decide +kernel
theorem dL_law_756 : decode cL_law 756 = .ok (.ifCond .eq 5, 3) := by decide +kernel
theorem dL_law_759 : decode cL_law 759 = .ok (.iconst 0, 1) := by decide +kernel
theorem dL_law_760 : decode cL_law 760 = .ok (.ireturn, 1) := by decide +kernel
theorem dL_law_761 : decode cL_law 761 = .ok (.goto 765, 3) := by decide +kernel
theorem dL_law_764 : decode cL_law 764 = .ok (.aload_n 1, 1) := by decide +kernel
theorem dL_law_765 : decode cL_law 765 = .ok (.invokevirtual 118, 3) := by decide +kernel
theorem dL_law_768 : decode cL_law 768 = .ok (.aload_n 2, 1) := by decide +kernel
theorem dL_law_769 : decode cL_law 769 = .ok (.invokevirtual 121, 3) := by decide +kernel
theorem dL_law_772 : decode cL_law 772 = .ok (.if_icmp .eq 754, 3) := by decide +kernel
theorem dL_law_775 : decode cL_law 775 = .ok (.iconst 0, 1) := by decide +kernel
theorem dL_law_776 : decode cL_law 776 = .ok (.ireturn, 1) := by decide +kernel
theorem dL_law_777 : decode cL_law 777 = .ok (.aload_n 1, 1) := by decide +kernel
theorem dL_law_778 : decode cL_law 778 = .ok (.invokevirtual 122, 3) := by decide +kernel
theorem dL_law_781 : decode cL_law 781 = .ok (.aload_n 2, 1) := by decide +kernel
theorem dL_law_782 : decode cL_law 782 = .ok (.invokevirtual 125, 3) := by decide +kernel
theorem dL_law_785 : decode cL_law 785 = .ok (.if_icmp .eq 741, 3) := by decide +kernel
theorem dL_law_788 : decode cL_law 788 = .ok (.iconst 0, 1) := by decide +kernel
theorem dL_law_789 : decode cL_law 789 = .ok (.ireturn, 1) := by decide +kernel
theorem dL_law_790 : decode cL_law 790 = .ok (.aload_n 1, 1) := by decide +kernel
theorem dL_law_791 : decode cL_law 791 = .ok (.aload_n 3, 1) := by decide +kernel
theorem dL_law_792 : decode cL_law 792 = .ok (.invokestatic 126, 3) := by decide +kernel
theorem dL_law_795 : decode cL_law 795 = .ok (.istore 5, 2) := by decide +kernel
theorem dL_law_797 : decode cL_law 797 = .ok (.aload_n 2, 1) := by decide +kernel
theorem dL_law_798 : decode cL_law 798 = .ok (.invokevirtual 129, 3) := by decide +kernel
theorem dL_law_801 : decode cL_law 801 = .ok (.istore 6, 2) := by decide +kernel
theorem dL_law_803 : decode cL_law 803 = .ok (.aload_n 2, 1) := by decide +kernel
theorem dL_law_804 : decode cL_law 804 = .ok (.invokevirtual 89, 3) := by decide +kernel
theorem dL_law_807 : decode cL_law 807 = .ok (.iload 5, 2) := by decide +kernel
theorem dL_law_809 : decode cL_law 809 = .ok (.if_icmp .eq 5, 3) := by decide +kernel
theorem dL_law_812 : decode cL_law 812 = .ok (.iconst 0, 1) := by decide +kernel
theorem dL_law_813 : decode cL_law 813 = .ok (.ireturn, 1) := by decide +kernel
theorem dL_law_814 : decode cL_law 814 = .ok (.iload 5, 2) := by decide +kernel
theorem dL_law_816 : decode cL_law 816 = .ok (.ifCond .ne 15, 3) := by decide +kernel
theorem dL_law_819 : decode cL_law 819 = .ok (.aload_n 3, 1) := by decide +kernel
theorem dL_law_820 : decode cL_law 820 = .ok (.iconst 0, 1) := by decide +kernel
theorem dL_law_821 : decode cL_law 821 = .ok (.laload, 1) := by decide +kernel
theorem dL_law_822 : decode cL_law 822 = .ok (.iload 6, 2) := by decide +kernel
theorem dL_law_824 : decode cL_law 824 = .ok (.i2l, 1) := by decide +kernel
theorem dL_law_825 : decode cL_law 825 = .ok (.lcmp, 1) := by decide +kernel
theorem dL_law_826 : decode cL_law 826 = .ok (.ifCond .eq 5, 3) := by decide +kernel
theorem dL_law_829 : decode cL_law 829 = .ok (.iconst 0, 1) := by decide +kernel
theorem dL_law_830 : decode cL_law 830 = .ok (.ireturn, 1) := by decide +kernel
theorem dL_law_831 : decode cL_law 831 = .ok (.goto 695, 3) := by decide +kernel
theorem dL_law_834 : decode cL_law 834 = .ok (.aload_n 1, 1) := by decide +kernel
theorem dL_law_835 : decode cL_law 835 = .ok (.aload_n 3, 1) := by decide +kernel
theorem dL_law_836 : decode cL_law 836 = .ok (.invokestatic 130, 3) := by decide +kernel
theorem dL_law_839 : decode cL_law 839 = .ok (.istore 5, 2) := by decide +kernel
theorem dL_law_841 : decode cL_law 841 = .ok (.aload_n 2, 1) := by decide +kernel
theorem dL_law_842 : decode cL_law 842 = .ok (.invokevirtual 132, 3) := by decide +kernel
theorem dL_law_845 : decode cL_law 845 = .ok (.istore 6, 2) := by decide +kernel
theorem dL_law_847 : decode cL_law 847 = .ok (.aload_n 2, 1) := by decide +kernel
theorem dL_law_848 : decode cL_law 848 = .ok (.invokevirtual 89, 3) := by decide +kernel
theorem dL_law_851 : decode cL_law 851 = .ok (.iload 5, 2) := by decide +kernel
theorem dL_law_853 : decode cL_law 853 = .ok (.if_icmp .eq 5, 3) := by decide +kernel
theorem dL_law_856 : decode cL_law 856 = .ok (.iconst 0, 1) := by decide +kernel
theorem dL_law_857 : decode cL_law 857 = .ok (.ireturn, 1) := by decide +kernel
theorem dL_law_858 : decode cL_law 858 = .ok (.iload 5, 2) := by decide +kernel
theorem dL_law_860 : decode cL_law 860 = .ok (.ifCond .ne 15, 3) := by decide +kernel
theorem dL_law_863 : decode cL_law 863 = .ok (.aload_n 3, 1) := by decide +kernel
theorem dL_law_864 : decode cL_law 864 = .ok (.iconst 0, 1) := by decide +kernel
theorem dL_law_865 : decode cL_law 865 = .ok (.laload, 1) := by decide +kernel
theorem dL_law_866 : decode cL_law 866 = .ok (.iload 6, 2) := by decide +kernel
theorem dL_law_868 : decode cL_law 868 = .ok (.i2l, 1) := by decide +kernel
theorem dL_law_869 : decode cL_law 869 = .ok (.lcmp, 1) := by decide +kernel
theorem dL_law_870 : decode cL_law 870 = .ok (.ifCond .eq 5, 3) := by decide +kernel
theorem dL_law_873 : decode cL_law 873 = .ok (.iconst 0, 1) := by decide +kernel
theorem dL_law_874 : decode cL_law 874 = .ok (.ireturn, 1) := by decide +kernel
theorem dL_law_875 : decode cL_law 875 = .ok (.goto 651, 3) := by decide +kernel
theorem dL_law_878 : decode cL_law 878 = .ok (.aload_n 1, 1) := by decide +kernel
theorem dL_law_879 : decode cL_law 879 = .ok (.aload_n 0, 1) := by decide +kernel
theorem dL_law_880 : decode cL_law 880 = .ok (.iload 4, 2) := by decide +kernel
theorem dL_law_882 : decode cL_law 882 = .ok (.iconst 1, 1) := by decide +kernel
theorem dL_law_883 : decode cL_law 883 = .ok (.iadd, 1) := by decide +kernel
theorem dL_law_884 : decode cL_law 884 = .ok (.iaload, 1) := by decide +kernel
theorem dL_law_885 : decode cL_law 885 = .ok (.aload_n 0, 1) := by decide +kernel
theorem dL_law_886 : decode cL_law 886 = .ok (.iload 4, 2) := by decide +kernel
theorem dL_law_888 : decode cL_law 888 = .ok (.iconst 2, 1) := by decide +kernel
theorem dL_law_889 : decode cL_law 889 = .ok (.iadd, 1) := by decide +kernel
theorem dL_law_890 : decode cL_law 890 = .ok (.iaload, 1) := by decide +kernel
theorem dL_law_891 : decode cL_law 891 = .ok (.aload_n 3, 1) := by decide +kernel
theorem dL_law_892 : decode cL_law 892 = .ok (.invokestatic 133, 3) := by decide +kernel
theorem dL_law_895 : decode cL_law 895 = .ok (.istore 5, 2) := by decide +kernel
theorem dL_law_897 : decode cL_law 897 = .ok (.aload_n 2, 1) := by decide +kernel
theorem dL_law_898 : decode cL_law 898 = .ok (.aload_n 0, 1) := by decide +kernel
theorem dL_law_899 : decode cL_law 899 = .ok (.iload 4, 2) := by decide +kernel
theorem dL_law_901 : decode cL_law 901 = .ok (.iconst 1, 1) := by decide +kernel
theorem dL_law_902 : decode cL_law 902 = .ok (.iadd, 1) := by decide +kernel
theorem dL_law_903 : decode cL_law 903 = .ok (.iaload, 1) := by decide +kernel
theorem dL_law_904 : decode cL_law 904 = .ok (.aload_n 0, 1) := by decide +kernel
theorem dL_law_905 : decode cL_law 905 = .ok (.iload 4, 2) := by decide +kernel
theorem dL_law_907 : decode cL_law 907 = .ok (.iconst 2, 1) := by decide +kernel
theorem dL_law_908 : decode cL_law 908 = .ok (.iadd, 1) := by decide +kernel
theorem dL_law_909 : decode cL_law 909 = .ok (.iaload, 1) := by decide +kernel
theorem dL_law_910 : decode cL_law 910 = .ok (.invokevirtual 135, 3) := by decide +kernel
theorem dL_law_913 : decode cL_law 913 = .ok (.istore 6, 2) := by decide +kernel
theorem dL_law_915 : decode cL_law 915 = .ok (.aload_n 2, 1) := by decide +kernel
theorem dL_law_916 : decode cL_law 916 = .ok (.invokevirtual 89, 3) := by decide +kernel
theorem dL_law_919 : decode cL_law 919 = .ok (.iload 5, 2) := by decide +kernel
theorem dL_law_921 : decode cL_law 921 = .ok (.if_icmp .eq 5, 3) := by decide +kernel
theorem dL_law_924 : decode cL_law 924 = .ok (.iconst 0, 1) := by decide +kernel
theorem dL_law_925 : decode cL_law 925 = .ok (.ireturn, 1) := by decide +kernel
theorem dL_law_926 : decode cL_law 926 = .ok (.iload 5, 2) := by decide +kernel
theorem dL_law_928 : decode cL_law 928 = .ok (.ifCond .ne 15, 3) := by decide +kernel
theorem dL_law_931 : decode cL_law 931 = .ok (.aload_n 3, 1) := by decide +kernel
theorem dL_law_932 : decode cL_law 932 = .ok (.iconst 0, 1) := by decide +kernel
theorem dL_law_933 : decode cL_law 933 = .ok (.laload, 1) := by decide +kernel
theorem dL_law_934 : decode cL_law 934 = .ok (.iload 6, 2) := by decide +kernel
theorem dL_law_936 : decode cL_law 936 = .ok (.i2l, 1) := by decide +kernel
theorem dL_law_937 : decode cL_law 937 = .ok (.lcmp, 1) := by decide +kernel
theorem dL_law_938 : decode cL_law 938 = .ok (.ifCond .eq 5, 3) := by decide +kernel
theorem dL_law_941 : decode cL_law 941 = .ok (.iconst 0, 1) := by decide +kernel
theorem dL_law_942 : decode cL_law 942 = .ok (.ireturn, 1) := by decide +kernel
theorem dL_law_943 : decode cL_law 943 = .ok (.goto 583, 3) := by decide +kernel
theorem dL_law_946 : decode cL_law 946 = .ok (.aload_n 1, 1) := by decide +kernel
theorem dL_law_947 : decode cL_law 947 = .ok (.aload_n 0, 1) := by decide +kernel
theorem dL_law_948 : decode cL_law 948 = .ok (.iload 4, 2) := by decide +kernel
theorem dL_law_950 : decode cL_law 950 = .ok (.iconst 1, 1) := by decide +kernel
theorem dL_law_951 : decode cL_law 951 = .ok (.iadd, 1) := by decide +kernel
theorem dL_law_952 : decode cL_law 952 = .ok (.iaload, 1) := by decide +kernel
theorem dL_law_953 : decode cL_law 953 = .ok (.aload_n 0, 1) := by decide +kernel
theorem dL_law_954 : decode cL_law 954 = .ok (.iload 4, 2) := by decide +kernel
theorem dL_law_956 : decode cL_law 956 = .ok (.iconst 2, 1) := by decide +kernel
theorem dL_law_957 : decode cL_law 957 = .ok (.iadd, 1) := by decide +kernel
theorem dL_law_958 : decode cL_law 958 = .ok (.iaload, 1) := by decide +kernel
theorem dL_law_959 : decode cL_law 959 = .ok (.aload_n 3, 1) := by decide +kernel
theorem dL_law_960 : decode cL_law 960 = .ok (.invokestatic 136, 3) := by decide +kernel
theorem dL_law_963 : decode cL_law 963 = .ok (.istore 5, 2) := by decide +kernel
theorem dL_law_965 : decode cL_law 965 = .ok (.aload_n 2, 1) := by decide +kernel
theorem dL_law_966 : decode cL_law 966 = .ok (.aload_n 0, 1) := by decide +kernel
theorem dL_law_967 : decode cL_law 967 = .ok (.iload 4, 2) := by decide +kernel
theorem dL_law_969 : decode cL_law 969 = .ok (.iconst 1, 1) := by decide +kernel
theorem dL_law_970 : decode cL_law 970 = .ok (.iadd, 1) := by decide +kernel
theorem dL_law_971 : decode cL_law 971 = .ok (.iaload, 1) := by decide +kernel
theorem dL_law_972 : decode cL_law 972 = .ok (.aload_n 0, 1) := by decide +kernel
theorem dL_law_973 : decode cL_law 973 = .ok (.iload 4, 2) := by decide +kernel
theorem dL_law_975 : decode cL_law 975 = .ok (.iconst 2, 1) := by decide +kernel
theorem dL_law_976 : decode cL_law 976 = .ok (.iadd, 1) := by decide +kernel
theorem dL_law_977 : decode cL_law 977 = .ok (.iaload, 1) := by decide +kernel
theorem dL_law_978 : decode cL_law 978 = .ok (.invokevirtual 138, 3) := by decide +kernel
theorem dL_law_981 : decode cL_law 981 = .ok (.lstore 6, 2) := by decide +kernel
theorem dL_law_983 : decode cL_law 983 = .ok (.aload_n 2, 1) := by decide +kernel
theorem dL_law_984 : decode cL_law 984 = .ok (.invokevirtual 89, 3) := by decide +kernel
theorem dL_law_987 : decode cL_law 987 = .ok (.iload 5, 2) := by decide +kernel
theorem dL_law_989 : decode cL_law 989 = .ok (.if_icmp .eq 5, 3) := by decide +kernel
theorem dL_law_992 : decode cL_law 992 = .ok (.iconst 0, 1) := by decide +kernel
theorem dL_law_993 : decode cL_law 993 = .ok (.ireturn, 1) := by decide +kernel
theorem dL_law_994 : decode cL_law 994 = .ok (.iload 5, 2) := by decide +kernel
theorem dL_law_996 : decode cL_law 996 = .ok (.ifCond .ne 14, 3) := by decide +kernel
theorem dL_law_999 : decode cL_law 999 = .ok (.aload_n 3, 1) := by decide +kernel
theorem dL_law_1000 : decode cL_law 1000 = .ok (.iconst 0, 1) := by decide +kernel
theorem dL_law_1001 : decode cL_law 1001 = .ok (.laload, 1) := by decide +kernel
theorem dL_law_1002 : decode cL_law 1002 = .ok (.lload 6, 2) := by decide +kernel
theorem dL_law_1004 : decode cL_law 1004 = .ok (.lcmp, 1) := by decide +kernel
theorem dL_law_1005 : decode cL_law 1005 = .ok (.ifCond .eq 5, 3) := by decide +kernel
theorem dL_law_1008 : decode cL_law 1008 = .ok (.iconst 0, 1) := by decide +kernel
theorem dL_law_1009 : decode cL_law 1009 = .ok (.ireturn, 1) := by decide +kernel
theorem dL_law_1010 : decode cL_law 1010 = .ok (.goto 516, 3) := by decide +kernel
theorem dL_law_1013 : decode cL_law 1013 = .ok (.aload_n 1, 1) := by decide +kernel
theorem dL_law_1014 : decode cL_law 1014 = .ok (.aload_n 0, 1) := by decide +kernel
theorem dL_law_1015 : decode cL_law 1015 = .ok (.iload 4, 2) := by decide +kernel
theorem dL_law_1017 : decode cL_law 1017 = .ok (.iconst 1, 1) := by decide +kernel
theorem dL_law_1018 : decode cL_law 1018 = .ok (.iadd, 1) := by decide +kernel
theorem dL_law_1019 : decode cL_law 1019 = .ok (.iaload, 1) := by decide +kernel
theorem dL_law_1020 : decode cL_law 1020 = .ok (.aload_n 0, 1) := by decide +kernel
theorem dL_law_1021 : decode cL_law 1021 = .ok (.iload 4, 2) := by decide +kernel
theorem dL_law_1023 : decode cL_law 1023 = .ok (.iconst 2, 1) := by decide +kernel
theorem dL_law_1024 : decode cL_law 1024 = .ok (.iadd, 1) := by decide +kernel
theorem dL_law_1025 : decode cL_law 1025 = .ok (.iaload, 1) := by decide +kernel
theorem dL_law_1026 : decode cL_law 1026 = .ok (.aload_n 3, 1) := by decide +kernel
theorem dL_law_1027 : decode cL_law 1027 = .ok (.invokestatic 139, 3) := by decide +kernel
theorem dL_law_1030 : decode cL_law 1030 = .ok (.istore 5, 2) := by decide +kernel
theorem dL_law_1032 : decode cL_law 1032 = .ok (.aload_n 2, 1) := by decide +kernel
theorem dL_law_1033 : decode cL_law 1033 = .ok (.aload_n 0, 1) := by decide +kernel
theorem dL_law_1034 : decode cL_law 1034 = .ok (.iload 4, 2) := by decide +kernel
theorem dL_law_1036 : decode cL_law 1036 = .ok (.iconst 1, 1) := by decide +kernel
theorem dL_law_1037 : decode cL_law 1037 = .ok (.iadd, 1) := by decide +kernel
theorem dL_law_1038 : decode cL_law 1038 = .ok (.iaload, 1) := by decide +kernel
theorem dL_law_1039 : decode cL_law 1039 = .ok (.aload_n 0, 1) := by decide +kernel
theorem dL_law_1040 : decode cL_law 1040 = .ok (.iload 4, 2) := by decide +kernel
theorem dL_law_1042 : decode cL_law 1042 = .ok (.iconst 2, 1) := by decide +kernel
theorem dL_law_1043 : decode cL_law 1043 = .ok (.iadd, 1) := by decide +kernel
theorem dL_law_1044 : decode cL_law 1044 = .ok (.iaload, 1) := by decide +kernel
theorem dL_law_1045 : decode cL_law 1045 = .ok (.invokevirtual 141, 3) := by decide +kernel
theorem dL_law_1048 : decode cL_law 1048 = .ok (.istore 6, 2) := by decide +kernel
theorem dL_law_1050 : decode cL_law 1050 = .ok (.aload_n 2, 1) := by decide +kernel
theorem dL_law_1051 : decode cL_law 1051 = .ok (.invokevirtual 89, 3) := by decide +kernel
theorem dL_law_1054 : decode cL_law 1054 = .ok (.iload 5, 2) := by decide +kernel
theorem dL_law_1056 : decode cL_law 1056 = .ok (.if_icmp .eq 5, 3) := by decide +kernel
theorem dL_law_1059 : decode cL_law 1059 = .ok (.iconst 0, 1) := by decide +kernel
theorem dL_law_1060 : decode cL_law 1060 = .ok (.ireturn, 1) := by decide +kernel
theorem dL_law_1061 : decode cL_law 1061 = .ok (.iload 5, 2) := by decide +kernel
theorem dL_law_1063 : decode cL_law 1063 = .ok (.ifCond .ne 15, 3) := by decide +kernel
theorem dL_law_1066 : decode cL_law 1066 = .ok (.aload_n 3, 1) := by decide +kernel
theorem dL_law_1067 : decode cL_law 1067 = .ok (.iconst 0, 1) := by decide +kernel
theorem dL_law_1068 : decode cL_law 1068 = .ok (.laload, 1) := by decide +kernel
theorem dL_law_1069 : decode cL_law 1069 = .ok (.iload 6, 2) := by decide +kernel
theorem dL_law_1071 : decode cL_law 1071 = .ok (.i2l, 1) := by decide +kernel
theorem dL_law_1072 : decode cL_law 1072 = .ok (.lcmp, 1) := by decide +kernel
theorem dL_law_1073 : decode cL_law 1073 = .ok (.ifCond .eq 5, 3) := by decide +kernel
theorem dL_law_1076 : decode cL_law 1076 = .ok (.iconst 0, 1) := by decide +kernel
theorem dL_law_1077 : decode cL_law 1077 = .ok (.ireturn, 1) := by decide +kernel
theorem dL_law_1078 : decode cL_law 1078 = .ok (.goto 448, 3) := by decide +kernel
theorem dL_law_1081 : decode cL_law 1081 = .ok (.aload_n 1, 1) := by decide +kernel
theorem dL_law_1082 : decode cL_law 1082 = .ok (.aload_n 0, 1) := by decide +kernel
theorem dL_law_1083 : decode cL_law 1083 = .ok (.iload 4, 2) := by decide +kernel
theorem dL_law_1085 : decode cL_law 1085 = .ok (.iconst 1, 1) := by decide +kernel
theorem dL_law_1086 : decode cL_law 1086 = .ok (.iadd, 1) := by decide +kernel
theorem dL_law_1087 : decode cL_law 1087 = .ok (.iaload, 1) := by decide +kernel
theorem dL_law_1088 : decode cL_law 1088 = .ok (.aload_n 0, 1) := by decide +kernel
theorem dL_law_1089 : decode cL_law 1089 = .ok (.iload 4, 2) := by decide +kernel
theorem dL_law_1091 : decode cL_law 1091 = .ok (.iconst 2, 1) := by decide +kernel
theorem dL_law_1092 : decode cL_law 1092 = .ok (.iadd, 1) := by decide +kernel
theorem dL_law_1093 : decode cL_law 1093 = .ok (.iaload, 1) := by decide +kernel
theorem dL_law_1094 : decode cL_law 1094 = .ok (.aload_n 0, 1) := by decide +kernel
theorem dL_law_1095 : decode cL_law 1095 = .ok (.iload 4, 2) := by decide +kernel
theorem dL_law_1097 : decode cL_law 1097 = .ok (.iconst 3, 1) := by decide +kernel
theorem dL_law_1098 : decode cL_law 1098 = .ok (.iadd, 1) := by decide +kernel
theorem dL_law_1099 : decode cL_law 1099 = .ok (.iaload, 1) := by decide +kernel
theorem dL_law_1100 : decode cL_law 1100 = .ok (.aload_n 3, 1) := by decide +kernel
theorem dL_law_1101 : decode cL_law 1101 = .ok (.invokestatic 142, 3) := by decide +kernel
theorem dL_law_1104 : decode cL_law 1104 = .ok (.istore 5, 2) := by decide +kernel
theorem dL_law_1106 : decode cL_law 1106 = .ok (.aload_n 2, 1) := by decide +kernel
theorem dL_law_1107 : decode cL_law 1107 = .ok (.aload_n 0, 1) := by decide +kernel
theorem dL_law_1108 : decode cL_law 1108 = .ok (.iload 4, 2) := by decide +kernel
theorem dL_law_1110 : decode cL_law 1110 = .ok (.iconst 1, 1) := by decide +kernel
theorem dL_law_1111 : decode cL_law 1111 = .ok (.iadd, 1) := by decide +kernel
theorem dL_law_1112 : decode cL_law 1112 = .ok (.iaload, 1) := by decide +kernel
theorem dL_law_1113 : decode cL_law 1113 = .ok (.aload_n 0, 1) := by decide +kernel
theorem dL_law_1114 : decode cL_law 1114 = .ok (.iload 4, 2) := by decide +kernel
theorem dL_law_1116 : decode cL_law 1116 = .ok (.iconst 2, 1) := by decide +kernel
theorem dL_law_1117 : decode cL_law 1117 = .ok (.iadd, 1) := by decide +kernel
theorem dL_law_1118 : decode cL_law 1118 = .ok (.iaload, 1) := by decide +kernel
theorem dL_law_1119 : decode cL_law 1119 = .ok (.aload_n 0, 1) := by decide +kernel
theorem dL_law_1120 : decode cL_law 1120 = .ok (.iload 4, 2) := by decide +kernel
theorem dL_law_1122 : decode cL_law 1122 = .ok (.iconst 3, 1) := by decide +kernel
theorem dL_law_1123 : decode cL_law 1123 = .ok (.iadd, 1) := by decide +kernel
theorem dL_law_1124 : decode cL_law 1124 = .ok (.iaload, 1) := by decide +kernel
theorem dL_law_1125 : decode cL_law 1125 = .ok (.invokevirtual 144, 3) := by decide +kernel
theorem dL_law_1128 : decode cL_law 1128 = .ok (.istore 6, 2) := by decide +kernel
theorem dL_law_1130 : decode cL_law 1130 = .ok (.aload_n 2, 1) := by decide +kernel
theorem dL_law_1131 : decode cL_law 1131 = .ok (.invokevirtual 89, 3) := by decide +kernel
theorem dL_law_1134 : decode cL_law 1134 = .ok (.iload 5, 2) := by decide +kernel
theorem dL_law_1136 : decode cL_law 1136 = .ok (.if_icmp .eq 5, 3) := by decide +kernel
theorem dL_law_1139 : decode cL_law 1139 = .ok (.iconst 0, 1) := by decide +kernel
theorem dL_law_1140 : decode cL_law 1140 = .ok (.ireturn, 1) := by decide +kernel
theorem dL_law_1141 : decode cL_law 1141 = .ok (.iload 5, 2) := by decide +kernel
theorem dL_law_1143 : decode cL_law 1143 = .ok (.ifCond .ne 15, 3) := by decide +kernel
theorem dL_law_1146 : decode cL_law 1146 = .ok (.aload_n 3, 1) := by decide +kernel
theorem dL_law_1147 : decode cL_law 1147 = .ok (.iconst 0, 1) := by decide +kernel
theorem dL_law_1148 : decode cL_law 1148 = .ok (.laload, 1) := by decide +kernel
theorem dL_law_1149 : decode cL_law 1149 = .ok (.iload 6, 2) := by decide +kernel
theorem dL_law_1151 : decode cL_law 1151 = .ok (.i2l, 1) := by decide +kernel
theorem dL_law_1152 : decode cL_law 1152 = .ok (.lcmp, 1) := by decide +kernel
theorem dL_law_1153 : decode cL_law 1153 = .ok (.ifCond .eq 5, 3) := by decide +kernel
theorem dL_law_1156 : decode cL_law 1156 = .ok (.iconst 0, 1) := by decide +kernel
theorem dL_law_1157 : decode cL_law 1157 = .ok (.ireturn, 1) := by decide +kernel
theorem dL_law_1158 : decode cL_law 1158 = .ok (.goto 368, 3) := by decide +kernel
theorem dL_law_1161 : decode cL_law 1161 = .ok (.aload_n 1, 1) := by decide +kernel
theorem dL_law_1162 : decode cL_law 1162 = .ok (.aload_n 0, 1) := by decide +kernel
theorem dL_law_1163 : decode cL_law 1163 = .ok (.iload 4, 2) := by decide +kernel
theorem dL_law_1165 : decode cL_law 1165 = .ok (.iconst 1, 1) := by decide +kernel
theorem dL_law_1166 : decode cL_law 1166 = .ok (.iadd, 1) := by decide +kernel
theorem dL_law_1167 : decode cL_law 1167 = .ok (.iaload, 1) := by decide +kernel
theorem dL_law_1168 : decode cL_law 1168 = .ok (.aload_n 0, 1) := by decide +kernel
theorem dL_law_1169 : decode cL_law 1169 = .ok (.iload 4, 2) := by decide +kernel
theorem dL_law_1171 : decode cL_law 1171 = .ok (.iconst 2, 1) := by decide +kernel
theorem dL_law_1172 : decode cL_law 1172 = .ok (.iadd, 1) := by decide +kernel
theorem dL_law_1173 : decode cL_law 1173 = .ok (.iaload, 1) := by decide +kernel
theorem dL_law_1174 : decode cL_law 1174 = .ok (.aload_n 0, 1) := by decide +kernel
theorem dL_law_1175 : decode cL_law 1175 = .ok (.iload 4, 2) := by decide +kernel
theorem dL_law_1177 : decode cL_law 1177 = .ok (.iconst 3, 1) := by decide +kernel
theorem dL_law_1178 : decode cL_law 1178 = .ok (.iadd, 1) := by decide +kernel
theorem dL_law_1179 : decode cL_law 1179 = .ok (.iaload, 1) := by decide +kernel
theorem dL_law_1180 : decode cL_law 1180 = .ok (.aload_n 3, 1) := by decide +kernel
theorem dL_law_1181 : decode cL_law 1181 = .ok (.invokestatic 145, 3) := by decide +kernel
theorem dL_law_1184 : decode cL_law 1184 = .ok (.istore 5, 2) := by decide +kernel
theorem dL_law_1186 : decode cL_law 1186 = .ok (.aload_n 2, 1) := by decide +kernel
theorem dL_law_1187 : decode cL_law 1187 = .ok (.aload_n 0, 1) := by decide +kernel
theorem dL_law_1188 : decode cL_law 1188 = .ok (.iload 4, 2) := by decide +kernel
theorem dL_law_1190 : decode cL_law 1190 = .ok (.iconst 1, 1) := by decide +kernel
theorem dL_law_1191 : decode cL_law 1191 = .ok (.iadd, 1) := by decide +kernel
theorem dL_law_1192 : decode cL_law 1192 = .ok (.iaload, 1) := by decide +kernel
theorem dL_law_1193 : decode cL_law 1193 = .ok (.aload_n 0, 1) := by decide +kernel
theorem dL_law_1194 : decode cL_law 1194 = .ok (.iload 4, 2) := by decide +kernel
theorem dL_law_1196 : decode cL_law 1196 = .ok (.iconst 2, 1) := by decide +kernel
theorem dL_law_1197 : decode cL_law 1197 = .ok (.iadd, 1) := by decide +kernel
theorem dL_law_1198 : decode cL_law 1198 = .ok (.iaload, 1) := by decide +kernel
theorem dL_law_1199 : decode cL_law 1199 = .ok (.aload_n 0, 1) := by decide +kernel
theorem dL_law_1200 : decode cL_law 1200 = .ok (.iload 4, 2) := by decide +kernel
theorem dL_law_1202 : decode cL_law 1202 = .ok (.iconst 3, 1) := by decide +kernel
theorem dL_law_1203 : decode cL_law 1203 = .ok (.iadd, 1) := by decide +kernel
theorem dL_law_1204 : decode cL_law 1204 = .ok (.iaload, 1) := by decide +kernel
theorem dL_law_1205 : decode cL_law 1205 = .ok (.invokevirtual 147, 3) := by decide +kernel
theorem dL_law_1208 : decode cL_law 1208 = .ok (.lstore 6, 2) := by decide +kernel
theorem dL_law_1210 : decode cL_law 1210 = .ok (.aload_n 2, 1) := by decide +kernel
theorem dL_law_1211 : decode cL_law 1211 = .ok (.invokevirtual 89, 3) := by decide +kernel
theorem dL_law_1214 : decode cL_law 1214 = .ok (.iload 5, 2) := by decide +kernel
theorem dL_law_1216 : decode cL_law 1216 = .ok (.if_icmp .eq 5, 3) := by decide +kernel
theorem dL_law_1219 : decode cL_law 1219 = .ok (.iconst 0, 1) := by decide +kernel
theorem dL_law_1220 : decode cL_law 1220 = .ok (.ireturn, 1) := by decide +kernel
theorem dL_law_1221 : decode cL_law 1221 = .ok (.iload 5, 2) := by decide +kernel
theorem dL_law_1223 : decode cL_law 1223 = .ok (.ifCond .ne 14, 3) := by decide +kernel
theorem dL_law_1226 : decode cL_law 1226 = .ok (.aload_n 3, 1) := by decide +kernel
theorem dL_law_1227 : decode cL_law 1227 = .ok (.iconst 0, 1) := by decide +kernel
theorem dL_law_1228 : decode cL_law 1228 = .ok (.laload, 1) := by decide +kernel
theorem dL_law_1229 : decode cL_law 1229 = .ok (.lload 6, 2) := by decide +kernel
theorem dL_law_1231 : decode cL_law 1231 = .ok (.lcmp, 1) := by decide +kernel
theorem dL_law_1232 : decode cL_law 1232 = .ok (.ifCond .eq 5, 3) := by decide +kernel
theorem dL_law_1235 : decode cL_law 1235 = .ok (.iconst 0, 1) := by decide +kernel
theorem dL_law_1236 : decode cL_law 1236 = .ok (.ireturn, 1) := by decide +kernel
theorem dL_law_1237 : decode cL_law 1237 = .ok (.goto 289, 3) := by decide +kernel
theorem dL_law_1240 : decode cL_law 1240 = .ok (.aload_n 1, 1) := by decide +kernel
theorem dL_law_1241 : decode cL_law 1241 = .ok (.invokevirtual 148, 3) := by decide +kernel
theorem dL_law_1244 : decode cL_law 1244 = .ok (.aload_n 2, 1) := by decide +kernel
theorem dL_law_1245 : decode cL_law 1245 = .ok (.invokevirtual 152, 3) := by decide +kernel
theorem dL_law_1248 : decode cL_law 1248 = .ok (.lcmp, 1) := by decide +kernel
theorem dL_law_1249 : decode cL_law 1249 = .ok (.ifCond .eq 277, 3) := by decide +kernel
theorem dL_law_1252 : decode cL_law 1252 = .ok (.iconst 0, 1) := by decide +kernel
theorem dL_law_1253 : decode cL_law 1253 = .ok (.ireturn, 1) := by decide +kernel
theorem dL_law_1254 : decode cL_law 1254 = .ok (.aload_n 1, 1) := by decide +kernel
theorem dL_law_1255 : decode cL_law 1255 = .ok (.aload_n 0, 1) := by decide +kernel
theorem dL_law_1256 : decode cL_law 1256 = .ok (.iload 4, 2) := by decide +kernel
theorem dL_law_1258 : decode cL_law 1258 = .ok (.iconst 1, 1) := by decide +kernel
theorem dL_law_1259 : decode cL_law 1259 = .ok (.iadd, 1) := by decide +kernel
theorem dL_law_1260 : decode cL_law 1260 = .ok (.iaload, 1) := by decide +kernel
theorem dL_law_1261 : decode cL_law 1261 = .ok (.aload_n 3, 1) := by decide +kernel
theorem dL_law_1262 : decode cL_law 1262 = .ok (.invokestatic 153, 3) := by decide +kernel
theorem dL_law_1265 : decode cL_law 1265 = .ok (.istore 5, 2) := by decide +kernel
theorem dL_law_1267 : decode cL_law 1267 = .ok (.aload_n 2, 1) := by decide +kernel
theorem dL_law_1268 : decode cL_law 1268 = .ok (.aload_n 0, 1) := by decide +kernel
theorem dL_law_1269 : decode cL_law 1269 = .ok (.iload 4, 2) := by decide +kernel
theorem dL_law_1271 : decode cL_law 1271 = .ok (.iconst 1, 1) := by decide +kernel
theorem dL_law_1272 : decode cL_law 1272 = .ok (.iadd, 1) := by decide +kernel
theorem dL_law_1273 : decode cL_law 1273 = .ok (.iaload, 1) := by decide +kernel
theorem dL_law_1274 : decode cL_law 1274 = .ok (.invokevirtual 155, 3) := by decide +kernel
theorem dL_law_1277 : decode cL_law 1277 = .ok (.istore 6, 2) := by decide +kernel
theorem dL_law_1279 : decode cL_law 1279 = .ok (.aload_n 2, 1) := by decide +kernel
theorem dL_law_1280 : decode cL_law 1280 = .ok (.invokevirtual 89, 3) := by decide +kernel
theorem dL_law_1283 : decode cL_law 1283 = .ok (.iload 5, 2) := by decide +kernel
theorem dL_law_1285 : decode cL_law 1285 = .ok (.if_icmp .eq 5, 3) := by decide +kernel
theorem dL_law_1288 : decode cL_law 1288 = .ok (.iconst 0, 1) := by decide +kernel
theorem dL_law_1289 : decode cL_law 1289 = .ok (.ireturn, 1) := by decide +kernel
theorem dL_law_1290 : decode cL_law 1290 = .ok (.iload 5, 2) := by decide +kernel
theorem dL_law_1292 : decode cL_law 1292 = .ok (.ifCond .ne 15, 3) := by decide +kernel
theorem dL_law_1295 : decode cL_law 1295 = .ok (.aload_n 3, 1) := by decide +kernel
theorem dL_law_1296 : decode cL_law 1296 = .ok (.iconst 0, 1) := by decide +kernel
theorem dL_law_1297 : decode cL_law 1297 = .ok (.laload, 1) := by decide +kernel
theorem dL_law_1298 : decode cL_law 1298 = .ok (.iload 6, 2) := by decide +kernel
theorem dL_law_1300 : decode cL_law 1300 = .ok (.i2l, 1) := by decide +kernel
theorem dL_law_1301 : decode cL_law 1301 = .ok (.lcmp, 1) := by decide +kernel
theorem dL_law_1302 : decode cL_law 1302 = .ok (.ifCond .eq 5, 3) := by decide +kernel
theorem dL_law_1305 : decode cL_law 1305 = .ok (.iconst 0, 1) := by decide +kernel
theorem dL_law_1306 : decode cL_law 1306 = .ok (.ireturn, 1) := by decide +kernel
theorem dL_law_1307 : decode cL_law 1307 = .ok (.goto 219, 3) := by decide +kernel
theorem dL_law_1310 : decode cL_law 1310 = .ok (.aload_n 1, 1) := by decide +kernel
theorem dL_law_1311 : decode cL_law 1311 = .ok (.aload_n 0, 1) := by decide +kernel
theorem dL_law_1312 : decode cL_law 1312 = .ok (.iload 4, 2) := by decide +kernel
theorem dL_law_1314 : decode cL_law 1314 = .ok (.iconst 1, 1) := by decide +kernel
theorem dL_law_1315 : decode cL_law 1315 = .ok (.iadd, 1) := by decide +kernel
theorem dL_law_1316 : decode cL_law 1316 = .ok (.iaload, 1) := by decide +kernel
theorem dL_law_1317 : decode cL_law 1317 = .ok (.aload_n 0, 1) := by decide +kernel
theorem dL_law_1318 : decode cL_law 1318 = .ok (.iload 4, 2) := by decide +kernel
theorem dL_law_1320 : decode cL_law 1320 = .ok (.iconst 2, 1) := by decide +kernel
theorem dL_law_1321 : decode cL_law 1321 = .ok (.iadd, 1) := by decide +kernel
theorem dL_law_1322 : decode cL_law 1322 = .ok (.iaload, 1) := by decide +kernel
theorem dL_law_1323 : decode cL_law 1323 = .ok (.aload_n 0, 1) := by decide +kernel
theorem dL_law_1324 : decode cL_law 1324 = .ok (.iload 4, 2) := by decide +kernel
theorem dL_law_1326 : decode cL_law 1326 = .ok (.iconst 3, 1) := by decide +kernel
theorem dL_law_1327 : decode cL_law 1327 = .ok (.iadd, 1) := by decide +kernel
theorem dL_law_1328 : decode cL_law 1328 = .ok (.iaload, 1) := by decide +kernel
theorem dL_law_1329 : decode cL_law 1329 = .ok (.aload_n 0, 1) := by decide +kernel
theorem dL_law_1330 : decode cL_law 1330 = .ok (.iload 4, 2) := by decide +kernel
theorem dL_law_1332 : decode cL_law 1332 = .ok (.iconst 4, 1) := by decide +kernel
theorem dL_law_1333 : decode cL_law 1333 = .ok (.iadd, 1) := by decide +kernel
theorem dL_law_1334 : decode cL_law 1334 = .ok (.iaload, 1) := by decide +kernel
theorem dL_law_1335 : decode cL_law 1335 = .ok (.aload_n 3, 1) := by decide +kernel
theorem dL_law_1336 : decode cL_law 1336 = .ok (.invokestatic 156, 3) := by decide +kernel
theorem dL_law_1339 : decode cL_law 1339 = .ok (.istore 5, 2) := by decide +kernel
theorem dL_law_1341 : decode cL_law 1341 = .ok (.aload_n 2, 1) := by decide +kernel
theorem dL_law_1342 : decode cL_law 1342 = .ok (.aload_n 0, 1) := by decide +kernel
theorem dL_law_1343 : decode cL_law 1343 = .ok (.iload 4, 2) := by decide +kernel
theorem dL_law_1345 : decode cL_law 1345 = .ok (.iconst 1, 1) := by decide +kernel
theorem dL_law_1346 : decode cL_law 1346 = .ok (.iadd, 1) := by decide +kernel
theorem dL_law_1347 : decode cL_law 1347 = .ok (.iaload, 1) := by decide +kernel
theorem dL_law_1348 : decode cL_law 1348 = .ok (.aload_n 0, 1) := by decide +kernel
theorem dL_law_1349 : decode cL_law 1349 = .ok (.iload 4, 2) := by decide +kernel
theorem dL_law_1351 : decode cL_law 1351 = .ok (.iconst 2, 1) := by decide +kernel
theorem dL_law_1352 : decode cL_law 1352 = .ok (.iadd, 1) := by decide +kernel
theorem dL_law_1353 : decode cL_law 1353 = .ok (.iaload, 1) := by decide +kernel
theorem dL_law_1354 : decode cL_law 1354 = .ok (.aload_n 0, 1) := by decide +kernel
theorem dL_law_1355 : decode cL_law 1355 = .ok (.iload 4, 2) := by decide +kernel
theorem dL_law_1357 : decode cL_law 1357 = .ok (.iconst 3, 1) := by decide +kernel
theorem dL_law_1358 : decode cL_law 1358 = .ok (.iadd, 1) := by decide +kernel
theorem dL_law_1359 : decode cL_law 1359 = .ok (.iaload, 1) := by decide +kernel
theorem dL_law_1360 : decode cL_law 1360 = .ok (.aload_n 0, 1) := by decide +kernel
theorem dL_law_1361 : decode cL_law 1361 = .ok (.iload 4, 2) := by decide +kernel
theorem dL_law_1363 : decode cL_law 1363 = .ok (.iconst 4, 1) := by decide +kernel
theorem dL_law_1364 : decode cL_law 1364 = .ok (.iadd, 1) := by decide +kernel
theorem dL_law_1365 : decode cL_law 1365 = .ok (.iaload, 1) := by decide +kernel
theorem dL_law_1366 : decode cL_law 1366 = .ok (.invokevirtual 159, 3) := by decide +kernel
theorem dL_law_1369 : decode cL_law 1369 = .ok (.istore 6, 2) := by decide +kernel
theorem dL_law_1371 : decode cL_law 1371 = .ok (.aload_n 2, 1) := by decide +kernel
theorem dL_law_1372 : decode cL_law 1372 = .ok (.invokevirtual 89, 3) := by decide +kernel
theorem dL_law_1375 : decode cL_law 1375 = .ok (.iload 5, 2) := by decide +kernel
theorem dL_law_1377 : decode cL_law 1377 = .ok (.if_icmp .eq 5, 3) := by decide +kernel
theorem dL_law_1380 : decode cL_law 1380 = .ok (.iconst 0, 1) := by decide +kernel
theorem dL_law_1381 : decode cL_law 1381 = .ok (.ireturn, 1) := by decide +kernel
theorem dL_law_1382 : decode cL_law 1382 = .ok (.iload 5, 2) := by decide +kernel
theorem dL_law_1384 : decode cL_law 1384 = .ok (.ifCond .ne 15, 3) := by decide +kernel
theorem dL_law_1387 : decode cL_law 1387 = .ok (.aload_n 3, 1) := by decide +kernel
theorem dL_law_1388 : decode cL_law 1388 = .ok (.iconst 0, 1) := by decide +kernel
theorem dL_law_1389 : decode cL_law 1389 = .ok (.laload, 1) := by decide +kernel
theorem dL_law_1390 : decode cL_law 1390 = .ok (.iload 6, 2) := by decide +kernel
theorem dL_law_1392 : decode cL_law 1392 = .ok (.i2l, 1) := by decide +kernel
theorem dL_law_1393 : decode cL_law 1393 = .ok (.lcmp, 1) := by decide +kernel
theorem dL_law_1394 : decode cL_law 1394 = .ok (.ifCond .eq 5, 3) := by decide +kernel
theorem dL_law_1397 : decode cL_law 1397 = .ok (.iconst 0, 1) := by decide +kernel
theorem dL_law_1398 : decode cL_law 1398 = .ok (.ireturn, 1) := by decide +kernel
theorem dL_law_1399 : decode cL_law 1399 = .ok (.goto 127, 3) := by decide +kernel
theorem dL_law_1402 : decode cL_law 1402 = .ok (.aload_n 1, 1) := by decide +kernel
theorem dL_law_1403 : decode cL_law 1403 = .ok (.aload_n 0, 1) := by decide +kernel
theorem dL_law_1404 : decode cL_law 1404 = .ok (.iload 4, 2) := by decide +kernel
theorem dL_law_1406 : decode cL_law 1406 = .ok (.iconst 1, 1) := by decide +kernel
theorem dL_law_1407 : decode cL_law 1407 = .ok (.iadd, 1) := by decide +kernel
theorem dL_law_1408 : decode cL_law 1408 = .ok (.iaload, 1) := by decide +kernel
theorem dL_law_1409 : decode cL_law 1409 = .ok (.aload_n 3, 1) := by decide +kernel
theorem dL_law_1410 : decode cL_law 1410 = .ok (.invokestatic 160, 3) := by decide +kernel
theorem dL_law_1413 : decode cL_law 1413 = .ok (.istore 5, 2) := by decide +kernel
theorem dL_law_1415 : decode cL_law 1415 = .ok (.aload_n 2, 1) := by decide +kernel
theorem dL_law_1416 : decode cL_law 1416 = .ok (.aload_n 0, 1) := by decide +kernel
theorem dL_law_1417 : decode cL_law 1417 = .ok (.iload 4, 2) := by decide +kernel
theorem dL_law_1419 : decode cL_law 1419 = .ok (.iconst 1, 1) := by decide +kernel
theorem dL_law_1420 : decode cL_law 1420 = .ok (.iadd, 1) := by decide +kernel
theorem dL_law_1421 : decode cL_law 1421 = .ok (.iaload, 1) := by decide +kernel
theorem dL_law_1422 : decode cL_law 1422 = .ok (.invokevirtual 162, 3) := by decide +kernel
theorem dL_law_1425 : decode cL_law 1425 = .ok (.istore 6, 2) := by decide +kernel
theorem dL_law_1427 : decode cL_law 1427 = .ok (.aload_n 2, 1) := by decide +kernel
theorem dL_law_1428 : decode cL_law 1428 = .ok (.invokevirtual 89, 3) := by decide +kernel
theorem dL_law_1431 : decode cL_law 1431 = .ok (.iload 5, 2) := by decide +kernel
theorem dL_law_1433 : decode cL_law 1433 = .ok (.if_icmp .eq 5, 3) := by decide +kernel
theorem dL_law_1436 : decode cL_law 1436 = .ok (.iconst 0, 1) := by decide +kernel
theorem dL_law_1437 : decode cL_law 1437 = .ok (.ireturn, 1) := by decide +kernel
theorem dL_law_1438 : decode cL_law 1438 = .ok (.iload 5, 2) := by decide +kernel
theorem dL_law_1440 : decode cL_law 1440 = .ok (.ifCond .ne 15, 3) := by decide +kernel
theorem dL_law_1443 : decode cL_law 1443 = .ok (.aload_n 3, 1) := by decide +kernel
theorem dL_law_1444 : decode cL_law 1444 = .ok (.iconst 0, 1) := by decide +kernel
theorem dL_law_1445 : decode cL_law 1445 = .ok (.laload, 1) := by decide +kernel
theorem dL_law_1446 : decode cL_law 1446 = .ok (.iload 6, 2) := by decide +kernel
theorem dL_law_1448 : decode cL_law 1448 = .ok (.i2l, 1) := by decide +kernel
theorem dL_law_1449 : decode cL_law 1449 = .ok (.lcmp, 1) := by decide +kernel
theorem dL_law_1450 : decode cL_law 1450 = .ok (.ifCond .eq 5, 3) := by decide +kernel
theorem dL_law_1453 : decode cL_law 1453 = .ok (.iconst 0, 1) := by decide +kernel
theorem dL_law_1454 : decode cL_law 1454 = .ok (.ireturn, 1) := by decide +kernel
theorem dL_law_1455 : decode cL_law 1455 = .ok (.goto 71, 3) := by decide +kernel
theorem dL_law_1458 : decode cL_law 1458 = .ok (.aload_n 1, 1) := by decide +kernel
theorem dL_law_1459 : decode cL_law 1459 = .ok (.invokevirtual 163, 3) := by decide +kernel
theorem dL_law_1462 : decode cL_law 1462 = .ok (.aload_n 2, 1) := by decide +kernel
theorem dL_law_1463 : decode cL_law 1463 = .ok (.invokevirtual 166, 3) := by decide +kernel
theorem dL_law_1466 : decode cL_law 1466 = .ok (.if_icmp .eq 60, 3) := by decide +kernel
theorem dL_law_1469 : decode cL_law 1469 = .ok (.iconst 0, 1) := by decide +kernel
theorem dL_law_1470 : decode cL_law 1470 = .ok (.ireturn, 1) := by decide +kernel
theorem dL_law_1471 : decode cL_law 1471 = .ok (.aload_n 1, 1) := by decide +kernel
theorem dL_law_1472 : decode cL_law 1472 = .ok (.invokevirtual 167, 3) := by decide +kernel
theorem dL_law_1475 : decode cL_law 1475 = .ok (.dstore 5, 2) := by decide +kernel
theorem dL_law_1477 : decode cL_law 1477 = .ok (.aload_n 2, 1) := by decide +kernel
theorem dL_law_1478 : decode cL_law 1478 = .ok (.invokevirtual 171, 3) := by decide +kernel
theorem dL_law_1481 : decode cL_law 1481 = .ok (.dstore 7, 2) := by decide +kernel
theorem dL_law_1483 : decode cL_law 1483 = .ok (.dload 5, 2) := by decide +kernel
theorem dL_law_1485 : decode cL_law 1485 = .ok (.dload 7, 2) := by decide +kernel
theorem dL_law_1487 : decode cL_law 1487 = .ok (.dcmp .l, 1) := by decide +kernel
theorem dL_law_1488 : decode cL_law 1488 = .ok (.ifCond .eq 21, 3) := by decide +kernel
theorem dL_law_1491 : decode cL_law 1491 = .ok (.dload 5, 2) := by decide +kernel
theorem dL_law_1493 : decode cL_law 1493 = .ok (.dload 5, 2) := by decide +kernel
theorem dL_law_1495 : decode cL_law 1495 = .ok (.dcmp .l, 1) := by decide +kernel
theorem dL_law_1496 : decode cL_law 1496 = .ok (.ifCond .eq 11, 3) := by decide +kernel
theorem dL_law_1499 : decode cL_law 1499 = .ok (.dload 7, 2) := by decide +kernel
theorem dL_law_1501 : decode cL_law 1501 = .ok (.dload 7, 2) := by decide +kernel
theorem dL_law_1503 : decode cL_law 1503 = .ok (.dcmp .l, 1) := by decide +kernel
theorem dL_law_1504 : decode cL_law 1504 = .ok (.ifCond .ne 5, 3) := by decide +kernel
theorem dL_law_1507 : decode cL_law 1507 = .ok (.iconst 0, 1) := by decide +kernel
theorem dL_law_1508 : decode cL_law 1508 = .ok (.ireturn, 1) := by decide +kernel
theorem dL_law_1509 : decode cL_law 1509 = .ok (.goto 17, 3) := by decide +kernel
theorem dL_law_1512 : decode cL_law 1512 = .ok (.aload_n 1, 1) := by decide +kernel
theorem dL_law_1513 : decode cL_law 1513 = .ok (.invokevirtual 172, 3) := by decide +kernel
theorem dL_law_1516 : decode cL_law 1516 = .ok (.aload_n 2, 1) := by decide +kernel
theorem dL_law_1517 : decode cL_law 1517 = .ok (.invokevirtual 175, 3) := by decide +kernel
theorem dL_law_1520 : decode cL_law 1520 = .ok (.lcmp, 1) := by decide +kernel
theorem dL_law_1521 : decode cL_law 1521 = .ok (.ifCond .eq 5, 3) := by decide +kernel
theorem dL_law_1524 : decode cL_law 1524 = .ok (.iconst 0, 1) := by decide +kernel
theorem dL_law_1525 : decode cL_law 1525 = .ok (.ireturn, 1) := by decide +kernel
theorem dL_law_1526 : decode cL_law 1526 = .ok (.iinc 4 5, 3) := by decide +kernel
theorem dL_law_1529 : decode cL_law 1529 = .ok (.goto (-1506), 3) := by decide +kernel
theorem dL_law_1532 : decode cL_law 1532 = .ok (.iconst 1, 1) := by decide +kernel
theorem dL_law_1533 : decode cL_law 1533 = .ok (.ireturn, 1) := by decide +kernel
