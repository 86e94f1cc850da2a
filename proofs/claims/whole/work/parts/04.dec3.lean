theorem dX8_split_64 : decode cX8_split 64 = .ok (.iconst 0, 1) := by decide +kernel
theorem dX8_split_65 : decode cX8_split 65 = .ok (.ireturn, 1) := by decide +kernel
theorem dX8_split_66 : decode cX8_split 66 = .ok (.aload_n 0, 1) := by decide +kernel
theorem dX8_split_67 : decode cX8_split 67 = .ok (.invokevirtual 300, 3) := by decide +kernel
theorem dX8_split_70 : decode cX8_split 70 = .ok (.aload_n 0, 1) := by decide +kernel
theorem dX8_split_71 : decode cX8_split 71 = .ok (.iload_n 1, 1) := by decide +kernel
theorem dX8_split_72 : decode cX8_split 72 = .ok (.aload_n 0, 1) := by decide +kernel
theorem dX8_split_73 : decode cX8_split 73 = .ok (.iload_n 1, 1) := by decide +kernel
theorem dX8_split_74 : decode cX8_split 74 = .ok (.iload_n 2, 1) := by decide +kernel
theorem dX8_split_75 : decode cX8_split 75 = .ok (.invokevirtual 290, 3) := by decide +kernel
theorem dX8_split_78 : decode cX8_split 78 = .ok (.invokevirtual 321, 3) := by decide +kernel
theorem dX8_split_81 : decode cX8_split 81 = .ok (.aload_n 0, 1) := by decide +kernel
theorem dX8_split_82 : decode cX8_split 82 = .ok (.getfield 7, 3) := by decide +kernel
theorem dX8_split_85 : decode cX8_split 85 = .ok (.iconst 0, 1) := by decide +kernel
theorem dX8_split_86 : decode cX8_split 86 = .ok (.iaload, 1) := by decide +kernel
theorem dX8_split_87 : decode cX8_split 87 = .ok (.ireturn, 1) := by decide +kernel
theorem dX8_unite_0 : decode cX8_unite 0 = .ok (.aload_n 0, 1) := by decide +kernel
theorem dX8_unite_1 : decode cX8_unite 1 = .ok (.getfield 7, 3) := by decide +kernel
theorem dX8_unite_4 : decode cX8_unite 4 = .ok (.bipush 85, 2) := by decide +kernel
theorem dX8_unite_6 : decode cX8_unite 6 = .ok (.iload_n 1, 1) := by decide +kernel
theorem dX8_unite_7 : decode cX8_unite 7 = .ok (.iadd, 1) := by decide +kernel
theorem dX8_unite_8 : decode cX8_unite 8 = .ok (.iaload, 1) := by decide +kernel
theorem dX8_unite_9 : decode cX8_unite 9 = .ok (.istore_n 2, 1) := by decide +kernel
theorem dX8_unite_10 : decode cX8_unite 10 = .ok (.aload_n 0, 1) := by decide +kernel
theorem dX8_unite_11 : decode cX8_unite 11 = .ok (.getfield 7, 3) := by decide +kernel
theorem dX8_unite_14 : decode cX8_unite 14 = .ok (.bipush 95, 2) := by decide +kernel
theorem dX8_unite_16 : decode cX8_unite 16 = .ok (.sipush 360, 3) := by decide +kernel
theorem dX8_unite_19 : decode cX8_unite 19 = .ok (.iload_n 1, 1) := by decide +kernel
theorem dX8_unite_20 : decode cX8_unite 20 = .ok (.imul, 1) := by decide +kernel
theorem dX8_unite_21 : decode cX8_unite 21 = .ok (.iadd, 1) := by decide +kernel
theorem dX8_unite_22 : decode cX8_unite 22 = .ok (.iload_n 2, 1) := by decide +kernel
theorem dX8_unite_23 : decode cX8_unite 23 = .ok (.iadd, 1) := by decide +kernel
theorem dX8_unite_24 : decode cX8_unite 24 = .ok (.bipush 32, 2) := by decide +kernel
theorem dX8_unite_26 : decode cX8_unite 26 = .ok (.iastore, 1) := by decide +kernel
theorem dX8_unite_27 : decode cX8_unite 27 = .ok (.iconst 0, 1) := by decide +kernel
theorem dX8_unite_28 : decode cX8_unite 28 = .ok (.istore_n 3, 1) := by decide +kernel
theorem dX8_unite_29 : decode cX8_unite 29 = .ok (.iload_n 3, 1) := by decide +kernel
theorem dX8_unite_30 : decode cX8_unite 30 = .ok (.aload_n 0, 1) := by decide +kernel
theorem dX8_unite_31 : decode cX8_unite 31 = .ok (.getfield 7, 3) := by decide +kernel
theorem dX8_unite_34 : decode cX8_unite 34 = .ok (.bipush 85, 2) := by decide +kernel
theorem dX8_unite_36 : decode cX8_unite 36 = .ok (.iload_n 1, 1) := by decide +kernel
theorem dX8_unite_37 : decode cX8_unite 37 = .ok (.iadd, 1) := by decide +kernel
theorem dX8_unite_38 : decode cX8_unite 38 = .ok (.iconst 1, 1) := by decide +kernel
theorem dX8_unite_39 : decode cX8_unite 39 = .ok (.iadd, 1) := by decide +kernel
theorem dX8_unite_40 : decode cX8_unite 40 = .ok (.iaload, 1) := by decide +kernel
theorem dX8_unite_41 : decode cX8_unite 41 = .ok (.if_icmp .ge 45, 3) := by decide +kernel
theorem dX8_unite_44 : decode cX8_unite 44 = .ok (.aload_n 0, 1) := by decide +kernel
theorem dX8_unite_45 : decode cX8_unite 45 = .ok (.getfield 7, 3) := by decide +kernel
theorem dX8_unite_48 : decode cX8_unite 48 = .ok (.bipush 95, 2) := by decide +kernel
theorem dX8_unite_50 : decode cX8_unite 50 = .ok (.sipush 360, 3) := by decide +kernel
theorem dX8_unite_53 : decode cX8_unite 53 = .ok (.iload_n 1, 1) := by decide +kernel
theorem dX8_unite_54 : decode cX8_unite 54 = .ok (.imul, 1) := by decide +kernel
theorem dX8_unite_55 : decode cX8_unite 55 = .ok (.iadd, 1) := by decide +kernel
theorem dX8_unite_56 : decode cX8_unite 56 = .ok (.iload_n 2, 1) := by decide +kernel
theorem dX8_unite_57 : decode cX8_unite 57 = .ok (.iadd, 1) := by decide +kernel
theorem dX8_unite_58 : decode cX8_unite 58 = .ok (.iconst 1, 1) := by decide +kernel
theorem dX8_unite_59 : decode cX8_unite 59 = .ok (.iadd, 1) := by decide +kernel
theorem dX8_unite_60 : decode cX8_unite 60 = .ok (.iload_n 3, 1) := by decide +kernel
theorem dX8_unite_61 : decode cX8_unite 61 = .ok (.iadd, 1) := by decide +kernel
theorem dX8_unite_62 : decode cX8_unite 62 = .ok (.aload_n 0, 1) := by decide +kernel
theorem dX8_unite_63 : decode cX8_unite 63 = .ok (.getfield 7, 3) := by decide +kernel
theorem dX8_unite_66 : decode cX8_unite 66 = .ok (.bipush 95, 2) := by decide +kernel
theorem dX8_unite_68 : decode cX8_unite 68 = .ok (.sipush 360, 3) := by decide +kernel
theorem dX8_unite_71 : decode cX8_unite 71 = .ok (.iload_n 1, 1) := by decide +kernel
theorem dX8_unite_72 : decode cX8_unite 72 = .ok (.iconst 1, 1) := by decide +kernel
theorem dX8_unite_73 : decode cX8_unite 73 = .ok (.iadd, 1) := by decide +kernel
theorem dX8_unite_74 : decode cX8_unite 74 = .ok (.imul, 1) := by decide +kernel
theorem dX8_unite_75 : decode cX8_unite 75 = .ok (.iadd, 1) := by decide +kernel
theorem dX8_unite_76 : decode cX8_unite 76 = .ok (.iload_n 3, 1) := by decide +kernel
theorem dX8_unite_77 : decode cX8_unite 77 = .ok (.iadd, 1) := by decide +kernel
theorem dX8_unite_78 : decode cX8_unite 78 = .ok (.iaload, 1) := by decide +kernel
theorem dX8_unite_79 : decode cX8_unite 79 = .ok (.iastore, 1) := by decide +kernel
theorem dX8_unite_80 : decode cX8_unite 80 = .ok (.iinc 3 1, 3) := by decide +kernel
theorem dX8_unite_83 : decode cX8_unite 83 = .ok (.goto (-54), 3) := by decide +kernel
theorem dX8_unite_86 : decode cX8_unite 86 = .ok (.aload_n 0, 1) := by decide +kernel
theorem dX8_unite_87 : decode cX8_unite 87 = .ok (.getfield 7, 3) := by decide +kernel
theorem dX8_unite_90 : decode cX8_unite 90 = .ok (.bipush 85, 2) := by decide +kernel
theorem dX8_unite_92 : decode cX8_unite 92 = .ok (.iload_n 1, 1) := by decide +kernel
theorem dX8_unite_93 : decode cX8_unite 93 = .ok (.iadd, 1) := by decide +kernel
theorem dX8_unite_94 : decode cX8_unite 94 = .ok (.iload_n 2, 1) := by decide +kernel
theorem dX8_unite_95 : decode cX8_unite 95 = .ok (.iconst 1, 1) := by decide +kernel
theorem dX8_unite_96 : decode cX8_unite 96 = .ok (.iadd, 1) := by decide +kernel
theorem dX8_unite_97 : decode cX8_unite 97 = .ok (.aload_n 0, 1) := by decide +kernel
theorem dX8_unite_98 : decode cX8_unite 98 = .ok (.getfield 7, 3) := by decide +kernel
theorem dX8_unite_101 : decode cX8_unite 101 = .ok (.bipush 85, 2) := by decide +kernel
theorem dX8_unite_103 : decode cX8_unite 103 = .ok (.iload_n 1, 1) := by decide +kernel
theorem dX8_unite_104 : decode cX8_unite 104 = .ok (.iadd, 1) := by decide +kernel
theorem dX8_unite_105 : decode cX8_unite 105 = .ok (.iconst 1, 1) := by decide +kernel
theorem dX8_unite_106 : decode cX8_unite 106 = .ok (.iadd, 1) := by decide +kernel
theorem dX8_unite_107 : decode cX8_unite 107 = .ok (.iaload, 1) := by decide +kernel
theorem dX8_unite_108 : decode cX8_unite 108 = .ok (.iadd, 1) := by decide +kernel
theorem dX8_unite_109 : decode cX8_unite 109 = .ok (.iastore, 1) := by decide +kernel
theorem dX8_unite_110 : decode cX8_unite 110 = .ok (.iconst 0, 1) := by decide +kernel
theorem dX8_unite_111 : decode cX8_unite 111 = .ok (.istore_n 3, 1) := by decide +kernel
theorem dX8_unite_112 : decode cX8_unite 112 = .ok (.iload_n 3, 1) := by decide +kernel
theorem dX8_unite_113 : decode cX8_unite 113 = .ok (.aload_n 0, 1) := by decide +kernel
theorem dX8_unite_114 : decode cX8_unite 114 = .ok (.getfield 7, 3) := by decide +kernel
theorem dX8_unite_117 : decode cX8_unite 117 = .ok (.iconst 3, 1) := by decide +kernel
theorem dX8_unite_118 : decode cX8_unite 118 = .ok (.iaload, 1) := by decide +kernel
theorem dX8_unite_119 : decode cX8_unite 119 = .ok (.if_icmp .gt 58, 3) := by decide +kernel
theorem dX8_unite_122 : decode cX8_unite 122 = .ok (.iload_n 3, 1) := by decide +kernel
theorem dX8_unite_123 : decode cX8_unite 123 = .ok (.ifCond .ne 7, 3) := by decide +kernel
theorem dX8_unite_126 : decode cX8_unite 126 = .ok (.iconst 1, 1) := by decide +kernel
theorem dX8_unite_127 : decode cX8_unite 127 = .ok (.goto 10, 3) := by decide +kernel
theorem dX8_unite_130 : decode cX8_unite 130 = .ok (.iconst 4, 1) := by decide +kernel
theorem dX8_unite_131 : decode cX8_unite 131 = .ok (.iconst 2, 1) := by decide +kernel
theorem dX8_unite_132 : decode cX8_unite 132 = .ok (.iload_n 3, 1) := by decide +kernel
theorem dX8_unite_133 : decode cX8_unite 133 = .ok (.imul, 1) := by decide +kernel
theorem dX8_unite_134 : decode cX8_unite 134 = .ok (.iadd, 1) := by decide +kernel
theorem dX8_unite_135 : decode cX8_unite 135 = .ok (.iconst 2, 1) := by decide +kernel
theorem dX8_unite_136 : decode cX8_unite 136 = .ok (.isub, 1) := by decide +kernel
theorem dX8_unite_137 : decode cX8_unite 137 = .ok (.istore 4, 2) := by decide +kernel
theorem dX8_unite_139 : decode cX8_unite 139 = .ok (.aload_n 0, 1) := by decide +kernel
theorem dX8_unite_140 : decode cX8_unite 140 = .ok (.getfield 7, 3) := by decide +kernel
theorem dX8_unite_143 : decode cX8_unite 143 = .ok (.iload 4, 2) := by decide +kernel
theorem dX8_unite_145 : decode cX8_unite 145 = .ok (.iconst 1, 1) := by decide +kernel
theorem dX8_unite_146 : decode cX8_unite 146 = .ok (.iadd, 1) := by decide +kernel
theorem dX8_unite_147 : decode cX8_unite 147 = .ok (.dup2, 1) := by decide +kernel
theorem dX8_unite_148 : decode cX8_unite 148 = .ok (.iaload, 1) := by decide +kernel
theorem dX8_unite_149 : decode cX8_unite 149 = .ok (.aload_n 0, 1) := by decide +kernel
theorem dX8_unite_150 : decode cX8_unite 150 = .ok (.getfield 7, 3) := by decide +kernel
theorem dX8_unite_153 : decode cX8_unite 153 = .ok (.iload 4, 2) := by decide +kernel
theorem dX8_unite_155 : decode cX8_unite 155 = .ok (.iaload, 1) := by decide +kernel
theorem dX8_unite_156 : decode cX8_unite 156 = .ok (.iload_n 1, 1) := by decide +kernel
theorem dX8_unite_157 : decode cX8_unite 157 = .ok (.iconst 1, 1) := by decide +kernel
theorem dX8_unite_158 : decode cX8_unite 158 = .ok (.iadd, 1) := by decide +kernel
theorem dX8_unite_159 : decode cX8_unite 159 = .ok (.if_icmp .ne 9, 3) := by decide +kernel
theorem dX8_unite_162 : decode cX8_unite 162 = .ok (.iload_n 2, 1) := by decide +kernel
theorem dX8_unite_163 : decode cX8_unite 163 = .ok (.iconst 1, 1) := by decide +kernel
theorem dX8_unite_164 : decode cX8_unite 164 = .ok (.iadd, 1) := by decide +kernel
theorem dX8_unite_165 : decode cX8_unite 165 = .ok (.goto 4, 3) := by decide +kernel
theorem dX8_unite_168 : decode cX8_unite 168 = .ok (.iconst 0, 1) := by decide +kernel
theorem dX8_unite_169 : decode cX8_unite 169 = .ok (.iadd, 1) := by decide +kernel
theorem dX8_unite_170 : decode cX8_unite 170 = .ok (.iastore, 1) := by decide +kernel
theorem dX8_unite_171 : decode cX8_unite 171 = .ok (.iinc 3 1, 3) := by decide +kernel
theorem dX8_unite_174 : decode cX8_unite 174 = .ok (.goto (-62), 3) := by decide +kernel
theorem dX8_unite_177 : decode cX8_unite 177 = .ok (.iconst 0, 1) := by decide +kernel
theorem dX8_unite_178 : decode cX8_unite 178 = .ok (.istore_n 3, 1) := by decide +kernel
theorem dX8_unite_179 : decode cX8_unite 179 = .ok (.iload_n 3, 1) := by decide +kernel
theorem dX8_unite_180 : decode cX8_unite 180 = .ok (.aload_n 0, 1) := by decide +kernel
theorem dX8_unite_181 : decode cX8_unite 181 = .ok (.getfield 7, 3) := by decide +kernel
theorem dX8_unite_184 : decode cX8_unite 184 = .ok (.bipush 14, 2) := by decide +kernel
theorem dX8_unite_186 : decode cX8_unite 186 = .ok (.iaload, 1) := by decide +kernel
theorem dX8_unite_187 : decode cX8_unite 187 = .ok (.if_icmp .ge 81, 3) := by decide +kernel
theorem dX8_unite_190 : decode cX8_unite 190 = .ok (.bipush 15, 2) := by decide +kernel
theorem dX8_unite_192 : decode cX8_unite 192 = .ok (.iconst 5, 1) := by decide +kernel
theorem dX8_unite_193 : decode cX8_unite 193 = .ok (.iload_n 3, 1) := by decide +kernel
theorem dX8_unite_194 : decode cX8_unite 194 = .ok (.imul, 1) := by decide +kernel
theorem dX8_unite_195 : decode cX8_unite 195 = .ok (.iadd, 1) := by decide +kernel
theorem dX8_unite_196 : decode cX8_unite 196 = .ok (.istore 4, 2) := by decide +kernel
theorem dX8_unite_198 : decode cX8_unite 198 = .ok (.aload_n 0, 1) := by decide +kernel
theorem dX8_unite_199 : decode cX8_unite 199 = .ok (.getfield 7, 3) := by decide +kernel
theorem dX8_unite_202 : decode cX8_unite 202 = .ok (.iload 4, 2) := by decide +kernel
theorem dX8_unite_204 : decode cX8_unite 204 = .ok (.iconst 1, 1) := by decide +kernel
theorem dX8_unite_205 : decode cX8_unite 205 = .ok (.iadd, 1) := by decide +kernel
theorem dX8_unite_206 : decode cX8_unite 206 = .ok (.dup2, 1) := by decide +kernel
theorem dX8_unite_207 : decode cX8_unite 207 = .ok (.iaload, 1) := by decide +kernel
theorem dX8_unite_208 : decode cX8_unite 208 = .ok (.aload_n 0, 1) := by decide +kernel
theorem dX8_unite_209 : decode cX8_unite 209 = .ok (.getfield 7, 3) := by decide +kernel
theorem dX8_unite_212 : decode cX8_unite 212 = .ok (.iload 4, 2) := by decide +kernel
theorem dX8_unite_214 : decode cX8_unite 214 = .ok (.iaload, 1) := by decide +kernel
theorem dX8_unite_215 : decode cX8_unite 215 = .ok (.iload_n 1, 1) := by decide +kernel
theorem dX8_unite_216 : decode cX8_unite 216 = .ok (.iconst 1, 1) := by decide +kernel
theorem dX8_unite_217 : decode cX8_unite 217 = .ok (.iadd, 1) := by decide +kernel
theorem dX8_unite_218 : decode cX8_unite 218 = .ok (.if_icmp .ne 9, 3) := by decide +kernel
theorem dX8_unite_221 : decode cX8_unite 221 = .ok (.iload_n 2, 1) := by decide +kernel
theorem dX8_unite_222 : decode cX8_unite 222 = .ok (.iconst 1, 1) := by decide +kernel
theorem dX8_unite_223 : decode cX8_unite 223 = .ok (.iadd, 1) := by decide +kernel
theorem dX8_unite_224 : decode cX8_unite 224 = .ok (.goto 4, 3) := by decide +kernel
theorem dX8_unite_227 : decode cX8_unite 227 = .ok (.iconst 0, 1) := by decide +kernel
theorem dX8_unite_228 : decode cX8_unite 228 = .ok (.iadd, 1) := by decide +kernel
theorem dX8_unite_229 : decode cX8_unite 229 = .ok (.iastore, 1) := by decide +kernel
theorem dX8_unite_230 : decode cX8_unite 230 = .ok (.aload_n 0, 1) := by decide +kernel
theorem dX8_unite_231 : decode cX8_unite 231 = .ok (.getfield 7, 3) := by decide +kernel
theorem dX8_unite_234 : decode cX8_unite 234 = .ok (.iload 4, 2) := by decide +kernel
theorem dX8_unite_236 : decode cX8_unite 236 = .ok (.iconst 2, 1) := by decide +kernel
theorem dX8_unite_237 : decode cX8_unite 237 = .ok (.iadd, 1) := by decide +kernel
theorem dX8_unite_238 : decode cX8_unite 238 = .ok (.dup2, 1) := by decide +kernel
theorem dX8_unite_239 : decode cX8_unite 239 = .ok (.iaload, 1) := by decide +kernel
theorem dX8_unite_240 : decode cX8_unite 240 = .ok (.aload_n 0, 1) := by decide +kernel
theorem dX8_unite_241 : decode cX8_unite 241 = .ok (.getfield 7, 3) := by decide +kernel
theorem dX8_unite_244 : decode cX8_unite 244 = .ok (.iload 4, 2) := by decide +kernel
theorem dX8_unite_246 : decode cX8_unite 246 = .ok (.iaload, 1) := by decide +kernel
theorem dX8_unite_247 : decode cX8_unite 247 = .ok (.iload_n 1, 1) := by decide +kernel
theorem dX8_unite_248 : decode cX8_unite 248 = .ok (.iconst 1, 1) := by decide +kernel
theorem dX8_unite_249 : decode cX8_unite 249 = .ok (.iadd, 1) := by decide +kernel
theorem dX8_unite_250 : decode cX8_unite 250 = .ok (.if_icmp .ne 9, 3) := by decide +kernel
theorem dX8_unite_253 : decode cX8_unite 253 = .ok (.iload_n 2, 1) := by decide +kernel
theorem dX8_unite_254 : decode cX8_unite 254 = .ok (.iconst 1, 1) := by decide +kernel
theorem dX8_unite_255 : decode cX8_unite 255 = .ok (.iadd, 1) := by decide +kernel
theorem dX8_unite_256 : decode cX8_unite 256 = .ok (.goto 4, 3) := by decide +kernel
theorem dX8_unite_259 : decode cX8_unite 259 = .ok (.iconst 0, 1) := by decide +kernel
theorem dX8_unite_260 : decode cX8_unite 260 = .ok (.iadd, 1) := by decide +kernel
theorem dX8_unite_261 : decode cX8_unite 261 = .ok (.iastore, 1) := by decide +kernel
theorem dX8_unite_262 : decode cX8_unite 262 = .ok (.iinc 3 1, 3) := by decide +kernel
theorem dX8_unite_265 : decode cX8_unite 265 = .ok (.goto (-86), 3) := by decide +kernel
theorem dX8_unite_268 : decode cX8_unite 268 = .ok (.aload_n 0, 1) := by decide +kernel
theorem dX8_unite_269 : decode cX8_unite 269 = .ok (.iload_n 1, 1) := by decide +kernel
theorem dX8_unite_270 : decode cX8_unite 270 = .ok (.iconst 1, 1) := by decide +kernel
theorem dX8_unite_271 : decode cX8_unite 271 = .ok (.iadd, 1) := by decide +kernel
theorem dX8_unite_272 : decode cX8_unite 272 = .ok (.iconst (-1), 1) := by decide +kernel
theorem dX8_unite_273 : decode cX8_unite 273 = .ok (.invokevirtual 312, 3) := by decide +kernel
theorem dX8_unite_276 : decode cX8_unite 276 = .ok (.iload_n 1, 1) := by decide +kernel
theorem dX8_unite_277 : decode cX8_unite 277 = .ok (.iconst 1, 1) := by decide +kernel
theorem dX8_unite_278 : decode cX8_unite 278 = .ok (.iadd, 1) := by decide +kernel
theorem dX8_unite_279 : decode cX8_unite 279 = .ok (.istore_n 3, 1) := by decide +kernel
theorem dX8_unite_280 : decode cX8_unite 280 = .ok (.iload_n 3, 1) := by decide +kernel
theorem dX8_unite_281 : decode cX8_unite 281 = .ok (.aload_n 0, 1) := by decide +kernel
theorem dX8_unite_282 : decode cX8_unite 282 = .ok (.getfield 7, 3) := by decide +kernel
theorem dX8_unite_285 : decode cX8_unite 285 = .ok (.iconst 0, 1) := by decide +kernel
theorem dX8_unite_286 : decode cX8_unite 286 = .ok (.iaload, 1) := by decide +kernel
theorem dX8_unite_287 : decode cX8_unite 287 = .ok (.iconst 1, 1) := by decide +kernel
theorem dX8_unite_288 : decode cX8_unite 288 = .ok (.isub, 1) := by decide +kernel
theorem dX8_unite_289 : decode cX8_unite 289 = .ok (.if_icmp .ge 17, 3) := by decide +kernel
theorem dX8_unite_292 : decode cX8_unite 292 = .ok (.aload_n 0, 1) := by decide +kernel
theorem dX8_unite_293 : decode cX8_unite 293 = .ok (.iload_n 3, 1) := by decide +kernel
theorem dX8_unite_294 : decode cX8_unite 294 = .ok (.iload_n 3, 1) := by decide +kernel
theorem dX8_unite_295 : decode cX8_unite 295 = .ok (.iconst 1, 1) := by decide +kernel
theorem dX8_unite_296 : decode cX8_unite 296 = .ok (.iadd, 1) := by decide +kernel
theorem dX8_unite_297 : decode cX8_unite 297 = .ok (.invokevirtual 315, 3) := by decide +kernel
theorem dX8_unite_300 : decode cX8_unite 300 = .ok (.iinc 3 1, 3) := by decide +kernel
theorem dX8_unite_303 : decode cX8_unite 303 = .ok (.goto (-23), 3) := by decide +kernel
theorem dX8_unite_306 : decode cX8_unite 306 = .ok (.aload_n 0, 1) := by decide +kernel
theorem dX8_unite_307 : decode cX8_unite 307 = .ok (.getfield 7, 3) := by decide +kernel
theorem dX8_unite_310 : decode cX8_unite 310 = .ok (.iconst 0, 1) := by decide +kernel
theorem dX8_unite_311 : decode cX8_unite 311 = .ok (.dup2, 1) := by decide +kernel
theorem dX8_unite_312 : decode cX8_unite 312 = .ok (.iaload, 1) := by decide +kernel
theorem dX8_unite_313 : decode cX8_unite 313 = .ok (.iconst 1, 1) := by decide +kernel
theorem dX8_unite_314 : decode cX8_unite 314 = .ok (.isub, 1) := by decide +kernel
theorem dX8_unite_315 : decode cX8_unite 315 = .ok (.iastore, 1) := by decide +kernel
theorem dX8_unite_316 : decode cX8_unite 316 = .ok (.return_, 1) := by decide +kernel
theorem dX8_join_0 : decode cX8_join 0 = .ok (.iload_n 1, 1) := by decide +kernel
theorem dX8_join_1 : decode cX8_join 1 = .ok (.iconst 0, 1) := by decide +kernel
theorem dX8_join_2 : decode cX8_join 2 = .ok (.aload_n 0, 1) := by decide +kernel
theorem dX8_join_3 : decode cX8_join 3 = .ok (.getfield 7, 3) := by decide +kernel
theorem dX8_join_6 : decode cX8_join 6 = .ok (.iconst 0, 1) := by decide +kernel
theorem dX8_join_7 : decode cX8_join 7 = .ok (.iaload, 1) := by decide +kernel
theorem dX8_join_8 : decode cX8_join 8 = .ok (.iconst 2, 1) := by decide +kernel
theorem dX8_join_9 : decode cX8_join 9 = .ok (.isub, 1) := by decide +kernel
theorem dX8_join_10 : decode cX8_join 10 = .ok (.invokestatic 50, 3) := by decide +kernel
theorem dX8_join_13 : decode cX8_join 13 = .ok (.istore_n 2, 1) := by decide +kernel
theorem dX8_join_14 : decode cX8_join 14 = .ok (.aload_n 0, 1) := by decide +kernel
theorem dX8_join_15 : decode cX8_join 15 = .ok (.iload_n 2, 1) := by decide +kernel
theorem dX8_join_16 : decode cX8_join 16 = .ok (.ifCond .ne 7, 3) := by decide +kernel
theorem dX8_join_19 : decode cX8_join 19 = .ok (.iconst 1, 1) := by decide +kernel
theorem dX8_join_20 : decode cX8_join 20 = .ok (.goto 26, 3) := by decide +kernel
theorem dX8_join_23 : decode cX8_join 23 = .ok (.aload_n 0, 1) := by decide +kernel
theorem dX8_join_24 : decode cX8_join 24 = .ok (.iload_n 1, 1) := by decide +kernel
theorem dX8_join_25 : decode cX8_join 25 = .ok (.invokevirtual 260, 3) := by decide +kernel
theorem dX8_join_28 : decode cX8_join 28 = .ok (.aload_n 0, 1) := by decide +kernel
theorem dX8_join_29 : decode cX8_join 29 = .ok (.iload_n 1, 1) := by decide +kernel
theorem dX8_join_30 : decode cX8_join 30 = .ok (.iconst 1, 1) := by decide +kernel
theorem dX8_join_31 : decode cX8_join 31 = .ok (.iadd, 1) := by decide +kernel
theorem dX8_join_32 : decode cX8_join 32 = .ok (.invokevirtual 260, 3) := by decide +kernel
theorem dX8_join_35 : decode cX8_join 35 = .ok (.iadd, 1) := by decide +kernel
theorem dX8_join_36 : decode cX8_join 36 = .ok (.bipush 24, 2) := by decide +kernel
theorem dX8_join_38 : decode cX8_join 38 = .ok (.if_icmp .gt 7, 3) := by decide +kernel
theorem dX8_join_41 : decode cX8_join 41 = .ok (.iconst 0, 1) := by decide +kernel
theorem dX8_join_42 : decode cX8_join 42 = .ok (.goto 4, 3) := by decide +kernel
theorem dX8_join_45 : decode cX8_join 45 = .ok (.iconst 2, 1) := by decide +kernel
theorem dX8_join_46 : decode cX8_join 46 = .ok (.putfield 47, 3) := by decide +kernel
theorem dX8_join_49 : decode cX8_join 49 = .ok (.aload_n 0, 1) := by decide +kernel
theorem dX8_join_50 : decode cX8_join 50 = .ok (.getfield 47, 3) := by decide +kernel
theorem dX8_join_53 : decode cX8_join 53 = .ok (.ifCond .le 5, 3) := by decide +kernel
theorem dX8_join_56 : decode cX8_join 56 = .ok (.iconst 0, 1) := by decide +kernel
theorem dX8_join_57 : decode cX8_join 57 = .ok (.ireturn, 1) := by decide +kernel
theorem dX8_join_58 : decode cX8_join 58 = .ok (.aload_n 0, 1) := by decide +kernel
theorem dX8_join_59 : decode cX8_join 59 = .ok (.invokevirtual 300, 3) := by decide +kernel
theorem dX8_join_62 : decode cX8_join 62 = .ok (.aload_n 0, 1) := by decide +kernel
theorem dX8_join_63 : decode cX8_join 63 = .ok (.iload_n 1, 1) := by decide +kernel
theorem dX8_join_64 : decode cX8_join 64 = .ok (.invokevirtual 324, 3) := by decide +kernel
theorem dX8_join_67 : decode cX8_join 67 = .ok (.aload_n 0, 1) := by decide +kernel
theorem dX8_join_68 : decode cX8_join 68 = .ok (.iload_n 1, 1) := by decide +kernel
theorem dX8_join_69 : decode cX8_join 69 = .ok (.invokevirtual 260, 3) := by decide +kernel
theorem dX8_join_72 : decode cX8_join 72 = .ok (.ireturn, 1) := by decide +kernel
theorem dX8_ifSize_0 : decode cX8_ifSize 0 = .ok (.aload_n 0, 1) := by decide +kernel
theorem dX8_ifSize_1 : decode cX8_ifSize 1 = .ok (.iload_n 1, 1) := by decide +kernel
theorem dX8_ifSize_2 : decode cX8_ifSize 2 = .ok (.bipush 18, 2) := by decide +kernel
theorem dX8_ifSize_4 : decode cX8_ifSize 4 = .ok (.bipush 60, 2) := by decide +kernel
theorem dX8_ifSize_6 : decode cX8_ifSize 6 = .ok (.invokestatic 50, 3) := by decide +kernel
theorem dX8_ifSize_9 : decode cX8_ifSize 9 = .ok (.ifCond .eq 26, 3) := by decide +kernel
theorem dX8_ifSize_12 : decode cX8_ifSize 12 = .ok (.iload_n 2, 1) := by decide +kernel
theorem dX8_ifSize_13 : decode cX8_ifSize 13 = .ok (.iconst 2, 1) := by decide +kernel
theorem dX8_ifSize_14 : decode cX8_ifSize 14 = .ok (.bipush 20, 2) := by decide +kernel
theorem dX8_ifSize_16 : decode cX8_ifSize 16 = .ok (.invokestatic 50, 3) := by decide +kernel
theorem dX8_ifSize_19 : decode cX8_ifSize 19 = .ok (.ifCond .eq 16, 3) := by decide +kernel
theorem dX8_ifSize_22 : decode cX8_ifSize 22 = .ok (.iload_n 3, 1) := by decide +kernel
theorem dX8_ifSize_23 : decode cX8_ifSize 23 = .ok (.iconst 0, 1) := by decide +kernel
theorem dX8_ifSize_24 : decode cX8_ifSize 24 = .ok (.iconst 2, 1) := by decide +kernel
theorem dX8_ifSize_25 : decode cX8_ifSize 25 = .ok (.invokestatic 50, 3) := by decide +kernel
theorem dX8_ifSize_28 : decode cX8_ifSize 28 = .ok (.ifCond .eq 7, 3) := by decide +kernel
theorem dX8_ifSize_31 : decode cX8_ifSize 31 = .ok (.iconst 0, 1) := by decide +kernel
theorem dX8_ifSize_32 : decode cX8_ifSize 32 = .ok (.goto 4, 3) := by decide +kernel
theorem dX8_ifSize_35 : decode cX8_ifSize 35 = .ok (.iconst 1, 1) := by decide +kernel
theorem dX8_ifSize_36 : decode cX8_ifSize 36 = .ok (.putfield 47, 3) := by decide +kernel
theorem dX8_ifSize_39 : decode cX8_ifSize 39 = .ok (.aload_n 0, 1) := by decide +kernel
theorem dX8_ifSize_40 : decode cX8_ifSize 40 = .ok (.getfield 47, 3) := by decide +kernel
theorem dX8_ifSize_43 : decode cX8_ifSize 43 = .ok (.ifCond .le 5, 3) := by decide +kernel
theorem dX8_ifSize_46 : decode cX8_ifSize 46 = .ok (.iconst 0, 1) := by decide +kernel
theorem dX8_ifSize_47 : decode cX8_ifSize 47 = .ok (.ireturn, 1) := by decide +kernel
theorem dX8_ifSize_48 : decode cX8_ifSize 48 = .ok (.aload_n 0, 1) := by decide +kernel
theorem dX8_ifSize_49 : decode cX8_ifSize 49 = .ok (.iload_n 1, 1) := by decide +kernel
theorem dX8_ifSize_50 : decode cX8_ifSize 50 = .ok (.iload_n 2, 1) := by decide +kernel
theorem dX8_ifSize_51 : decode cX8_ifSize 51 = .ok (.invokevirtual 176, 3) := by decide +kernel
theorem dX8_ifSize_54 : decode cX8_ifSize 54 = .ok (.iload_n 3, 1) := by decide +kernel
theorem dX8_ifSize_55 : decode cX8_ifSize 55 = .ok (.ifCond .ne 10, 3) := by decide +kernel
theorem dX8_ifSize_58 : decode cX8_ifSize 58 = .ok (.aload_n 0, 1) := by decide +kernel
theorem dX8_ifSize_59 : decode cX8_ifSize 59 = .ok (.getfield 122, 3) := by decide +kernel
theorem dX8_ifSize_62 : decode cX8_ifSize 62 = .ok (.goto 19, 3) := by decide +kernel
theorem dX8_ifSize_65 : decode cX8_ifSize 65 = .ok (.iload_n 3, 1) := by decide +kernel
theorem dX8_ifSize_66 : decode cX8_ifSize 66 = .ok (.iconst 1, 1) := by decide +kernel
theorem dX8_ifSize_67 : decode cX8_ifSize 67 = .ok (.if_icmp .ne 10, 3) := by decide +kernel
theorem dX8_ifSize_70 : decode cX8_ifSize 70 = .ok (.aload_n 0, 1) := by decide +kernel
theorem dX8_ifSize_71 : decode cX8_ifSize 71 = .ok (.getfield 170, 3) := by decide +kernel
theorem dX8_ifSize_74 : decode cX8_ifSize 74 = .ok (.goto 7, 3) := by decide +kernel
theorem dX8_ifSize_77 : decode cX8_ifSize 77 = .ok (.aload_n 0, 1) := by decide +kernel
theorem dX8_ifSize_78 : decode cX8_ifSize 78 = .ok (.invokevirtual 250, 3) := by decide +kernel
theorem dX8_ifSize_81 : decode cX8_ifSize 81 = .ok (.ireturn, 1) := by decide +kernel
theorem dX8_fitNow_0 : decode cX8_fitNow 0 = .ok (.bipush 18, 2) := by decide +kernel
theorem dX8_fitNow_2 : decode cX8_fitNow 2 = .ok (.istore_n 2, 1) := by decide +kernel
theorem dX8_fitNow_3 : decode cX8_fitNow 3 = .ok (.iload_n 2, 1) := by decide +kernel
theorem dX8_fitNow_4 : decode cX8_fitNow 4 = .ok (.bipush 60, 2) := by decide +kernel
theorem dX8_fitNow_6 : decode cX8_fitNow 6 = .ok (.if_icmp .gt 28, 3) := by decide +kernel
theorem dX8_fitNow_9 : decode cX8_fitNow 9 = .ok (.aload_n 0, 1) := by decide +kernel
theorem dX8_fitNow_10 : decode cX8_fitNow 10 = .ok (.iload_n 2, 1) := by decide +kernel
theorem dX8_fitNow_11 : decode cX8_fitNow 11 = .ok (.aload_n 0, 1) := by decide +kernel
theorem dX8_fitNow_12 : decode cX8_fitNow 12 = .ok (.getfield 26, 3) := by decide +kernel
theorem dX8_fitNow_15 : decode cX8_fitNow 15 = .ok (.invokevirtual 176, 3) := by decide +kernel
theorem dX8_fitNow_18 : decode cX8_fitNow 18 = .ok (.aload_n 0, 1) := by decide +kernel
theorem dX8_fitNow_19 : decode cX8_fitNow 19 = .ok (.getfield 170, 3) := by decide +kernel
theorem dX8_fitNow_22 : decode cX8_fitNow 22 = .ok (.iload_n 1, 1) := by decide +kernel
theorem dX8_fitNow_23 : decode cX8_fitNow 23 = .ok (.if_icmp .gt 5, 3) := by decide +kernel
theorem dX8_fitNow_26 : decode cX8_fitNow 26 = .ok (.iload_n 2, 1) := by decide +kernel
theorem dX8_fitNow_27 : decode cX8_fitNow 27 = .ok (.ireturn, 1) := by decide +kernel
theorem dX8_fitNow_28 : decode cX8_fitNow 28 = .ok (.iinc 2 1, 3) := by decide +kernel
theorem dX8_fitNow_31 : decode cX8_fitNow 31 = .ok (.goto (-28), 3) := by decide +kernel
theorem dX8_fitNow_34 : decode cX8_fitNow 34 = .ok (.iconst (-1), 1) := by decide +kernel
theorem dX8_fitNow_35 : decode cX8_fitNow 35 = .ok (.ireturn, 1) := by decide +kernel
theorem dX8_fit_0 : decode cX8_fit 0 = .ok (.aload_n 0, 1) := by decide +kernel
theorem dX8_fit_1 : decode cX8_fit 1 = .ok (.iload_n 1, 1) := by decide +kernel
theorem dX8_fit_2 : decode cX8_fit 2 = .ok (.iconst 1, 1) := by decide +kernel
theorem dX8_fit_3 : decode cX8_fit 3 = .ok (.if_icmp .lt 7, 3) := by decide +kernel
theorem dX8_fit_6 : decode cX8_fit 6 = .ok (.iconst 0, 1) := by decide +kernel
theorem dX8_fit_7 : decode cX8_fit 7 = .ok (.goto 4, 3) := by decide +kernel
theorem dX8_fit_10 : decode cX8_fit 10 = .ok (.iconst 1, 1) := by decide +kernel
theorem dX8_fit_11 : decode cX8_fit 11 = .ok (.putfield 47, 3) := by decide +kernel
theorem dX8_fit_14 : decode cX8_fit 14 = .ok (.aload_n 0, 1) := by decide +kernel
theorem dX8_fit_15 : decode cX8_fit 15 = .ok (.getfield 47, 3) := by decide +kernel
theorem dX8_fit_18 : decode cX8_fit 18 = .ok (.ifCond .le 7, 3) := by decide +kernel
theorem dX8_fit_21 : decode cX8_fit 21 = .ok (.iconst 0, 1) := by decide +kernel
theorem dX8_fit_22 : decode cX8_fit 22 = .ok (.goto 8, 3) := by decide +kernel
theorem dX8_fit_25 : decode cX8_fit 25 = .ok (.aload_n 0, 1) := by decide +kernel
theorem dX8_fit_26 : decode cX8_fit 26 = .ok (.iload_n 1, 1) := by decide +kernel
theorem dX8_fit_27 : decode cX8_fit 27 = .ok (.invokevirtual 327, 3) := by decide +kernel
theorem dX8_fit_30 : decode cX8_fit 30 = .ok (.ireturn, 1) := by decide +kernel
theorem dX8_fullness_0 : decode cX8_fullness 0 = .ok (.aload_n 0, 1) := by decide +kernel
theorem dX8_fullness_1 : decode cX8_fullness 1 = .ok (.iconst 0, 1) := by decide +kernel
theorem dX8_fullness_2 : decode cX8_fullness 2 = .ok (.putfield 47, 3) := by decide +kernel
theorem dX8_fullness_5 : decode cX8_fullness 5 = .ok (.aload_n 0, 1) := by decide +kernel
theorem dX8_fullness_6 : decode cX8_fullness 6 = .ok (.invokevirtual 189, 3) := by decide +kernel
theorem dX8_fullness_9 : decode cX8_fullness 9 = .ok (.iconst 0, 1) := by decide +kernel
theorem dX8_fullness_10 : decode cX8_fullness 10 = .ok (.istore_n 1, 1) := by decide +kernel
theorem dX8_fullness_11 : decode cX8_fullness 11 = .ok (.iconst 0, 1) := by decide +kernel
theorem dX8_fullness_12 : decode cX8_fullness 12 = .ok (.istore_n 2, 1) := by decide +kernel
theorem dX8_fullness_13 : decode cX8_fullness 13 = .ok (.iload_n 2, 1) := by decide +kernel
theorem dX8_fullness_14 : decode cX8_fullness 14 = .ok (.aload_n 0, 1) := by decide +kernel
theorem dX8_fullness_15 : decode cX8_fullness 15 = .ok (.getfield 170, 3) := by decide +kernel
theorem dX8_fullness_18 : decode cX8_fullness 18 = .ok (.iconst 1, 1) := by decide +kernel
theorem dX8_fullness_19 : decode cX8_fullness 19 = .ok (.isub, 1) := by decide +kernel
theorem dX8_fullness_20 : decode cX8_fullness 20 = .ok (.if_icmp .ge 30, 3) := by decide +kernel
theorem dX8_fullness_23 : decode cX8_fullness 23 = .ok (.iload_n 1, 1) := by decide +kernel
theorem dX8_fullness_24 : decode cX8_fullness 24 = .ok (.aload_n 0, 1) := by decide +kernel
theorem dX8_fullness_25 : decode cX8_fullness 25 = .ok (.aload_n 0, 1) := by decide +kernel
theorem dX8_fullness_26 : decode cX8_fullness 26 = .ok (.getfield 44, 3) := by decide +kernel
theorem dX8_fullness_29 : decode cX8_fullness 29 = .ok (.iload_n 2, 1) := by decide +kernel
theorem dX8_fullness_30 : decode cX8_fullness 30 = .ok (.iaload, 1) := by decide +kernel
theorem dX8_fullness_31 : decode cX8_fullness 31 = .ok (.aload_n 0, 1) := by decide +kernel
theorem dX8_fullness_32 : decode cX8_fullness 32 = .ok (.getfield 44, 3) := by decide +kernel
theorem dX8_fullness_35 : decode cX8_fullness 35 = .ok (.iload_n 2, 1) := by decide +kernel
theorem dX8_fullness_36 : decode cX8_fullness 36 = .ok (.iconst 1, 1) := by decide +kernel
theorem dX8_fullness_37 : decode cX8_fullness 37 = .ok (.iadd, 1) := by decide +kernel
theorem dX8_fullness_38 : decode cX8_fullness 38 = .ok (.iaload, 1) := by decide +kernel
theorem dX8_fullness_39 : decode cX8_fullness 39 = .ok (.invokevirtual 157, 3) := by decide +kernel
theorem dX8_fullness_42 : decode cX8_fullness 42 = .ok (.iadd, 1) := by decide +kernel
theorem dX8_fullness_43 : decode cX8_fullness 43 = .ok (.istore_n 1, 1) := by decide +kernel
theorem dX8_fullness_44 : decode cX8_fullness 44 = .ok (.iinc 2 1, 3) := by decide +kernel
theorem dX8_fullness_47 : decode cX8_fullness 47 = .ok (.goto (-34), 3) := by decide +kernel
theorem dX8_fullness_50 : decode cX8_fullness 50 = .ok (.aload_n 0, 1) := by decide +kernel
theorem dX8_fullness_51 : decode cX8_fullness 51 = .ok (.getfield 170, 3) := by decide +kernel
theorem dX8_fullness_54 : decode cX8_fullness 54 = .ok (.iconst 1, 1) := by decide +kernel
theorem dX8_fullness_55 : decode cX8_fullness 55 = .ok (.if_icmp .ne 7, 3) := by decide +kernel
theorem dX8_fullness_58 : decode cX8_fullness 58 = .ok (.dconst 0, 1) := by decide +kernel
theorem dX8_fullness_59 : decode cX8_fullness 59 = .ok (.goto 18, 3) := by decide +kernel
theorem dX8_fullness_62 : decode cX8_fullness 62 = .ok (.iload_n 1, 1) := by decide +kernel
theorem dX8_fullness_63 : decode cX8_fullness 63 = .ok (.i2d, 1) := by decide +kernel
theorem dX8_fullness_64 : decode cX8_fullness 64 = .ok (.aload_n 0, 1) := by decide +kernel
theorem dX8_fullness_65 : decode cX8_fullness 65 = .ok (.getfield 170, 3) := by decide +kernel
theorem dX8_fullness_68 : decode cX8_fullness 68 = .ok (.iconst 1, 1) := by decide +kernel
theorem dX8_fullness_69 : decode cX8_fullness 69 = .ok (.isub, 1) := by decide +kernel
theorem dX8_fullness_70 : decode cX8_fullness 70 = .ok (.aload_n 0, 1) := by decide +kernel
theorem dX8_fullness_71 : decode cX8_fullness 71 = .ok (.getfield 26, 3) := by decide +kernel
theorem dX8_fullness_74 : decode cX8_fullness 74 = .ok (.imul, 1) := by decide +kernel
theorem dX8_fullness_75 : decode cX8_fullness 75 = .ok (.i2d, 1) := by decide +kernel
theorem dX8_fullness_76 : decode cX8_fullness 76 = .ok (.ddiv, 1) := by decide +kernel
theorem dX8_fullness_77 : decode cX8_fullness 77 = .ok (.dreturn, 1) := by decide +kernel
theorem dX8_mix_0 : decode cX8_mix 0 = .ok (.aload_n 0, 1) := by decide +kernel
theorem dX8_mix_1 : decode cX8_mix 1 = .ok (.ldc2_w 330, 3) := by decide +kernel
theorem dX8_mix_4 : decode cX8_mix 4 = .ok (.aload_n 0, 1) := by decide +kernel
theorem dX8_mix_5 : decode cX8_mix 5 = .ok (.getfield 332, 3) := by decide +kernel
theorem dX8_mix_8 : decode cX8_mix 8 = .ok (.lmul, 1) := by decide +kernel
theorem dX8_mix_9 : decode cX8_mix 9 = .ok (.lload_n 1, 1) := by decide +kernel
theorem dX8_mix_10 : decode cX8_mix 10 = .ok (.ladd, 1) := by decide +kernel
theorem dX8_mix_11 : decode cX8_mix 11 = .ok (.putfield 332, 3) := by decide +kernel
theorem dX8_mix_14 : decode cX8_mix 14 = .ok (.return_, 1) := by decide +kernel
theorem dX8_mixParagraphs_0 : decode cX8_mixParagraphs 0 = .ok (.iconst 0, 1) := by decide +kernel
theorem dX8_mixParagraphs_1 : decode cX8_mixParagraphs 1 = .ok (.istore_n 1, 1) := by decide +kernel
theorem dX8_mixParagraphs_2 : decode cX8_mixParagraphs 2 = .ok (.iload_n 1, 1) := by decide +kernel
theorem dX8_mixParagraphs_3 : decode cX8_mixParagraphs 3 = .ok (.aload_n 0, 1) := by decide +kernel
theorem dX8_mixParagraphs_4 : decode cX8_mixParagraphs 4 = .ok (.getfield 7, 3) := by decide +kernel
theorem dX8_mixParagraphs_7 : decode cX8_mixParagraphs 7 = .ok (.iconst 0, 1) := by decide +kernel
theorem dX8_mixParagraphs_8 : decode cX8_mixParagraphs 8 = .ok (.iaload, 1) := by decide +kernel
theorem dX8_mixParagraphs_9 : decode cX8_mixParagraphs 9 = .ok (.if_icmp .ge 65, 3) := by decide +kernel
theorem dX8_mixParagraphs_12 : decode cX8_mixParagraphs 12 = .ok (.iconst 0, 1) := by decide +kernel
theorem dX8_mixParagraphs_13 : decode cX8_mixParagraphs 13 = .ok (.istore_n 2, 1) := by decide +kernel
theorem dX8_mixParagraphs_14 : decode cX8_mixParagraphs 14 = .ok (.iload_n 2, 1) := by decide +kernel
theorem dX8_mixParagraphs_15 : decode cX8_mixParagraphs 15 = .ok (.iconst 5, 1) := by decide +kernel
theorem dX8_mixParagraphs_16 : decode cX8_mixParagraphs 16 = .ok (.if_icmp .ge 20, 3) := by decide +kernel
theorem dX8_mixParagraphs_19 : decode cX8_mixParagraphs 19 = .ok (.aload_n 0, 1) := by decide +kernel
theorem dX8_mixParagraphs_20 : decode cX8_mixParagraphs 20 = .ok (.aload_n 0, 1) := by decide +kernel
theorem dX8_mixParagraphs_21 : decode cX8_mixParagraphs 21 = .ok (.iload_n 1, 1) := by decide +kernel
theorem dX8_mixParagraphs_22 : decode cX8_mixParagraphs 22 = .ok (.iload_n 2, 1) := by decide +kernel
theorem dX8_mixParagraphs_23 : decode cX8_mixParagraphs 23 = .ok (.invokevirtual 281, 3) := by decide +kernel
theorem dX8_mixParagraphs_26 : decode cX8_mixParagraphs 26 = .ok (.i2l, 1) := by decide +kernel
theorem dX8_mixParagraphs_27 : decode cX8_mixParagraphs 27 = .ok (.invokevirtual 336, 3) := by decide +kernel
theorem dX8_mixParagraphs_30 : decode cX8_mixParagraphs 30 = .ok (.iinc 2 1, 3) := by decide +kernel
theorem dX8_mixParagraphs_33 : decode cX8_mixParagraphs 33 = .ok (.goto (-19), 3) := by decide +kernel
theorem dX8_mixParagraphs_36 : decode cX8_mixParagraphs 36 = .ok (.iconst 0, 1) := by decide +kernel
theorem dX8_mixParagraphs_37 : decode cX8_mixParagraphs 37 = .ok (.istore_n 2, 1) := by decide +kernel
theorem dX8_mixParagraphs_38 : decode cX8_mixParagraphs 38 = .ok (.iload_n 2, 1) := by decide +kernel
theorem dX8_mixParagraphs_39 : decode cX8_mixParagraphs 39 = .ok (.aload_n 0, 1) := by decide +kernel
theorem dX8_mixParagraphs_40 : decode cX8_mixParagraphs 40 = .ok (.getfield 7, 3) := by decide +kernel
theorem dX8_mixParagraphs_43 : decode cX8_mixParagraphs 43 = .ok (.bipush 85, 2) := by decide +kernel
theorem dX8_mixParagraphs_45 : decode cX8_mixParagraphs 45 = .ok (.iload_n 1, 1) := by decide +kernel
theorem dX8_mixParagraphs_46 : decode cX8_mixParagraphs 46 = .ok (.iadd, 1) := by decide +kernel
theorem dX8_mixParagraphs_47 : decode cX8_mixParagraphs 47 = .ok (.iaload, 1) := by decide +kernel
theorem dX8_mixParagraphs_48 : decode cX8_mixParagraphs 48 = .ok (.if_icmp .ge 20, 3) := by decide +kernel
theorem dX8_mixParagraphs_51 : decode cX8_mixParagraphs 51 = .ok (.aload_n 0, 1) := by decide +kernel
theorem dX8_mixParagraphs_52 : decode cX8_mixParagraphs 52 = .ok (.aload_n 0, 1) := by decide +kernel
theorem dX8_mixParagraphs_53 : decode cX8_mixParagraphs 53 = .ok (.iload_n 1, 1) := by decide +kernel
theorem dX8_mixParagraphs_54 : decode cX8_mixParagraphs 54 = .ok (.iload_n 2, 1) := by decide +kernel
theorem dX8_mixParagraphs_55 : decode cX8_mixParagraphs 55 = .ok (.invokevirtual 112, 3) := by decide +kernel
theorem dX8_mixParagraphs_58 : decode cX8_mixParagraphs 58 = .ok (.i2l, 1) := by decide +kernel
theorem dX8_mixParagraphs_59 : decode cX8_mixParagraphs 59 = .ok (.invokevirtual 336, 3) := by decide +kernel
theorem dX8_mixParagraphs_62 : decode cX8_mixParagraphs 62 = .ok (.iinc 2 1, 3) := by decide +kernel
theorem dX8_mixParagraphs_65 : decode cX8_mixParagraphs 65 = .ok (.goto (-27), 3) := by decide +kernel
theorem dX8_mixParagraphs_68 : decode cX8_mixParagraphs 68 = .ok (.iinc 1 1, 3) := by decide +kernel
theorem dX8_mixParagraphs_71 : decode cX8_mixParagraphs 71 = .ok (.goto (-69), 3) := by decide +kernel
theorem dX8_mixParagraphs_74 : decode cX8_mixParagraphs 74 = .ok (.return_, 1) := by decide +kernel
theorem dX8_mixLayout_0 : decode cX8_mixLayout 0 = .ok (.iconst 0, 1) := by decide +kernel
theorem dX8_mixLayout_1 : decode cX8_mixLayout 1 = .ok (.istore_n 1, 1) := by decide +kernel
theorem dX8_mixLayout_2 : decode cX8_mixLayout 2 = .ok (.iload_n 1, 1) := by decide +kernel
theorem dX8_mixLayout_3 : decode cX8_mixLayout 3 = .ok (.bipush 6, 2) := by decide +kernel
theorem dX8_mixLayout_5 : decode cX8_mixLayout 5 = .ok (.aload_n 0, 1) := by decide +kernel
theorem dX8_mixLayout_6 : decode cX8_mixLayout 6 = .ok (.getfield 122, 3) := by decide +kernel
theorem dX8_mixLayout_9 : decode cX8_mixLayout 9 = .ok (.imul, 1) := by decide +kernel
theorem dX8_mixLayout_10 : decode cX8_mixLayout 10 = .ok (.if_icmp .ge 26, 3) := by decide +kernel
theorem dX8_mixLayout_13 : decode cX8_mixLayout 13 = .ok (.aload_n 0, 1) := by decide +kernel
theorem dX8_mixLayout_14 : decode cX8_mixLayout 14 = .ok (.aload_n 0, 1) := by decide +kernel
theorem dX8_mixLayout_15 : decode cX8_mixLayout 15 = .ok (.iload_n 1, 1) := by decide +kernel
theorem dX8_mixLayout_16 : decode cX8_mixLayout 16 = .ok (.bipush 6, 2) := by decide +kernel
theorem dX8_mixLayout_18 : decode cX8_mixLayout 18 = .ok (.idiv, 1) := by decide +kernel
theorem dX8_mixLayout_19 : decode cX8_mixLayout 19 = .ok (.iload_n 1, 1) := by decide +kernel
theorem dX8_mixLayout_20 : decode cX8_mixLayout 20 = .ok (.bipush 6, 2) := by decide +kernel
theorem dX8_mixLayout_22 : decode cX8_mixLayout 22 = .ok (.irem, 1) := by decide +kernel
theorem dX8_mixLayout_23 : decode cX8_mixLayout 23 = .ok (.invokevirtual 223, 3) := by decide +kernel
theorem dX8_mixLayout_26 : decode cX8_mixLayout 26 = .ok (.i2l, 1) := by decide +kernel
theorem dX8_mixLayout_27 : decode cX8_mixLayout 27 = .ok (.invokevirtual 336, 3) := by decide +kernel
theorem dX8_mixLayout_30 : decode cX8_mixLayout 30 = .ok (.iinc 1 1, 3) := by decide +kernel
theorem dX8_mixLayout_33 : decode cX8_mixLayout 33 = .ok (.goto (-31), 3) := by decide +kernel
theorem dX8_mixLayout_36 : decode cX8_mixLayout 36 = .ok (.iconst 0, 1) := by decide +kernel
theorem dX8_mixLayout_37 : decode cX8_mixLayout 37 = .ok (.istore_n 1, 1) := by decide +kernel
theorem dX8_mixLayout_38 : decode cX8_mixLayout 38 = .ok (.iload_n 1, 1) := by decide +kernel
theorem dX8_mixLayout_39 : decode cX8_mixLayout 39 = .ok (.bipush 7, 2) := by decide +kernel
theorem dX8_mixLayout_41 : decode cX8_mixLayout 41 = .ok (.aload_n 0, 1) := by decide +kernel
theorem dX8_mixLayout_42 : decode cX8_mixLayout 42 = .ok (.getfield 170, 3) := by decide +kernel
theorem dX8_mixLayout_45 : decode cX8_mixLayout 45 = .ok (.imul, 1) := by decide +kernel
theorem dX8_mixLayout_46 : decode cX8_mixLayout 46 = .ok (.if_icmp .ge 26, 3) := by decide +kernel
theorem dX8_mixLayout_49 : decode cX8_mixLayout 49 = .ok (.aload_n 0, 1) := by decide +kernel
theorem dX8_mixLayout_50 : decode cX8_mixLayout 50 = .ok (.aload_n 0, 1) := by decide +kernel
theorem dX8_mixLayout_51 : decode cX8_mixLayout 51 = .ok (.iload_n 1, 1) := by decide +kernel
theorem dX8_mixLayout_52 : decode cX8_mixLayout 52 = .ok (.bipush 7, 2) := by decide +kernel
theorem dX8_mixLayout_54 : decode cX8_mixLayout 54 = .ok (.idiv, 1) := by decide +kernel
theorem dX8_mixLayout_55 : decode cX8_mixLayout 55 = .ok (.iload_n 1, 1) := by decide +kernel
theorem dX8_mixLayout_56 : decode cX8_mixLayout 56 = .ok (.bipush 7, 2) := by decide +kernel
theorem dX8_mixLayout_58 : decode cX8_mixLayout 58 = .ok (.irem, 1) := by decide +kernel
theorem dX8_mixLayout_59 : decode cX8_mixLayout 59 = .ok (.invokevirtual 210, 3) := by decide +kernel
theorem dX8_mixLayout_62 : decode cX8_mixLayout 62 = .ok (.i2l, 1) := by decide +kernel
theorem dX8_mixLayout_63 : decode cX8_mixLayout 63 = .ok (.invokevirtual 336, 3) := by decide +kernel
theorem dX8_mixLayout_66 : decode cX8_mixLayout 66 = .ok (.iinc 1 1, 3) := by decide +kernel
theorem dX8_mixLayout_69 : decode cX8_mixLayout 69 = .ok (.goto (-31), 3) := by decide +kernel
theorem dX8_mixLayout_72 : decode cX8_mixLayout 72 = .ok (.iconst 0, 1) := by decide +kernel
theorem dX8_mixLayout_73 : decode cX8_mixLayout 73 = .ok (.istore_n 1, 1) := by decide +kernel
theorem dX8_mixLayout_74 : decode cX8_mixLayout 74 = .ok (.iload_n 1, 1) := by decide +kernel
theorem dX8_mixLayout_75 : decode cX8_mixLayout 75 = .ok (.bipush 6, 2) := by decide +kernel
theorem dX8_mixLayout_77 : decode cX8_mixLayout 77 = .ok (.aload_n 0, 1) := by decide +kernel
theorem dX8_mixLayout_78 : decode cX8_mixLayout 78 = .ok (.getfield 7, 3) := by decide +kernel
theorem dX8_mixLayout_81 : decode cX8_mixLayout 81 = .ok (.bipush 14, 2) := by decide +kernel
theorem dX8_mixLayout_83 : decode cX8_mixLayout 83 = .ok (.iaload, 1) := by decide +kernel
theorem dX8_mixLayout_84 : decode cX8_mixLayout 84 = .ok (.imul, 1) := by decide +kernel
theorem dX8_mixLayout_85 : decode cX8_mixLayout 85 = .ok (.if_icmp .ge 26, 3) := by decide +kernel
theorem dX8_mixLayout_88 : decode cX8_mixLayout 88 = .ok (.aload_n 0, 1) := by decide +kernel
theorem dX8_mixLayout_89 : decode cX8_mixLayout 89 = .ok (.aload_n 0, 1) := by decide +kernel
theorem dX8_mixLayout_90 : decode cX8_mixLayout 90 = .ok (.iload_n 1, 1) := by decide +kernel
theorem dX8_mixLayout_91 : decode cX8_mixLayout 91 = .ok (.bipush 6, 2) := by decide +kernel
theorem dX8_mixLayout_93 : decode cX8_mixLayout 93 = .ok (.idiv, 1) := by decide +kernel
theorem dX8_mixLayout_94 : decode cX8_mixLayout 94 = .ok (.iload_n 1, 1) := by decide +kernel
theorem dX8_mixLayout_95 : decode cX8_mixLayout 95 = .ok (.bipush 6, 2) := by decide +kernel
theorem dX8_mixLayout_97 : decode cX8_mixLayout 97 = .ok (.irem, 1) := by decide +kernel
theorem dX8_mixLayout_98 : decode cX8_mixLayout 98 = .ok (.invokevirtual 287, 3) := by decide +kernel
theorem dX8_mixLayout_101 : decode cX8_mixLayout 101 = .ok (.i2l, 1) := by decide +kernel
theorem dX8_mixLayout_102 : decode cX8_mixLayout 102 = .ok (.invokevirtual 336, 3) := by decide +kernel
theorem dX8_mixLayout_105 : decode cX8_mixLayout 105 = .ok (.iinc 1 1, 3) := by decide +kernel
theorem dX8_mixLayout_108 : decode cX8_mixLayout 108 = .ok (.goto (-34), 3) := by decide +kernel
theorem dX8_mixLayout_111 : decode cX8_mixLayout 111 = .ok (.return_, 1) := by decide +kernel
theorem dX8_digest_0 : decode cX8_digest 0 = .ok (.aload_n 0, 1) := by decide +kernel
theorem dX8_digest_1 : decode cX8_digest 1 = .ok (.iconst 0, 1) := by decide +kernel
theorem dX8_digest_2 : decode cX8_digest 2 = .ok (.putfield 47, 3) := by decide +kernel
theorem dX8_digest_5 : decode cX8_digest 5 = .ok (.aload_n 0, 1) := by decide +kernel
theorem dX8_digest_6 : decode cX8_digest 6 = .ok (.invokevirtual 189, 3) := by decide +kernel
theorem dX8_digest_9 : decode cX8_digest 9 = .ok (.aload_n 0, 1) := by decide +kernel
theorem dX8_digest_10 : decode cX8_digest 10 = .ok (.ldc2_w 340, 3) := by decide +kernel
theorem dX8_digest_13 : decode cX8_digest 13 = .ok (.putfield 332, 3) := by decide +kernel
theorem dX8_digest_16 : decode cX8_digest 16 = .ok (.iconst 0, 1) := by decide +kernel
theorem dX8_digest_17 : decode cX8_digest 17 = .ok (.istore_n 1, 1) := by decide +kernel
theorem dX8_digest_18 : decode cX8_digest 18 = .ok (.iload_n 1, 1) := by decide +kernel
theorem dX8_digest_19 : decode cX8_digest 19 = .ok (.bipush 12, 2) := by decide +kernel
theorem dX8_digest_21 : decode cX8_digest 21 = .ok (.if_icmp .ge 19, 3) := by decide +kernel
theorem dX8_digest_24 : decode cX8_digest 24 = .ok (.aload_n 0, 1) := by decide +kernel
theorem dX8_digest_25 : decode cX8_digest 25 = .ok (.aload_n 0, 1) := by decide +kernel
theorem dX8_digest_26 : decode cX8_digest 26 = .ok (.iload_n 1, 1) := by decide +kernel
theorem dX8_digest_27 : decode cX8_digest 27 = .ok (.invokevirtual 272, 3) := by decide +kernel
theorem dX8_digest_30 : decode cX8_digest 30 = .ok (.i2l, 1) := by decide +kernel
theorem dX8_digest_31 : decode cX8_digest 31 = .ok (.invokevirtual 336, 3) := by decide +kernel
theorem dX8_digest_34 : decode cX8_digest 34 = .ok (.iinc 1 1, 3) := by decide +kernel
theorem dX8_digest_37 : decode cX8_digest 37 = .ok (.goto (-19), 3) := by decide +kernel
theorem dX8_digest_40 : decode cX8_digest 40 = .ok (.aload_n 0, 1) := by decide +kernel
theorem dX8_digest_41 : decode cX8_digest 41 = .ok (.aload_n 0, 1) := by decide +kernel
theorem dX8_digest_42 : decode cX8_digest 42 = .ok (.getfield 22, 3) := by decide +kernel
theorem dX8_digest_45 : decode cX8_digest 45 = .ok (.i2l, 1) := by decide +kernel
theorem dX8_digest_46 : decode cX8_digest 46 = .ok (.invokevirtual 336, 3) := by decide +kernel
theorem dX8_digest_49 : decode cX8_digest 49 = .ok (.aload_n 0, 1) := by decide +kernel
theorem dX8_digest_50 : decode cX8_digest 50 = .ok (.aload_n 0, 1) := by decide +kernel
theorem dX8_digest_51 : decode cX8_digest 51 = .ok (.getfield 26, 3) := by decide +kernel
theorem dX8_digest_54 : decode cX8_digest 54 = .ok (.i2l, 1) := by decide +kernel
theorem dX8_digest_55 : decode cX8_digest 55 = .ok (.invokevirtual 336, 3) := by decide +kernel
theorem dX8_digest_58 : decode cX8_digest 58 = .ok (.iconst 0, 1) := by decide +kernel
theorem dX8_digest_59 : decode cX8_digest 59 = .ok (.istore_n 1, 1) := by decide +kernel
theorem dX8_digest_60 : decode cX8_digest 60 = .ok (.iload_n 1, 1) := by decide +kernel
theorem dX8_digest_61 : decode cX8_digest 61 = .ok (.iconst 5, 1) := by decide +kernel
theorem dX8_digest_62 : decode cX8_digest 62 = .ok (.if_icmp .ge 20, 3) := by decide +kernel
theorem dX8_digest_65 : decode cX8_digest 65 = .ok (.aload_n 0, 1) := by decide +kernel
theorem dX8_digest_66 : decode cX8_digest 66 = .ok (.aload_n 0, 1) := by decide +kernel
theorem dX8_digest_67 : decode cX8_digest 67 = .ok (.getfield 29, 3) := by decide +kernel
theorem dX8_digest_70 : decode cX8_digest 70 = .ok (.iload_n 1, 1) := by decide +kernel
theorem dX8_digest_71 : decode cX8_digest 71 = .ok (.iaload, 1) := by decide +kernel
theorem dX8_digest_72 : decode cX8_digest 72 = .ok (.i2l, 1) := by decide +kernel
theorem dX8_digest_73 : decode cX8_digest 73 = .ok (.invokevirtual 336, 3) := by decide +kernel
theorem dX8_digest_76 : decode cX8_digest 76 = .ok (.iinc 1 1, 3) := by decide +kernel
theorem dX8_digest_79 : decode cX8_digest 79 = .ok (.goto (-19), 3) := by decide +kernel
theorem dX8_digest_82 : decode cX8_digest 82 = .ok (.aload_n 0, 1) := by decide +kernel
theorem dX8_digest_83 : decode cX8_digest 83 = .ok (.invokevirtual 342, 3) := by decide +kernel
theorem dX8_digest_86 : decode cX8_digest 86 = .ok (.aload_n 0, 1) := by decide +kernel
theorem dX8_digest_87 : decode cX8_digest 87 = .ok (.invokevirtual 345, 3) := by decide +kernel
theorem dX8_digest_90 : decode cX8_digest 90 = .ok (.iconst 0, 1) := by decide +kernel
theorem dX8_digest_91 : decode cX8_digest 91 = .ok (.istore_n 1, 1) := by decide +kernel
theorem dX8_digest_92 : decode cX8_digest 92 = .ok (.iload_n 1, 1) := by decide +kernel
theorem dX8_digest_93 : decode cX8_digest 93 = .ok (.bipush 10, 2) := by decide +kernel
theorem dX8_digest_95 : decode cX8_digest 95 = .ok (.if_icmp .ge 19, 3) := by decide +kernel
theorem dX8_digest_98 : decode cX8_digest 98 = .ok (.aload_n 0, 1) := by decide +kernel
theorem dX8_digest_99 : decode cX8_digest 99 = .ok (.aload_n 0, 1) := by decide +kernel
theorem dX8_digest_100 : decode cX8_digest 100 = .ok (.iload_n 1, 1) := by decide +kernel
theorem dX8_digest_101 : decode cX8_digest 101 = .ok (.invokevirtual 105, 3) := by decide +kernel
theorem dX8_digest_104 : decode cX8_digest 104 = .ok (.i2l, 1) := by decide +kernel
theorem dX8_digest_105 : decode cX8_digest 105 = .ok (.invokevirtual 336, 3) := by decide +kernel
theorem dX8_digest_108 : decode cX8_digest 108 = .ok (.iinc 1 1, 3) := by decide +kernel
theorem dX8_digest_111 : decode cX8_digest 111 = .ok (.goto (-19), 3) := by decide +kernel
theorem dX8_digest_114 : decode cX8_digest 114 = .ok (.aload_n 0, 1) := by decide +kernel
theorem dX8_digest_115 : decode cX8_digest 115 = .ok (.aload_n 0, 1) := by decide +kernel
theorem dX8_digest_116 : decode cX8_digest 116 = .ok (.getfield 54, 3) := by decide +kernel
theorem dX8_digest_119 : decode cX8_digest 119 = .ok (.i2l, 1) := by decide +kernel
theorem dX8_digest_120 : decode cX8_digest 120 = .ok (.invokevirtual 336, 3) := by decide +kernel
theorem dX8_digest_123 : decode cX8_digest 123 = .ok (.iconst 0, 1) := by decide +kernel
theorem dX8_digest_124 : decode cX8_digest 124 = .ok (.istore_n 1, 1) := by decide +kernel
theorem dX8_digest_125 : decode cX8_digest 125 = .ok (.iload_n 1, 1) := by decide +kernel
theorem dX8_digest_126 : decode cX8_digest 126 = .ok (.aload_n 0, 1) := by decide +kernel
theorem dX8_digest_127 : decode cX8_digest 127 = .ok (.getfield 54, 3) := by decide +kernel
theorem dX8_digest_130 : decode cX8_digest 130 = .ok (.if_icmp .ge 20, 3) := by decide +kernel
theorem dX8_digest_133 : decode cX8_digest 133 = .ok (.aload_n 0, 1) := by decide +kernel
theorem dX8_digest_134 : decode cX8_digest 134 = .ok (.aload_n 0, 1) := by decide +kernel
theorem dX8_digest_135 : decode cX8_digest 135 = .ok (.getfield 32, 3) := by decide +kernel
theorem dX8_digest_138 : decode cX8_digest 138 = .ok (.iload_n 1, 1) := by decide +kernel
theorem dX8_digest_139 : decode cX8_digest 139 = .ok (.iaload, 1) := by decide +kernel
theorem dX8_digest_140 : decode cX8_digest 140 = .ok (.i2l, 1) := by decide +kernel
theorem dX8_digest_141 : decode cX8_digest 141 = .ok (.invokevirtual 336, 3) := by decide +kernel
theorem dX8_digest_144 : decode cX8_digest 144 = .ok (.iinc 1 1, 3) := by decide +kernel
theorem dX8_digest_147 : decode cX8_digest 147 = .ok (.goto (-22), 3) := by decide +kernel
theorem dX8_digest_150 : decode cX8_digest 150 = .ok (.aload_n 0, 1) := by decide +kernel
theorem dX8_digest_151 : decode cX8_digest 151 = .ok (.getfield 332, 3) := by decide +kernel
theorem dX8_digest_154 : decode cX8_digest 154 = .ok (.lreturn, 1) := by decide +kernel
theorem dJ6_bitCount_0f7a4_0 : decode cJ6_bitCount_0f7a4 0 = .ok (.iload_n 0, 1) := by decide +kernel
theorem dJ6_bitCount_0f7a4_1 : decode cJ6_bitCount_0f7a4 1 = .ok (.iload_n 0, 1) := by decide +kernel
theorem dJ6_bitCount_0f7a4_2 : decode cJ6_bitCount_0f7a4 2 = .ok (.iconst 1, 1) := by decide +kernel
theorem dJ6_bitCount_0f7a4_3 : decode cJ6_bitCount_0f7a4 3 = .ok (.iushr, 1) := by decide +kernel
theorem dJ6_bitCount_0f7a4_4 : decode cJ6_bitCount_0f7a4 4 = .ok (.ldc_w 265, 3) := by decide +kernel
theorem dJ6_bitCount_0f7a4_7 : decode cJ6_bitCount_0f7a4 7 = .ok (.iand, 1) := by decide +kernel
theorem dJ6_bitCount_0f7a4_8 : decode cJ6_bitCount_0f7a4 8 = .ok (.isub, 1) := by decide +kernel
theorem dJ6_bitCount_0f7a4_9 : decode cJ6_bitCount_0f7a4 9 = .ok (.istore_n 0, 1) := by decide +kernel
theorem dJ6_bitCount_0f7a4_10 : decode cJ6_bitCount_0f7a4 10 = .ok (.iload_n 0, 1) := by decide +kernel
theorem dJ6_bitCount_0f7a4_11 : decode cJ6_bitCount_0f7a4 11 = .ok (.ldc_w 266, 3) := by decide +kernel
theorem dJ6_bitCount_0f7a4_14 : decode cJ6_bitCount_0f7a4 14 = .ok (.iand, 1) := by decide +kernel
theorem dJ6_bitCount_0f7a4_15 : decode cJ6_bitCount_0f7a4 15 = .ok (.iload_n 0, 1) := by decide +kernel
theorem dJ6_bitCount_0f7a4_16 : decode cJ6_bitCount_0f7a4 16 = .ok (.iconst 2, 1) := by decide +kernel
theorem dJ6_bitCount_0f7a4_17 : decode cJ6_bitCount_0f7a4 17 = .ok (.iushr, 1) := by decide +kernel
theorem dJ6_bitCount_0f7a4_18 : decode cJ6_bitCount_0f7a4 18 = .ok (.ldc_w 266, 3) := by decide +kernel
theorem dJ6_bitCount_0f7a4_21 : decode cJ6_bitCount_0f7a4 21 = .ok (.iand, 1) := by decide +kernel
theorem dJ6_bitCount_0f7a4_22 : decode cJ6_bitCount_0f7a4 22 = .ok (.iadd, 1) := by decide +kernel
theorem dJ6_bitCount_0f7a4_23 : decode cJ6_bitCount_0f7a4 23 = .ok (.istore_n 0, 1) := by decide +kernel
theorem dJ6_bitCount_0f7a4_24 : decode cJ6_bitCount_0f7a4 24 = .ok (.iload_n 0, 1) := by decide +kernel
theorem dJ6_bitCount_0f7a4_25 : decode cJ6_bitCount_0f7a4 25 = .ok (.iload_n 0, 1) := by decide +kernel
theorem dJ6_bitCount_0f7a4_26 : decode cJ6_bitCount_0f7a4 26 = .ok (.iconst 4, 1) := by decide +kernel
theorem dJ6_bitCount_0f7a4_27 : decode cJ6_bitCount_0f7a4 27 = .ok (.iushr, 1) := by decide +kernel
theorem dJ6_bitCount_0f7a4_28 : decode cJ6_bitCount_0f7a4 28 = .ok (.iadd, 1) := by decide +kernel
theorem dJ6_bitCount_0f7a4_29 : decode cJ6_bitCount_0f7a4 29 = .ok (.ldc_w 267, 3) := by decide +kernel
theorem dJ6_bitCount_0f7a4_32 : decode cJ6_bitCount_0f7a4 32 = .ok (.iand, 1) := by decide +kernel
theorem dJ6_bitCount_0f7a4_33 : decode cJ6_bitCount_0f7a4 33 = .ok (.istore_n 0, 1) := by decide +kernel
theorem dJ6_bitCount_0f7a4_34 : decode cJ6_bitCount_0f7a4 34 = .ok (.iload_n 0, 1) := by decide +kernel
theorem dJ6_bitCount_0f7a4_35 : decode cJ6_bitCount_0f7a4 35 = .ok (.iload_n 0, 1) := by decide +kernel
theorem dJ6_bitCount_0f7a4_36 : decode cJ6_bitCount_0f7a4 36 = .ok (.bipush 8, 2) := by decide +kernel
theorem dJ6_bitCount_0f7a4_38 : decode cJ6_bitCount_0f7a4 38 = .ok (.iushr, 1) := by decide +kernel
theorem dJ6_bitCount_0f7a4_39 : decode cJ6_bitCount_0f7a4 39 = .ok (.iadd, 1) := by decide +kernel
theorem dJ6_bitCount_0f7a4_40 : decode cJ6_bitCount_0f7a4 40 = .ok (.istore_n 0, 1) := by decide +kernel
theorem dJ6_bitCount_0f7a4_41 : decode cJ6_bitCount_0f7a4 41 = .ok (.iload_n 0, 1) := by decide +kernel
theorem dJ6_bitCount_0f7a4_42 : decode cJ6_bitCount_0f7a4 42 = .ok (.iload_n 0, 1) := by decide +kernel
theorem dJ6_bitCount_0f7a4_43 : decode cJ6_bitCount_0f7a4 43 = .ok (.bipush 16, 2) := by decide +kernel
theorem dJ6_bitCount_0f7a4_45 : decode cJ6_bitCount_0f7a4 45 = .ok (.iushr, 1) := by decide +kernel
theorem dJ6_bitCount_0f7a4_46 : decode cJ6_bitCount_0f7a4 46 = .ok (.iadd, 1) := by decide +kernel
theorem dJ6_bitCount_0f7a4_47 : decode cJ6_bitCount_0f7a4 47 = .ok (.istore_n 0, 1) := by decide +kernel
theorem dJ6_bitCount_0f7a4_48 : decode cJ6_bitCount_0f7a4 48 = .ok (.iload_n 0, 1) := by decide +kernel
theorem dJ6_bitCount_0f7a4_49 : decode cJ6_bitCount_0f7a4 49 = .ok (.bipush 63, 2) := by decide +kernel
theorem dJ6_bitCount_0f7a4_51 : decode cJ6_bitCount_0f7a4 51 = .ok (.iand, 1) := by decide +kernel
theorem dJ6_bitCount_0f7a4_52 : decode cJ6_bitCount_0f7a4 52 = .ok (.ireturn, 1) := by decide +kernel
theorem dJ9_max_7cf53_0 : decode cJ9_max_7cf53 0 = .ok (.iload_n 0, 1) := by decide +kernel
theorem dJ9_max_7cf53_1 : decode cJ9_max_7cf53 1 = .ok (.iload_n 1, 1) := by decide +kernel
theorem dJ9_max_7cf53_2 : decode cJ9_max_7cf53 2 = .ok (.if_icmp .lt 7, 3) := by decide +kernel
theorem dJ9_max_7cf53_5 : decode cJ9_max_7cf53 5 = .ok (.iload_n 0, 1) := by decide +kernel
theorem dJ9_max_7cf53_6 : decode cJ9_max_7cf53 6 = .ok (.goto 4, 3) := by decide +kernel
theorem dJ9_max_7cf53_9 : decode cJ9_max_7cf53 9 = .ok (.iload_n 1, 1) := by decide +kernel
theorem dJ9_max_7cf53_10 : decode cJ9_max_7cf53 10 = .ok (.ireturn, 1) := by decide +kernel
theorem dL_append_0 : decode cL_append 0 = .ok (.aload_n 2, 1) := by decide +kernel
theorem dL_append_1 : decode cL_append 1 = .ok (.iconst 0, 1) := by decide +kernel
theorem dL_append_2 : decode cL_append 2 = .ok (.aload_n 0, 1) := by decide +kernel
theorem dL_append_3 : decode cL_append 3 = .ok (.iload_n 1, 1) := by decide +kernel
theorem dL_append_4 : decode cL_append 4 = .ok (.invokevirtual 7, 3) := by decide +kernel
theorem dL_append_7 : decode cL_append 7 = .ok (.i2l, 1) := by decide +kernel
theorem dL_append_8 : decode cL_append 8 = .ok (.lastore, 1) := by decide +kernel
theorem dL_append_9 : decode cL_append 9 = .ok (.goto 9, 3) := by decide +kernel
theorem dL_append_12 : decode cL_append 12 = .ok (.astore_n 3, 1) := by decide +kernel
theorem dL_append_13 : decode cL_append 13 = .ok (.iconst 1, 1) := by decide +kernel
theorem dL_append_14 : decode cL_append 14 = .ok (.ireturn, 1) := by decide +kernel
theorem dL_append_15 : decode cL_append 15 = .ok (.astore_n 3, 1) := by decide +kernel
theorem dL_append_16 : decode cL_append 16 = .ok (.iconst 2, 1) := by decide +kernel
theorem dL_append_17 : decode cL_append 17 = .ok (.ireturn, 1) := by decide +kernel
theorem dL_append_18 : decode cL_append 18 = .ok (.iconst 0, 1) := by decide +kernel
theorem dL_append_19 : decode cL_append 19 = .ok (.ireturn, 1) := by decide +kernel
theorem dL_load_0 : decode cL_load 0 = .ok (.aload_n 1, 1) := by decide +kernel
theorem dL_load_1 : decode cL_load 1 = .ok (.iconst 0, 1) := by decide +kernel
theorem dL_load_2 : decode cL_load 2 = .ok (.aload_n 0, 1) := by decide +kernel
theorem dL_load_3 : decode cL_load 3 = .ok (.invokevirtual 17, 3) := by decide +kernel
theorem dL_load_6 : decode cL_load 6 = .ok (.i2l, 1) := by decide +kernel
theorem dL_load_7 : decode cL_load 7 = .ok (.lastore, 1) := by decide +kernel
theorem dL_load_8 : decode cL_load 8 = .ok (.goto 6, 3) := by decide +kernel
theorem dL_load_11 : decode cL_load 11 = .ok (.astore_n 2, 1) := by decide +kernel
theorem dL_load_12 : decode cL_load 12 = .ok (.iconst 1, 1) := by decide +kernel
theorem dL_load_13 : decode cL_load 13 = .ok (.ireturn, 1) := by decide +kernel
theorem dL_load_14 : decode cL_load 14 = .ok (.iconst 0, 1) := by decide +kernel
theorem dL_load_15 : decode cL_load 15 = .ok (.ireturn, 1) := by decide +kernel
theorem dL_setNote_0 : decode cL_setNote 0 = .ok (.aload_n 2, 1) := by decide +kernel
theorem dL_setNote_1 : decode cL_setNote 1 = .ok (.iconst 0, 1) := by decide +kernel
theorem dL_setNote_2 : decode cL_setNote 2 = .ok (.aload_n 0, 1) := by decide +kernel
theorem dL_setNote_3 : decode cL_setNote 3 = .ok (.iload_n 1, 1) := by decide +kernel
theorem dL_setNote_4 : decode cL_setNote 4 = .ok (.invokevirtual 21, 3) := by decide +kernel
theorem dL_setNote_7 : decode cL_setNote 7 = .ok (.i2l, 1) := by decide +kernel
theorem dL_setNote_8 : decode cL_setNote 8 = .ok (.lastore, 1) := by decide +kernel
theorem dL_setNote_9 : decode cL_setNote 9 = .ok (.goto 9, 3) := by decide +kernel
theorem dL_setNote_12 : decode cL_setNote 12 = .ok (.astore_n 3, 1) := by decide +kernel
theorem dL_setNote_13 : decode cL_setNote 13 = .ok (.iconst 1, 1) := by decide +kernel
theorem dL_setNote_14 : decode cL_setNote 14 = .ok (.ireturn, 1) := by decide +kernel
theorem dL_setNote_15 : decode cL_setNote 15 = .ok (.astore_n 3, 1) := by decide +kernel
theorem dL_setNote_16 : decode cL_setNote 16 = .ok (.iconst 2, 1) := by decide +kernel
theorem dL_setNote_17 : decode cL_setNote 17 = .ok (.ireturn, 1) := by decide +kernel
theorem dL_setNote_18 : decode cL_setNote 18 = .ok (.iconst 0, 1) := by decide +kernel
theorem dL_setNote_19 : decode cL_setNote 19 = .ok (.ireturn, 1) := by decide +kernel
theorem dL_removeNote_0 : decode cL_removeNote 0 = .ok (.aload_n 2, 1) := by decide +kernel
theorem dL_removeNote_1 : decode cL_removeNote 1 = .ok (.iconst 0, 1) := by decide +kernel
theorem dL_removeNote_2 : decode cL_removeNote 2 = .ok (.aload_n 0, 1) := by decide +kernel
theorem dL_removeNote_3 : decode cL_removeNote 3 = .ok (.iload_n 1, 1) := by decide +kernel
theorem dL_removeNote_4 : decode cL_removeNote 4 = .ok (.invokevirtual 26, 3) := by decide +kernel
theorem dL_removeNote_7 : decode cL_removeNote 7 = .ok (.i2l, 1) := by decide +kernel
theorem dL_removeNote_8 : decode cL_removeNote 8 = .ok (.lastore, 1) := by decide +kernel
theorem dL_removeNote_9 : decode cL_removeNote 9 = .ok (.goto 9, 3) := by decide +kernel
theorem dL_removeNote_12 : decode cL_removeNote 12 = .ok (.astore_n 3, 1) := by decide +kernel
theorem dL_removeNote_13 : decode cL_removeNote 13 = .ok (.iconst 1, 1) := by decide +kernel
theorem dL_removeNote_14 : decode cL_removeNote 14 = .ok (.ireturn, 1) := by decide +kernel
theorem dL_removeNote_15 : decode cL_removeNote 15 = .ok (.astore_n 3, 1) := by decide +kernel
theorem dL_removeNote_16 : decode cL_removeNote 16 = .ok (.iconst 2, 1) := by decide +kernel
theorem dL_removeNote_17 : decode cL_removeNote 17 = .ok (.ireturn, 1) := by decide +kernel
theorem dL_removeNote_18 : decode cL_removeNote 18 = .ok (.iconst 0, 1) := by decide +kernel
theorem dL_removeNote_19 : decode cL_removeNote 19 = .ok (.ireturn, 1) := by decide +kernel
theorem dL_setSize_0 : decode cL_setSize 0 = .ok (.aload_n 3, 1) := by decide +kernel
theorem dL_setSize_1 : decode cL_setSize 1 = .ok (.iconst 0, 1) := by decide +kernel
theorem dL_setSize_2 : decode cL_setSize 2 = .ok (.aload_n 0, 1) := by decide +kernel
theorem dL_setSize_3 : decode cL_setSize 3 = .ok (.iload_n 1, 1) := by decide +kernel
theorem dL_setSize_4 : decode cL_setSize 4 = .ok (.iload_n 2, 1) := by decide +kernel
theorem dL_setSize_5 : decode cL_setSize 5 = .ok (.invokevirtual 29, 3) := by decide +kernel
theorem dL_setSize_8 : decode cL_setSize 8 = .ok (.i2l, 1) := by decide +kernel
theorem dL_setSize_9 : decode cL_setSize 9 = .ok (.lastore, 1) := by decide +kernel
theorem dL_setSize_10 : decode cL_setSize 10 = .ok (.goto 7, 3) := by decide +kernel
theorem dL_setSize_13 : decode cL_setSize 13 = .ok (.astore 4, 2) := by decide +kernel
theorem dL_setSize_15 : decode cL_setSize 15 = .ok (.iconst 1, 1) := by decide +kernel
theorem dL_setSize_16 : decode cL_setSize 16 = .ok (.ireturn, 1) := by decide +kernel
theorem dL_setSize_17 : decode cL_setSize 17 = .ok (.iconst 0, 1) := by decide +kernel
theorem dL_setSize_18 : decode cL_setSize 18 = .ok (.ireturn, 1) := by decide +kernel
theorem dL_setStyle_0 : decode cL_setStyle 0 = .ok (.aload_n 3, 1) := by decide +kernel
theorem dL_setStyle_1 : decode cL_setStyle 1 = .ok (.iconst 0, 1) := by decide +kernel
theorem dL_setStyle_2 : decode cL_setStyle 2 = .ok (.aload_n 0, 1) := by decide +kernel
theorem dL_setStyle_3 : decode cL_setStyle 3 = .ok (.iload_n 1, 1) := by decide +kernel
theorem dL_setStyle_4 : decode cL_setStyle 4 = .ok (.iload_n 2, 1) := by decide +kernel
theorem dL_setStyle_5 : decode cL_setStyle 5 = .ok (.invokevirtual 33, 3) := by decide +kernel
theorem dL_setStyle_8 : decode cL_setStyle 8 = .ok (.i2l, 1) := by decide +kernel
theorem dL_setStyle_9 : decode cL_setStyle 9 = .ok (.lastore, 1) := by decide +kernel
theorem dL_setStyle_10 : decode cL_setStyle 10 = .ok (.goto 7, 3) := by decide +kernel
theorem dL_setStyle_13 : decode cL_setStyle 13 = .ok (.astore 4, 2) := by decide +kernel
theorem dL_setStyle_15 : decode cL_setStyle 15 = .ok (.iconst 1, 1) := by decide +kernel
theorem dL_setStyle_16 : decode cL_setStyle 16 = .ok (.ireturn, 1) := by decide +kernel
theorem dL_setStyle_17 : decode cL_setStyle 17 = .ok (.iconst 0, 1) := by decide +kernel
theorem dL_setStyle_18 : decode cL_setStyle 18 = .ok (.ireturn, 1) := by decide +kernel
theorem dL_page_0 : decode cL_page 0 = .ok (.aload_n 3, 1) := by decide +kernel
theorem dL_page_1 : decode cL_page 1 = .ok (.iconst 0, 1) := by decide +kernel
theorem dL_page_2 : decode cL_page 2 = .ok (.aload_n 0, 1) := by decide +kernel
theorem dL_page_3 : decode cL_page 3 = .ok (.iload_n 1, 1) := by decide +kernel
theorem dL_page_4 : decode cL_page 4 = .ok (.iload_n 2, 1) := by decide +kernel
theorem dL_page_5 : decode cL_page 5 = .ok (.invokevirtual 36, 3) := by decide +kernel
theorem dL_page_8 : decode cL_page 8 = .ok (.i2l, 1) := by decide +kernel
theorem dL_page_9 : decode cL_page 9 = .ok (.lastore, 1) := by decide +kernel
theorem dL_page_10 : decode cL_page 10 = .ok (.goto 11, 3) := by decide +kernel
theorem dL_page_13 : decode cL_page 13 = .ok (.astore 4, 2) := by decide +kernel
theorem dL_page_15 : decode cL_page 15 = .ok (.iconst 1, 1) := by decide +kernel
theorem dL_page_16 : decode cL_page 16 = .ok (.ireturn, 1) := by decide +kernel
theorem dL_page_17 : decode cL_page 17 = .ok (.astore 4, 2) := by decide +kernel
theorem dL_page_19 : decode cL_page 19 = .ok (.iconst 2, 1) := by decide +kernel
theorem dL_page_20 : decode cL_page 20 = .ok (.ireturn, 1) := by decide +kernel
theorem dL_page_21 : decode cL_page 21 = .ok (.iconst 0, 1) := by decide +kernel
theorem dL_page_22 : decode cL_page 22 = .ok (.ireturn, 1) := by decide +kernel
theorem dL_line_0 : decode cL_line 0 = .ok (.aload_n 3, 1) := by decide +kernel
theorem dL_line_1 : decode cL_line 1 = .ok (.iconst 0, 1) := by decide +kernel
theorem dL_line_2 : decode cL_line 2 = .ok (.aload_n 0, 1) := by decide +kernel
theorem dL_line_3 : decode cL_line 3 = .ok (.iload_n 1, 1) := by decide +kernel
theorem dL_line_4 : decode cL_line 4 = .ok (.iload_n 2, 1) := by decide +kernel
theorem dL_line_5 : decode cL_line 5 = .ok (.invokevirtual 39, 3) := by decide +kernel
theorem dL_line_8 : decode cL_line 8 = .ok (.i2l, 1) := by decide +kernel
theorem dL_line_9 : decode cL_line 9 = .ok (.lastore, 1) := by decide +kernel
theorem dL_line_10 : decode cL_line 10 = .ok (.goto 11, 3) := by decide +kernel
theorem dL_line_13 : decode cL_line 13 = .ok (.astore 4, 2) := by decide +kernel
theorem dL_line_15 : decode cL_line 15 = .ok (.iconst 1, 1) := by decide +kernel
theorem dL_line_16 : decode cL_line 16 = .ok (.ireturn, 1) := by decide +kernel
theorem dL_line_17 : decode cL_line 17 = .ok (.astore 4, 2) := by decide +kernel
theorem dL_line_19 : decode cL_line 19 = .ok (.iconst 2, 1) := by decide +kernel
theorem dL_line_20 : decode cL_line 20 = .ok (.ireturn, 1) := by decide +kernel
theorem dL_line_21 : decode cL_line 21 = .ok (.iconst 0, 1) := by decide +kernel
theorem dL_line_22 : decode cL_line 22 = .ok (.ireturn, 1) := by decide +kernel
theorem dL_shown_0 : decode cL_shown 0 = .ok (.aload 4, 2) := by decide +kernel
theorem dL_shown_2 : decode cL_shown 2 = .ok (.iconst 0, 1) := by decide +kernel
theorem dL_shown_3 : decode cL_shown 3 = .ok (.aload_n 0, 1) := by decide +kernel
theorem dL_shown_4 : decode cL_shown 4 = .ok (.iload_n 1, 1) := by decide +kernel
theorem dL_shown_5 : decode cL_shown 5 = .ok (.iload_n 2, 1) := by decide +kernel
theorem dL_shown_6 : decode cL_shown 6 = .ok (.iload_n 3, 1) := by decide +kernel
theorem dL_shown_7 : decode cL_shown 7 = .ok (.invokevirtual 42, 3) := by decide +kernel
theorem dL_shown_10 : decode cL_shown 10 = .ok (.i2l, 1) := by decide +kernel
theorem dL_shown_11 : decode cL_shown 11 = .ok (.lastore, 1) := by decide +kernel
theorem dL_shown_12 : decode cL_shown 12 = .ok (.goto 11, 3) := by decide +kernel
theorem dL_shown_15 : decode cL_shown 15 = .ok (.astore 5, 2) := by decide +kernel
theorem dL_shown_17 : decode cL_shown 17 = .ok (.iconst 1, 1) := by decide +kernel
theorem dL_shown_18 : decode cL_shown 18 = .ok (.ireturn, 1) := by decide +kernel
theorem dL_shown_19 : decode cL_shown 19 = .ok (.astore 5, 2) := by decide +kernel
theorem dL_shown_21 : decode cL_shown 21 = .ok (.iconst 2, 1) := by decide +kernel
theorem dL_shown_22 : decode cL_shown 22 = .ok (.ireturn, 1) := by decide +kernel
theorem dL_shown_23 : decode cL_shown 23 = .ok (.iconst 0, 1) := by decide +kernel
theorem dL_shown_24 : decode cL_shown 24 = .ok (.ireturn, 1) := by decide +kernel
theorem dL_noteOn_0 : decode cL_noteOn 0 = .ok (.aload_n 3, 1) := by decide +kernel
theorem dL_noteOn_1 : decode cL_noteOn 1 = .ok (.iconst 0, 1) := by decide +kernel
theorem dL_noteOn_2 : decode cL_noteOn 2 = .ok (.aload_n 0, 1) := by decide +kernel
theorem dL_noteOn_3 : decode cL_noteOn 3 = .ok (.iload_n 1, 1) := by decide +kernel
theorem dL_noteOn_4 : decode cL_noteOn 4 = .ok (.iload_n 2, 1) := by decide +kernel
theorem dL_noteOn_5 : decode cL_noteOn 5 = .ok (.invokevirtual 46, 3) := by decide +kernel
theorem dL_noteOn_8 : decode cL_noteOn 8 = .ok (.i2l, 1) := by decide +kernel
theorem dL_noteOn_9 : decode cL_noteOn 9 = .ok (.lastore, 1) := by decide +kernel
theorem dL_noteOn_10 : decode cL_noteOn 10 = .ok (.goto 7, 3) := by decide +kernel
theorem dL_noteOn_13 : decode cL_noteOn 13 = .ok (.astore 4, 2) := by decide +kernel
theorem dL_noteOn_15 : decode cL_noteOn 15 = .ok (.iconst 1, 1) := by decide +kernel
theorem dL_noteOn_16 : decode cL_noteOn 16 = .ok (.ireturn, 1) := by decide +kernel
theorem dL_noteOn_17 : decode cL_noteOn 17 = .ok (.iconst 0, 1) := by decide +kernel
theorem dL_noteOn_18 : decode cL_noteOn 18 = .ok (.ireturn, 1) := by decide +kernel
theorem dL_pageOf_0 : decode cL_pageOf 0 = .ok (.aload_n 3, 1) := by decide +kernel
theorem dL_pageOf_1 : decode cL_pageOf 1 = .ok (.iconst 0, 1) := by decide +kernel
theorem dL_pageOf_2 : decode cL_pageOf 2 = .ok (.aload_n 0, 1) := by decide +kernel
theorem dL_pageOf_3 : decode cL_pageOf 3 = .ok (.iload_n 1, 1) := by decide +kernel
theorem dL_pageOf_4 : decode cL_pageOf 4 = .ok (.iload_n 2, 1) := by decide +kernel
theorem dL_pageOf_5 : decode cL_pageOf 5 = .ok (.invokevirtual 49, 3) := by decide +kernel
theorem dL_pageOf_8 : decode cL_pageOf 8 = .ok (.i2l, 1) := by decide +kernel
theorem dL_pageOf_9 : decode cL_pageOf 9 = .ok (.lastore, 1) := by decide +kernel
theorem dL_pageOf_10 : decode cL_pageOf 10 = .ok (.goto 7, 3) := by decide +kernel
theorem dL_pageOf_13 : decode cL_pageOf 13 = .ok (.astore 4, 2) := by decide +kernel
theorem dL_pageOf_15 : decode cL_pageOf 15 = .ok (.iconst 1, 1) := by decide +kernel
theorem dL_pageOf_16 : decode cL_pageOf 16 = .ok (.ireturn, 1) := by decide +kernel
theorem dL_pageOf_17 : decode cL_pageOf 17 = .ok (.iconst 0, 1) := by decide +kernel
theorem dL_pageOf_18 : decode cL_pageOf 18 = .ok (.ireturn, 1) := by decide +kernel
theorem dL_floating_0 : decode cL_floating 0 = .ok (.aload_n 3, 1) := by decide +kernel
theorem dL_floating_1 : decode cL_floating 1 = .ok (.iconst 0, 1) := by decide +kernel
theorem dL_floating_2 : decode cL_floating 2 = .ok (.aload_n 0, 1) := by decide +kernel
theorem dL_floating_3 : decode cL_floating 3 = .ok (.iload_n 1, 1) := by decide +kernel
theorem dL_floating_4 : decode cL_floating 4 = .ok (.iload_n 2, 1) := by decide +kernel
theorem dL_floating_5 : decode cL_floating 5 = .ok (.invokevirtual 52, 3) := by decide +kernel
theorem dL_floating_8 : decode cL_floating 8 = .ok (.i2l, 1) := by decide +kernel
theorem dL_floating_9 : decode cL_floating 9 = .ok (.lastore, 1) := by decide +kernel
theorem dL_floating_10 : decode cL_floating 10 = .ok (.goto 7, 3) := by decide +kernel
theorem dL_floating_13 : decode cL_floating 13 = .ok (.astore 4, 2) := by decide +kernel
theorem dL_floating_15 : decode cL_floating 15 = .ok (.iconst 1, 1) := by decide +kernel
theorem dL_floating_16 : decode cL_floating 16 = .ok (.ireturn, 1) := by decide +kernel
theorem dL_floating_17 : decode cL_floating 17 = .ok (.iconst 0, 1) := by decide +kernel
theorem dL_floating_18 : decode cL_floating 18 = .ok (.ireturn, 1) := by decide +kernel
theorem dL_go_0 : decode cL_go 0 = .ok (.aload_n 3, 1) := by decide +kernel
theorem dL_go_1 : decode cL_go 1 = .ok (.iconst 0, 1) := by decide +kernel
theorem dL_go_2 : decode cL_go 2 = .ok (.aload_n 0, 1) := by decide +kernel
theorem dL_go_3 : decode cL_go 3 = .ok (.iload_n 1, 1) := by decide +kernel
theorem dL_go_4 : decode cL_go 4 = .ok (.iload_n 2, 1) := by decide +kernel
theorem dL_go_5 : decode cL_go 5 = .ok (.invokevirtual 56, 3) := by decide +kernel
theorem dL_go_8 : decode cL_go 8 = .ok (.i2l, 1) := by decide +kernel
theorem dL_go_9 : decode cL_go 9 = .ok (.lastore, 1) := by decide +kernel
theorem dL_go_10 : decode cL_go 10 = .ok (.goto 7, 3) := by decide +kernel
theorem dL_go_13 : decode cL_go 13 = .ok (.astore 4, 2) := by decide +kernel
theorem dL_go_15 : decode cL_go 15 = .ok (.iconst 1, 1) := by decide +kernel
theorem dL_go_16 : decode cL_go 16 = .ok (.ireturn, 1) := by decide +kernel
theorem dL_go_17 : decode cL_go 17 = .ok (.iconst 0, 1) := by decide +kernel
theorem dL_go_18 : decode cL_go 18 = .ok (.ireturn, 1) := by decide +kernel
theorem dL_back_0 : decode cL_back 0 = .ok (.aload_n 1, 1) := by decide +kernel
theorem dL_back_1 : decode cL_back 1 = .ok (.iconst 0, 1) := by decide +kernel
theorem dL_back_2 : decode cL_back 2 = .ok (.aload_n 0, 1) := by decide +kernel
theorem dL_back_3 : decode cL_back 3 = .ok (.invokevirtual 59, 3) := by decide +kernel
theorem dL_back_6 : decode cL_back 6 = .ok (.i2l, 1) := by decide +kernel
theorem dL_back_7 : decode cL_back 7 = .ok (.lastore, 1) := by decide +kernel
theorem dL_back_8 : decode cL_back 8 = .ok (.goto 6, 3) := by decide +kernel
theorem dL_back_11 : decode cL_back 11 = .ok (.astore_n 2, 1) := by decide +kernel
theorem dL_back_12 : decode cL_back 12 = .ok (.iconst 1, 1) := by decide +kernel
theorem dL_back_13 : decode cL_back 13 = .ok (.ireturn, 1) := by decide +kernel
theorem dL_back_14 : decode cL_back 14 = .ok (.iconst 0, 1) := by decide +kernel
theorem dL_back_15 : decode cL_back 15 = .ok (.ireturn, 1) := by decide +kernel
theorem dL_find_0 : decode cL_find 0 = .ok (.aload_n 2, 1) := by decide +kernel
theorem dL_find_1 : decode cL_find 1 = .ok (.iconst 0, 1) := by decide +kernel
theorem dL_find_2 : decode cL_find 2 = .ok (.aload_n 0, 1) := by decide +kernel
theorem dL_find_3 : decode cL_find 3 = .ok (.iload_n 1, 1) := by decide +kernel
theorem dL_find_4 : decode cL_find 4 = .ok (.invokevirtual 62, 3) := by decide +kernel
theorem dL_find_7 : decode cL_find 7 = .ok (.i2l, 1) := by decide +kernel
theorem dL_find_8 : decode cL_find 8 = .ok (.lastore, 1) := by decide +kernel
theorem dL_find_9 : decode cL_find 9 = .ok (.goto 6, 3) := by decide +kernel
theorem dL_find_12 : decode cL_find 12 = .ok (.astore_n 3, 1) := by decide +kernel
theorem dL_find_13 : decode cL_find 13 = .ok (.iconst 1, 1) := by decide +kernel
theorem dL_find_14 : decode cL_find 14 = .ok (.ireturn, 1) := by decide +kernel
theorem dL_find_15 : decode cL_find 15 = .ok (.iconst 0, 1) := by decide +kernel
theorem dL_find_16 : decode cL_find 16 = .ok (.ireturn, 1) := by decide +kernel
theorem dL_count_0 : decode cL_count 0 = .ok (.aload_n 2, 1) := by decide +kernel
theorem dL_count_1 : decode cL_count 1 = .ok (.iconst 0, 1) := by decide +kernel
theorem dL_count_2 : decode cL_count 2 = .ok (.aload_n 0, 1) := by decide +kernel
theorem dL_count_3 : decode cL_count 3 = .ok (.iload_n 1, 1) := by decide +kernel
theorem dL_count_4 : decode cL_count 4 = .ok (.invokevirtual 66, 3) := by decide +kernel
theorem dL_count_7 : decode cL_count 7 = .ok (.i2l, 1) := by decide +kernel
theorem dL_count_8 : decode cL_count 8 = .ok (.lastore, 1) := by decide +kernel
theorem dL_count_9 : decode cL_count 9 = .ok (.goto 6, 3) := by decide +kernel
theorem dL_count_12 : decode cL_count 12 = .ok (.astore_n 3, 1) := by decide +kernel
theorem dL_count_13 : decode cL_count 13 = .ok (.iconst 1, 1) := by decide +kernel
theorem dL_count_14 : decode cL_count 14 = .ok (.ireturn, 1) := by decide +kernel
theorem dL_count_15 : decode cL_count 15 = .ok (.iconst 0, 1) := by decide +kernel
theorem dL_count_16 : decode cL_count 16 = .ok (.ireturn, 1) := by decide +kernel
theorem dL_paragraph_0 : decode cL_paragraph 0 = .ok (.aload_n 3, 1) := by decide +kernel
theorem dL_paragraph_1 : decode cL_paragraph 1 = .ok (.iconst 0, 1) := by decide +kernel
theorem dL_paragraph_2 : decode cL_paragraph 2 = .ok (.aload_n 0, 1) := by decide +kernel
theorem dL_paragraph_3 : decode cL_paragraph 3 = .ok (.iload_n 1, 1) := by decide +kernel
theorem dL_paragraph_4 : decode cL_paragraph 4 = .ok (.iload_n 2, 1) := by decide +kernel
theorem dL_paragraph_5 : decode cL_paragraph 5 = .ok (.invokevirtual 69, 3) := by decide +kernel
theorem dL_paragraph_8 : decode cL_paragraph 8 = .ok (.i2l, 1) := by decide +kernel
theorem dL_paragraph_9 : decode cL_paragraph 9 = .ok (.lastore, 1) := by decide +kernel
theorem dL_paragraph_10 : decode cL_paragraph 10 = .ok (.goto 11, 3) := by decide +kernel
theorem dL_paragraph_13 : decode cL_paragraph 13 = .ok (.astore 4, 2) := by decide +kernel
theorem dL_paragraph_15 : decode cL_paragraph 15 = .ok (.iconst 1, 1) := by decide +kernel
theorem dL_paragraph_16 : decode cL_paragraph 16 = .ok (.ireturn, 1) := by decide +kernel
theorem dL_paragraph_17 : decode cL_paragraph 17 = .ok (.astore 4, 2) := by decide +kernel
theorem dL_paragraph_19 : decode cL_paragraph 19 = .ok (.iconst 2, 1) := by decide +kernel
theorem dL_paragraph_20 : decode cL_paragraph 20 = .ok (.ireturn, 1) := by decide +kernel
theorem dL_paragraph_21 : decode cL_paragraph 21 = .ok (.iconst 0, 1) := by decide +kernel
theorem dL_paragraph_22 : decode cL_paragraph 22 = .ok (.ireturn, 1) := by decide +kernel
theorem dL_letter_0 : decode cL_letter 0 = .ok (.aload_n 3, 1) := by decide +kernel
theorem dL_letter_1 : decode cL_letter 1 = .ok (.iconst 0, 1) := by decide +kernel
theorem dL_letter_2 : decode cL_letter 2 = .ok (.aload_n 0, 1) := by decide +kernel
theorem dL_letter_3 : decode cL_letter 3 = .ok (.iload_n 1, 1) := by decide +kernel
theorem dL_letter_4 : decode cL_letter 4 = .ok (.iload_n 2, 1) := by decide +kernel
theorem dL_letter_5 : decode cL_letter 5 = .ok (.invokevirtual 72, 3) := by decide +kernel
theorem dL_letter_8 : decode cL_letter 8 = .ok (.i2l, 1) := by decide +kernel
theorem dL_letter_9 : decode cL_letter 9 = .ok (.lastore, 1) := by decide +kernel
theorem dL_letter_10 : decode cL_letter 10 = .ok (.goto 7, 3) := by decide +kernel
theorem dL_letter_13 : decode cL_letter 13 = .ok (.astore 4, 2) := by decide +kernel
theorem dL_letter_15 : decode cL_letter 15 = .ok (.iconst 1, 1) := by decide +kernel
theorem dL_letter_16 : decode cL_letter 16 = .ok (.ireturn, 1) := by decide +kernel
theorem dL_letter_17 : decode cL_letter 17 = .ok (.iconst 0, 1) := by decide +kernel
theorem dL_letter_18 : decode cL_letter 18 = .ok (.ireturn, 1) := by decide +kernel
theorem dL_annotate_0 : decode cL_annotate 0 = .ok (.aload 5, 2) := by decide +kernel
theorem dL_annotate_2 : decode cL_annotate 2 = .ok (.iconst 0, 1) := by decide +kernel
theorem dL_annotate_3 : decode cL_annotate 3 = .ok (.aload_n 0, 1) := by decide +kernel
theorem dL_annotate_4 : decode cL_annotate 4 = .ok (.iload_n 1, 1) := by decide +kernel
theorem dL_annotate_5 : decode cL_annotate 5 = .ok (.iload_n 2, 1) := by decide +kernel
theorem dL_annotate_6 : decode cL_annotate 6 = .ok (.iload_n 3, 1) := by decide +kernel
theorem dL_annotate_7 : decode cL_annotate 7 = .ok (.iload 4, 2) := by decide +kernel
theorem dL_annotate_9 : decode cL_annotate 9 = .ok (.invokevirtual 75, 3) := by decide +kernel
theorem dL_annotate_12 : decode cL_annotate 12 = .ok (.i2l, 1) := by decide +kernel
theorem dL_annotate_13 : decode cL_annotate 13 = .ok (.lastore, 1) := by decide +kernel
theorem dL_annotate_14 : decode cL_annotate 14 = .ok (.goto 15, 3) := by decide +kernel
theorem dL_annotate_17 : decode cL_annotate 17 = .ok (.astore 6, 2) := by decide +kernel
theorem dL_annotate_19 : decode cL_annotate 19 = .ok (.iconst 1, 1) := by decide +kernel
theorem dL_annotate_20 : decode cL_annotate 20 = .ok (.ireturn, 1) := by decide +kernel
theorem dL_annotate_21 : decode cL_annotate 21 = .ok (.astore 6, 2) := by decide +kernel
theorem dL_annotate_23 : decode cL_annotate 23 = .ok (.iconst 2, 1) := by decide +kernel
theorem dL_annotate_24 : decode cL_annotate 24 = .ok (.ireturn, 1) := by decide +kernel
theorem dL_annotate_25 : decode cL_annotate 25 = .ok (.astore 6, 2) := by decide +kernel
theorem dL_annotate_27 : decode cL_annotate 27 = .ok (.iconst 3, 1) := by decide +kernel
theorem dL_annotate_28 : decode cL_annotate 28 = .ok (.ireturn, 1) := by decide +kernel
theorem dL_annotate_29 : decode cL_annotate 29 = .ok (.iconst 0, 1) := by decide +kernel
theorem dL_annotate_30 : decode cL_annotate 30 = .ok (.ireturn, 1) := by decide +kernel
theorem dL_annotation_0 : decode cL_annotation 0 = .ok (.aload_n 3, 1) := by decide +kernel
theorem dL_annotation_1 : decode cL_annotation 1 = .ok (.iconst 0, 1) := by decide +kernel
theorem dL_annotation_2 : decode cL_annotation 2 = .ok (.aload_n 0, 1) := by decide +kernel
theorem dL_annotation_3 : decode cL_annotation 3 = .ok (.iload_n 1, 1) := by decide +kernel
theorem dL_annotation_4 : decode cL_annotation 4 = .ok (.iload_n 2, 1) := by decide +kernel
theorem dL_annotation_5 : decode cL_annotation 5 = .ok (.invokevirtual 79, 3) := by decide +kernel
theorem dL_annotation_8 : decode cL_annotation 8 = .ok (.i2l, 1) := by decide +kernel
theorem dL_annotation_9 : decode cL_annotation 9 = .ok (.lastore, 1) := by decide +kernel
theorem dL_annotation_10 : decode cL_annotation 10 = .ok (.goto 11, 3) := by decide +kernel
theorem dL_annotation_13 : decode cL_annotation 13 = .ok (.astore 4, 2) := by decide +kernel
theorem dL_annotation_15 : decode cL_annotation 15 = .ok (.iconst 1, 1) := by decide +kernel
theorem dL_annotation_16 : decode cL_annotation 16 = .ok (.ireturn, 1) := by decide +kernel
theorem dL_annotation_17 : decode cL_annotation 17 = .ok (.astore 4, 2) := by decide +kernel
theorem dL_annotation_19 : decode cL_annotation 19 = .ok (.iconst 2, 1) := by decide +kernel
theorem dL_annotation_20 : decode cL_annotation 20 = .ok (.ireturn, 1) := by decide +kernel
theorem dL_annotation_21 : decode cL_annotation 21 = .ok (.iconst 0, 1) := by decide +kernel
theorem dL_annotation_22 : decode cL_annotation 22 = .ok (.ireturn, 1) := by decide +kernel
theorem dL_removeAnnotation_0 : decode cL_removeAnnotation 0 = .ok (.aload_n 2, 1) := by decide +kernel
theorem dL_removeAnnotation_1 : decode cL_removeAnnotation 1 = .ok (.iconst 0, 1) := by decide +kernel
theorem dL_removeAnnotation_2 : decode cL_removeAnnotation 2 = .ok (.aload_n 0, 1) := by decide +kernel
theorem dL_removeAnnotation_3 : decode cL_removeAnnotation 3 = .ok (.iload_n 1, 1) := by decide +kernel
theorem dL_removeAnnotation_4 : decode cL_removeAnnotation 4 = .ok (.invokevirtual 82, 3) := by decide +kernel
theorem dL_removeAnnotation_7 : decode cL_removeAnnotation 7 = .ok (.i2l, 1) := by decide +kernel
theorem dL_removeAnnotation_8 : decode cL_removeAnnotation 8 = .ok (.lastore, 1) := by decide +kernel
theorem dL_removeAnnotation_9 : decode cL_removeAnnotation 9 = .ok (.goto 6, 3) := by decide +kernel
theorem dL_removeAnnotation_12 : decode cL_removeAnnotation 12 = .ok (.astore_n 3, 1) := by decide +kernel
theorem dL_removeAnnotation_13 : decode cL_removeAnnotation 13 = .ok (.iconst 1, 1) := by decide +kernel
theorem dL_removeAnnotation_14 : decode cL_removeAnnotation 14 = .ok (.ireturn, 1) := by decide +kernel
theorem dL_removeAnnotation_15 : decode cL_removeAnnotation 15 = .ok (.iconst 0, 1) := by decide +kernel
theorem dL_removeAnnotation_16 : decode cL_removeAnnotation 16 = .ok (.ireturn, 1) := by decide +kernel
theorem dL_insert_0 : decode cL_insert 0 = .ok (.aload_n 3, 1) := by decide +kernel
theorem dL_insert_1 : decode cL_insert 1 = .ok (.iconst 0, 1) := by decide +kernel
theorem dL_insert_2 : decode cL_insert 2 = .ok (.aload_n 0, 1) := by decide +kernel
theorem dL_insert_3 : decode cL_insert 3 = .ok (.iload_n 1, 1) := by decide +kernel
theorem dL_insert_4 : decode cL_insert 4 = .ok (.iload_n 2, 1) := by decide +kernel
theorem dL_insert_5 : decode cL_insert 5 = .ok (.invokevirtual 85, 3) := by decide +kernel
theorem dL_insert_8 : decode cL_insert 8 = .ok (.i2l, 1) := by decide +kernel
theorem dL_insert_9 : decode cL_insert 9 = .ok (.lastore, 1) := by decide +kernel
theorem dL_insert_10 : decode cL_insert 10 = .ok (.goto 11, 3) := by decide +kernel
theorem dL_insert_13 : decode cL_insert 13 = .ok (.astore 4, 2) := by decide +kernel
theorem dL_insert_15 : decode cL_insert 15 = .ok (.iconst 1, 1) := by decide +kernel
theorem dL_insert_16 : decode cL_insert 16 = .ok (.ireturn, 1) := by decide +kernel
theorem dL_insert_17 : decode cL_insert 17 = .ok (.astore 4, 2) := by decide +kernel
theorem dL_insert_19 : decode cL_insert 19 = .ok (.iconst 2, 1) := by decide +kernel
theorem dL_insert_20 : decode cL_insert 20 = .ok (.ireturn, 1) := by decide +kernel
theorem dL_insert_21 : decode cL_insert 21 = .ok (.iconst 0, 1) := by decide +kernel
theorem dL_insert_22 : decode cL_insert 22 = .ok (.ireturn, 1) := by decide +kernel
theorem dL_delete_0 : decode cL_delete 0 = .ok (.aload 4, 2) := by decide +kernel
theorem dL_delete_2 : decode cL_delete 2 = .ok (.iconst 0, 1) := by decide +kernel
theorem dL_delete_3 : decode cL_delete 3 = .ok (.aload_n 0, 1) := by decide +kernel
theorem dL_delete_4 : decode cL_delete 4 = .ok (.iload_n 1, 1) := by decide +kernel
theorem dL_delete_5 : decode cL_delete 5 = .ok (.iload_n 2, 1) := by decide +kernel
theorem dL_delete_6 : decode cL_delete 6 = .ok (.iload_n 3, 1) := by decide +kernel
theorem dL_delete_7 : decode cL_delete 7 = .ok (.invokevirtual 88, 3) := by decide +kernel
theorem dL_delete_10 : decode cL_delete 10 = .ok (.i2l, 1) := by decide +kernel
theorem dL_delete_11 : decode cL_delete 11 = .ok (.lastore, 1) := by decide +kernel
theorem dL_delete_12 : decode cL_delete 12 = .ok (.goto 11, 3) := by decide +kernel
theorem dL_delete_15 : decode cL_delete 15 = .ok (.astore 5, 2) := by decide +kernel
theorem dL_delete_17 : decode cL_delete 17 = .ok (.iconst 1, 1) := by decide +kernel
theorem dL_delete_18 : decode cL_delete 18 = .ok (.ireturn, 1) := by decide +kernel
theorem dL_delete_19 : decode cL_delete 19 = .ok (.astore 5, 2) := by decide +kernel
theorem dL_delete_21 : decode cL_delete 21 = .ok (.iconst 2, 1) := by decide +kernel
theorem dL_delete_22 : decode cL_delete 22 = .ok (.ireturn, 1) := by decide +kernel
theorem dL_delete_23 : decode cL_delete 23 = .ok (.iconst 0, 1) := by decide +kernel
theorem dL_delete_24 : decode cL_delete 24 = .ok (.ireturn, 1) := by decide +kernel
theorem dL_split_0 : decode cL_split 0 = .ok (.aload_n 3, 1) := by decide +kernel
theorem dL_split_1 : decode cL_split 1 = .ok (.iconst 0, 1) := by decide +kernel
theorem dL_split_2 : decode cL_split 2 = .ok (.aload_n 0, 1) := by decide +kernel
theorem dL_split_3 : decode cL_split 3 = .ok (.iload_n 1, 1) := by decide +kernel
theorem dL_split_4 : decode cL_split 4 = .ok (.iload_n 2, 1) := by decide +kernel
theorem dL_split_5 : decode cL_split 5 = .ok (.invokevirtual 91, 3) := by decide +kernel
theorem dL_split_8 : decode cL_split 8 = .ok (.i2l, 1) := by decide +kernel
theorem dL_split_9 : decode cL_split 9 = .ok (.lastore, 1) := by decide +kernel
theorem dL_split_10 : decode cL_split 10 = .ok (.goto 11, 3) := by decide +kernel
theorem dL_split_13 : decode cL_split 13 = .ok (.astore 4, 2) := by decide +kernel
theorem dL_split_15 : decode cL_split 15 = .ok (.iconst 1, 1) := by decide +kernel
theorem dL_split_16 : decode cL_split 16 = .ok (.ireturn, 1) := by decide +kernel
theorem dL_split_17 : decode cL_split 17 = .ok (.astore 4, 2) := by decide +kernel
theorem dL_split_19 : decode cL_split 19 = .ok (.iconst 2, 1) := by decide +kernel
theorem dL_split_20 : decode cL_split 20 = .ok (.ireturn, 1) := by decide +kernel
theorem dL_split_21 : decode cL_split 21 = .ok (.iconst 0, 1) := by decide +kernel
theorem dL_split_22 : decode cL_split 22 = .ok (.ireturn, 1) := by decide +kernel
theorem dL_join_0 : decode cL_join 0 = .ok (.aload_n 2, 1) := by decide +kernel
theorem dL_join_1 : decode cL_join 1 = .ok (.iconst 0, 1) := by decide +kernel
theorem dL_join_2 : decode cL_join 2 = .ok (.aload_n 0, 1) := by decide +kernel
theorem dL_join_3 : decode cL_join 3 = .ok (.iload_n 1, 1) := by decide +kernel
theorem dL_join_4 : decode cL_join 4 = .ok (.invokevirtual 94, 3) := by decide +kernel
theorem dL_join_7 : decode cL_join 7 = .ok (.i2l, 1) := by decide +kernel
theorem dL_join_8 : decode cL_join 8 = .ok (.lastore, 1) := by decide +kernel
theorem dL_join_9 : decode cL_join 9 = .ok (.goto 9, 3) := by decide +kernel
theorem dL_join_12 : decode cL_join 12 = .ok (.astore_n 3, 1) := by decide +kernel
theorem dL_join_13 : decode cL_join 13 = .ok (.iconst 1, 1) := by decide +kernel
theorem dL_join_14 : decode cL_join 14 = .ok (.ireturn, 1) := by decide +kernel
theorem dL_join_15 : decode cL_join 15 = .ok (.astore_n 3, 1) := by decide +kernel
theorem dL_join_16 : decode cL_join 16 = .ok (.iconst 2, 1) := by decide +kernel
theorem dL_join_17 : decode cL_join 17 = .ok (.ireturn, 1) := by decide +kernel
theorem dL_join_18 : decode cL_join 18 = .ok (.iconst 0, 1) := by decide +kernel
theorem dL_join_19 : decode cL_join 19 = .ok (.ireturn, 1) := by decide +kernel
theorem dL_undo_0 : decode cL_undo 0 = .ok (.aload_n 1, 1) := by decide +kernel
theorem dL_undo_1 : decode cL_undo 1 = .ok (.iconst 0, 1) := by decide +kernel
theorem dL_undo_2 : decode cL_undo 2 = .ok (.aload_n 0, 1) := by decide +kernel
theorem dL_undo_3 : decode cL_undo 3 = .ok (.invokevirtual 97, 3) := by decide +kernel
theorem dL_undo_6 : decode cL_undo 6 = .ok (.i2l, 1) := by decide +kernel
theorem dL_undo_7 : decode cL_undo 7 = .ok (.lastore, 1) := by decide +kernel
theorem dL_undo_8 : decode cL_undo 8 = .ok (.goto 6, 3) := by decide +kernel
theorem dL_undo_11 : decode cL_undo 11 = .ok (.astore_n 2, 1) := by decide +kernel
theorem dL_undo_12 : decode cL_undo 12 = .ok (.iconst 1, 1) := by decide +kernel
theorem dL_undo_13 : decode cL_undo 13 = .ok (.ireturn, 1) := by decide +kernel
theorem dL_undo_14 : decode cL_undo 14 = .ok (.iconst 0, 1) := by decide +kernel
theorem dL_undo_15 : decode cL_undo 15 = .ok (.ireturn, 1) := by decide +kernel
theorem dL_ifSize_0 : decode cL_ifSize 0 = .ok (.aload 4, 2) := by decide +kernel
theorem dL_ifSize_2 : decode cL_ifSize 2 = .ok (.iconst 0, 1) := by decide +kernel
theorem dL_ifSize_3 : decode cL_ifSize 3 = .ok (.aload_n 0, 1) := by decide +kernel
theorem dL_ifSize_4 : decode cL_ifSize 4 = .ok (.iload_n 1, 1) := by decide +kernel
theorem dL_ifSize_5 : decode cL_ifSize 5 = .ok (.iload_n 2, 1) := by decide +kernel
theorem dL_ifSize_6 : decode cL_ifSize 6 = .ok (.iload_n 3, 1) := by decide +kernel
theorem dL_ifSize_7 : decode cL_ifSize 7 = .ok (.invokevirtual 100, 3) := by decide +kernel
theorem dL_ifSize_10 : decode cL_ifSize 10 = .ok (.i2l, 1) := by decide +kernel
theorem dL_ifSize_11 : decode cL_ifSize 11 = .ok (.lastore, 1) := by decide +kernel
theorem dL_ifSize_12 : decode cL_ifSize 12 = .ok (.goto 7, 3) := by decide +kernel
theorem dL_ifSize_15 : decode cL_ifSize 15 = .ok (.astore 5, 2) := by decide +kernel
theorem dL_ifSize_17 : decode cL_ifSize 17 = .ok (.iconst 1, 1) := by decide +kernel
theorem dL_ifSize_18 : decode cL_ifSize 18 = .ok (.ireturn, 1) := by decide +kernel
theorem dL_ifSize_19 : decode cL_ifSize 19 = .ok (.iconst 0, 1) := by decide +kernel
theorem dL_ifSize_20 : decode cL_ifSize 20 = .ok (.ireturn, 1) := by decide +kernel
theorem dL_fit_0 : decode cL_fit 0 = .ok (.aload_n 2, 1) := by decide +kernel
theorem dL_fit_1 : decode cL_fit 1 = .ok (.iconst 0, 1) := by decide +kernel
theorem dL_fit_2 : decode cL_fit 2 = .ok (.aload_n 0, 1) := by decide +kernel
theorem dL_fit_3 : decode cL_fit 3 = .ok (.iload_n 1, 1) := by decide +kernel
theorem dL_fit_4 : decode cL_fit 4 = .ok (.invokevirtual 103, 3) := by decide +kernel
theorem dL_fit_7 : decode cL_fit 7 = .ok (.i2l, 1) := by decide +kernel
theorem dL_fit_8 : decode cL_fit 8 = .ok (.lastore, 1) := by decide +kernel
theorem dL_fit_9 : decode cL_fit 9 = .ok (.goto 6, 3) := by decide +kernel
theorem dL_fit_12 : decode cL_fit 12 = .ok (.astore_n 3, 1) := by decide +kernel
theorem dL_fit_13 : decode cL_fit 13 = .ok (.iconst 1, 1) := by decide +kernel
theorem dL_fit_14 : decode cL_fit 14 = .ok (.ireturn, 1) := by decide +kernel
theorem dL_fit_15 : decode cL_fit 15 = .ok (.iconst 0, 1) := by decide +kernel
theorem dL_fit_16 : decode cL_fit 16 = .ok (.ireturn, 1) := by decide +kernel
