theorem dX12_putsBack_0 : decode cX12_putsBack 0 = .ok (.iconst 0, 1) := by decide +kernel
theorem dX12_putsBack_1 : decode cX12_putsBack 1 = .ok (.istore_n 1, 1) := by decide +kernel
theorem dX12_putsBack_2 : decode cX12_putsBack 2 = .ok (.iload_n 1, 1) := by decide +kernel
theorem dX12_putsBack_3 : decode cX12_putsBack 3 = .ok (.sipush 256, 3) := by decide +kernel
theorem dX12_putsBack_6 : decode cX12_putsBack 6 = .ok (.if_icmp .ge 99, 3) := by decide +kernel
theorem dX12_putsBack_9 : decode cX12_putsBack 9 = .ok (.aload_n 0, 1) := by decide +kernel
theorem dX12_putsBack_10 : decode cX12_putsBack 10 = .ok (.getfield 17, 3) := by decide +kernel
theorem dX12_putsBack_13 : decode cX12_putsBack 13 = .ok (.iload_n 1, 1) := by decide +kernel
theorem dX12_putsBack_14 : decode cX12_putsBack 14 = .ok (.aload_n 0, 1) := by decide +kernel
theorem dX12_putsBack_15 : decode cX12_putsBack 15 = .ok (.getfield 122, 3) := by decide +kernel
theorem dX12_putsBack_18 : decode cX12_putsBack 18 = .ok (.iload_n 1, 1) := by decide +kernel
theorem dX12_putsBack_19 : decode cX12_putsBack 19 = .ok (.baload, 1) := by decide +kernel
theorem dX12_putsBack_20 : decode cX12_putsBack 20 = .ok (.bastore, 1) := by decide +kernel
theorem dX12_putsBack_21 : decode cX12_putsBack 21 = .ok (.aload_n 0, 1) := by decide +kernel
theorem dX12_putsBack_22 : decode cX12_putsBack 22 = .ok (.getfield 20, 3) := by decide +kernel
theorem dX12_putsBack_25 : decode cX12_putsBack 25 = .ok (.iload_n 1, 1) := by decide +kernel
theorem dX12_putsBack_26 : decode cX12_putsBack 26 = .ok (.aload_n 0, 1) := by decide +kernel
theorem dX12_putsBack_27 : decode cX12_putsBack 27 = .ok (.getfield 125, 3) := by decide +kernel
theorem dX12_putsBack_30 : decode cX12_putsBack 30 = .ok (.iconst 5, 1) := by decide +kernel
theorem dX12_putsBack_31 : decode cX12_putsBack 31 = .ok (.iload_n 1, 1) := by decide +kernel
theorem dX12_putsBack_32 : decode cX12_putsBack 32 = .ok (.imul, 1) := by decide +kernel
theorem dX12_putsBack_33 : decode cX12_putsBack 33 = .ok (.iaload, 1) := by decide +kernel
theorem dX12_putsBack_34 : decode cX12_putsBack 34 = .ok (.iastore, 1) := by decide +kernel
theorem dX12_putsBack_35 : decode cX12_putsBack 35 = .ok (.aload_n 0, 1) := by decide +kernel
theorem dX12_putsBack_36 : decode cX12_putsBack 36 = .ok (.getfield 23, 3) := by decide +kernel
theorem dX12_putsBack_39 : decode cX12_putsBack 39 = .ok (.iload_n 1, 1) := by decide +kernel
theorem dX12_putsBack_40 : decode cX12_putsBack 40 = .ok (.aload_n 0, 1) := by decide +kernel
theorem dX12_putsBack_41 : decode cX12_putsBack 41 = .ok (.getfield 125, 3) := by decide +kernel
theorem dX12_putsBack_44 : decode cX12_putsBack 44 = .ok (.iconst 5, 1) := by decide +kernel
theorem dX12_putsBack_45 : decode cX12_putsBack 45 = .ok (.iload_n 1, 1) := by decide +kernel
theorem dX12_putsBack_46 : decode cX12_putsBack 46 = .ok (.imul, 1) := by decide +kernel
theorem dX12_putsBack_47 : decode cX12_putsBack 47 = .ok (.iconst 1, 1) := by decide +kernel
theorem dX12_putsBack_48 : decode cX12_putsBack 48 = .ok (.iadd, 1) := by decide +kernel
theorem dX12_putsBack_49 : decode cX12_putsBack 49 = .ok (.iaload, 1) := by decide +kernel
theorem dX12_putsBack_50 : decode cX12_putsBack 50 = .ok (.iastore, 1) := by decide +kernel
theorem dX12_putsBack_51 : decode cX12_putsBack 51 = .ok (.aload_n 0, 1) := by decide +kernel
theorem dX12_putsBack_52 : decode cX12_putsBack 52 = .ok (.getfield 32, 3) := by decide +kernel
theorem dX12_putsBack_55 : decode cX12_putsBack 55 = .ok (.iload_n 1, 1) := by decide +kernel
theorem dX12_putsBack_56 : decode cX12_putsBack 56 = .ok (.aload_n 0, 1) := by decide +kernel
theorem dX12_putsBack_57 : decode cX12_putsBack 57 = .ok (.getfield 125, 3) := by decide +kernel
theorem dX12_putsBack_60 : decode cX12_putsBack 60 = .ok (.iconst 5, 1) := by decide +kernel
theorem dX12_putsBack_61 : decode cX12_putsBack 61 = .ok (.iload_n 1, 1) := by decide +kernel
theorem dX12_putsBack_62 : decode cX12_putsBack 62 = .ok (.imul, 1) := by decide +kernel
theorem dX12_putsBack_63 : decode cX12_putsBack 63 = .ok (.iconst 2, 1) := by decide +kernel
theorem dX12_putsBack_64 : decode cX12_putsBack 64 = .ok (.iadd, 1) := by decide +kernel
theorem dX12_putsBack_65 : decode cX12_putsBack 65 = .ok (.iaload, 1) := by decide +kernel
theorem dX12_putsBack_66 : decode cX12_putsBack 66 = .ok (.iastore, 1) := by decide +kernel
theorem dX12_putsBack_67 : decode cX12_putsBack 67 = .ok (.aload_n 0, 1) := by decide +kernel
theorem dX12_putsBack_68 : decode cX12_putsBack 68 = .ok (.getfield 35, 3) := by decide +kernel
theorem dX12_putsBack_71 : decode cX12_putsBack 71 = .ok (.iload_n 1, 1) := by decide +kernel
theorem dX12_putsBack_72 : decode cX12_putsBack 72 = .ok (.aload_n 0, 1) := by decide +kernel
theorem dX12_putsBack_73 : decode cX12_putsBack 73 = .ok (.getfield 125, 3) := by decide +kernel
theorem dX12_putsBack_76 : decode cX12_putsBack 76 = .ok (.iconst 5, 1) := by decide +kernel
theorem dX12_putsBack_77 : decode cX12_putsBack 77 = .ok (.iload_n 1, 1) := by decide +kernel
theorem dX12_putsBack_78 : decode cX12_putsBack 78 = .ok (.imul, 1) := by decide +kernel
theorem dX12_putsBack_79 : decode cX12_putsBack 79 = .ok (.iconst 3, 1) := by decide +kernel
theorem dX12_putsBack_80 : decode cX12_putsBack 80 = .ok (.iadd, 1) := by decide +kernel
theorem dX12_putsBack_81 : decode cX12_putsBack 81 = .ok (.iaload, 1) := by decide +kernel
theorem dX12_putsBack_82 : decode cX12_putsBack 82 = .ok (.iastore, 1) := by decide +kernel
theorem dX12_putsBack_83 : decode cX12_putsBack 83 = .ok (.aload_n 0, 1) := by decide +kernel
theorem dX12_putsBack_84 : decode cX12_putsBack 84 = .ok (.getfield 38, 3) := by decide +kernel
theorem dX12_putsBack_87 : decode cX12_putsBack 87 = .ok (.iload_n 1, 1) := by decide +kernel
theorem dX12_putsBack_88 : decode cX12_putsBack 88 = .ok (.aload_n 0, 1) := by decide +kernel
theorem dX12_putsBack_89 : decode cX12_putsBack 89 = .ok (.getfield 125, 3) := by decide +kernel
theorem dX12_putsBack_92 : decode cX12_putsBack 92 = .ok (.iconst 5, 1) := by decide +kernel
theorem dX12_putsBack_93 : decode cX12_putsBack 93 = .ok (.iload_n 1, 1) := by decide +kernel
theorem dX12_putsBack_94 : decode cX12_putsBack 94 = .ok (.imul, 1) := by decide +kernel
theorem dX12_putsBack_95 : decode cX12_putsBack 95 = .ok (.iconst 4, 1) := by decide +kernel
theorem dX12_putsBack_96 : decode cX12_putsBack 96 = .ok (.iadd, 1) := by decide +kernel
theorem dX12_putsBack_97 : decode cX12_putsBack 97 = .ok (.iaload, 1) := by decide +kernel
theorem dX12_putsBack_98 : decode cX12_putsBack 98 = .ok (.iastore, 1) := by decide +kernel
theorem dX12_putsBack_99 : decode cX12_putsBack 99 = .ok (.iinc 1 1, 3) := by decide +kernel
theorem dX12_putsBack_102 : decode cX12_putsBack 102 = .ok (.goto (-100), 3) := by decide +kernel
theorem dX12_putsBack_105 : decode cX12_putsBack 105 = .ok (.iconst 0, 1) := by decide +kernel
theorem dX12_putsBack_106 : decode cX12_putsBack 106 = .ok (.istore_n 1, 1) := by decide +kernel
theorem dX12_putsBack_107 : decode cX12_putsBack 107 = .ok (.iload_n 1, 1) := by decide +kernel
theorem dX12_putsBack_108 : decode cX12_putsBack 108 = .ok (.sipush 3584, 3) := by decide +kernel
theorem dX12_putsBack_111 : decode cX12_putsBack 111 = .ok (.if_icmp .ge 33, 3) := by decide +kernel
theorem dX12_putsBack_114 : decode cX12_putsBack 114 = .ok (.aload_n 0, 1) := by decide +kernel
theorem dX12_putsBack_115 : decode cX12_putsBack 115 = .ok (.getfield 26, 3) := by decide +kernel
theorem dX12_putsBack_118 : decode cX12_putsBack 118 = .ok (.iload_n 1, 1) := by decide +kernel
theorem dX12_putsBack_119 : decode cX12_putsBack 119 = .ok (.aload_n 0, 1) := by decide +kernel
theorem dX12_putsBack_120 : decode cX12_putsBack 120 = .ok (.getfield 128, 3) := by decide +kernel
theorem dX12_putsBack_123 : decode cX12_putsBack 123 = .ok (.iload_n 1, 1) := by decide +kernel
theorem dX12_putsBack_124 : decode cX12_putsBack 124 = .ok (.iaload, 1) := by decide +kernel
theorem dX12_putsBack_125 : decode cX12_putsBack 125 = .ok (.iastore, 1) := by decide +kernel
theorem dX12_putsBack_126 : decode cX12_putsBack 126 = .ok (.aload_n 0, 1) := by decide +kernel
theorem dX12_putsBack_127 : decode cX12_putsBack 127 = .ok (.getfield 29, 3) := by decide +kernel
theorem dX12_putsBack_130 : decode cX12_putsBack 130 = .ok (.iload_n 1, 1) := by decide +kernel
theorem dX12_putsBack_131 : decode cX12_putsBack 131 = .ok (.aload_n 0, 1) := by decide +kernel
theorem dX12_putsBack_132 : decode cX12_putsBack 132 = .ok (.getfield 131, 3) := by decide +kernel
theorem dX12_putsBack_135 : decode cX12_putsBack 135 = .ok (.iload_n 1, 1) := by decide +kernel
theorem dX12_putsBack_136 : decode cX12_putsBack 136 = .ok (.iaload, 1) := by decide +kernel
theorem dX12_putsBack_137 : decode cX12_putsBack 137 = .ok (.iastore, 1) := by decide +kernel
theorem dX12_putsBack_138 : decode cX12_putsBack 138 = .ok (.iinc 1 1, 3) := by decide +kernel
theorem dX12_putsBack_141 : decode cX12_putsBack 141 = .ok (.goto (-34), 3) := by decide +kernel
theorem dX12_putsBack_144 : decode cX12_putsBack 144 = .ok (.iconst 0, 1) := by decide +kernel
theorem dX12_putsBack_145 : decode cX12_putsBack 145 = .ok (.istore_n 1, 1) := by decide +kernel
theorem dX12_putsBack_146 : decode cX12_putsBack 146 = .ok (.iload_n 1, 1) := by decide +kernel
theorem dX12_putsBack_147 : decode cX12_putsBack 147 = .ok (.iconst 4, 1) := by decide +kernel
theorem dX12_putsBack_148 : decode cX12_putsBack 148 = .ok (.if_icmp .ge 127, 3) := by decide +kernel
theorem dX12_putsBack_151 : decode cX12_putsBack 151 = .ok (.aload_n 0, 1) := by decide +kernel
theorem dX12_putsBack_152 : decode cX12_putsBack 152 = .ok (.getfield 44, 3) := by decide +kernel
theorem dX12_putsBack_155 : decode cX12_putsBack 155 = .ok (.iload_n 1, 1) := by decide +kernel
theorem dX12_putsBack_156 : decode cX12_putsBack 156 = .ok (.aload_n 0, 1) := by decide +kernel
theorem dX12_putsBack_157 : decode cX12_putsBack 157 = .ok (.getfield 134, 3) := by decide +kernel
theorem dX12_putsBack_160 : decode cX12_putsBack 160 = .ok (.bipush 8, 2) := by decide +kernel
theorem dX12_putsBack_162 : decode cX12_putsBack 162 = .ok (.iload_n 1, 1) := by decide +kernel
theorem dX12_putsBack_163 : decode cX12_putsBack 163 = .ok (.imul, 1) := by decide +kernel
theorem dX12_putsBack_164 : decode cX12_putsBack 164 = .ok (.iaload, 1) := by decide +kernel
theorem dX12_putsBack_165 : decode cX12_putsBack 165 = .ok (.iastore, 1) := by decide +kernel
theorem dX12_putsBack_166 : decode cX12_putsBack 166 = .ok (.aload_n 0, 1) := by decide +kernel
theorem dX12_putsBack_167 : decode cX12_putsBack 167 = .ok (.getfield 47, 3) := by decide +kernel
theorem dX12_putsBack_170 : decode cX12_putsBack 170 = .ok (.iload_n 1, 1) := by decide +kernel
theorem dX12_putsBack_171 : decode cX12_putsBack 171 = .ok (.aload_n 0, 1) := by decide +kernel
theorem dX12_putsBack_172 : decode cX12_putsBack 172 = .ok (.getfield 134, 3) := by decide +kernel
theorem dX12_putsBack_175 : decode cX12_putsBack 175 = .ok (.bipush 8, 2) := by decide +kernel
theorem dX12_putsBack_177 : decode cX12_putsBack 177 = .ok (.iload_n 1, 1) := by decide +kernel
theorem dX12_putsBack_178 : decode cX12_putsBack 178 = .ok (.imul, 1) := by decide +kernel
theorem dX12_putsBack_179 : decode cX12_putsBack 179 = .ok (.iconst 1, 1) := by decide +kernel
theorem dX12_putsBack_180 : decode cX12_putsBack 180 = .ok (.iadd, 1) := by decide +kernel
theorem dX12_putsBack_181 : decode cX12_putsBack 181 = .ok (.iaload, 1) := by decide +kernel
theorem dX12_putsBack_182 : decode cX12_putsBack 182 = .ok (.iastore, 1) := by decide +kernel
theorem dX12_putsBack_183 : decode cX12_putsBack 183 = .ok (.aload_n 0, 1) := by decide +kernel
theorem dX12_putsBack_184 : decode cX12_putsBack 184 = .ok (.getfield 53, 3) := by decide +kernel
theorem dX12_putsBack_187 : decode cX12_putsBack 187 = .ok (.iload_n 1, 1) := by decide +kernel
theorem dX12_putsBack_188 : decode cX12_putsBack 188 = .ok (.aload_n 0, 1) := by decide +kernel
theorem dX12_putsBack_189 : decode cX12_putsBack 189 = .ok (.getfield 134, 3) := by decide +kernel
theorem dX12_putsBack_192 : decode cX12_putsBack 192 = .ok (.bipush 8, 2) := by decide +kernel
theorem dX12_putsBack_194 : decode cX12_putsBack 194 = .ok (.iload_n 1, 1) := by decide +kernel
theorem dX12_putsBack_195 : decode cX12_putsBack 195 = .ok (.imul, 1) := by decide +kernel
theorem dX12_putsBack_196 : decode cX12_putsBack 196 = .ok (.iconst 2, 1) := by decide +kernel
theorem dX12_putsBack_197 : decode cX12_putsBack 197 = .ok (.iadd, 1) := by decide +kernel
theorem dX12_putsBack_198 : decode cX12_putsBack 198 = .ok (.iaload, 1) := by decide +kernel
theorem dX12_putsBack_199 : decode cX12_putsBack 199 = .ok (.iastore, 1) := by decide +kernel
theorem dX12_putsBack_200 : decode cX12_putsBack 200 = .ok (.aload_n 0, 1) := by decide +kernel
theorem dX12_putsBack_201 : decode cX12_putsBack 201 = .ok (.getfield 56, 3) := by decide +kernel
theorem dX12_putsBack_204 : decode cX12_putsBack 204 = .ok (.iload_n 1, 1) := by decide +kernel
theorem dX12_putsBack_205 : decode cX12_putsBack 205 = .ok (.aload_n 0, 1) := by decide +kernel
theorem dX12_putsBack_206 : decode cX12_putsBack 206 = .ok (.getfield 134, 3) := by decide +kernel
theorem dX12_putsBack_209 : decode cX12_putsBack 209 = .ok (.bipush 8, 2) := by decide +kernel
theorem dX12_putsBack_211 : decode cX12_putsBack 211 = .ok (.iload_n 1, 1) := by decide +kernel
theorem dX12_putsBack_212 : decode cX12_putsBack 212 = .ok (.imul, 1) := by decide +kernel
theorem dX12_putsBack_213 : decode cX12_putsBack 213 = .ok (.iconst 3, 1) := by decide +kernel
theorem dX12_putsBack_214 : decode cX12_putsBack 214 = .ok (.iadd, 1) := by decide +kernel
theorem dX12_putsBack_215 : decode cX12_putsBack 215 = .ok (.iaload, 1) := by decide +kernel
theorem dX12_putsBack_216 : decode cX12_putsBack 216 = .ok (.iastore, 1) := by decide +kernel
theorem dX12_putsBack_217 : decode cX12_putsBack 217 = .ok (.aload_n 0, 1) := by decide +kernel
theorem dX12_putsBack_218 : decode cX12_putsBack 218 = .ok (.getfield 62, 3) := by decide +kernel
theorem dX12_putsBack_221 : decode cX12_putsBack 221 = .ok (.iload_n 1, 1) := by decide +kernel
theorem dX12_putsBack_222 : decode cX12_putsBack 222 = .ok (.aload_n 0, 1) := by decide +kernel
theorem dX12_putsBack_223 : decode cX12_putsBack 223 = .ok (.getfield 134, 3) := by decide +kernel
theorem dX12_putsBack_226 : decode cX12_putsBack 226 = .ok (.bipush 8, 2) := by decide +kernel
theorem dX12_putsBack_228 : decode cX12_putsBack 228 = .ok (.iload_n 1, 1) := by decide +kernel
theorem dX12_putsBack_229 : decode cX12_putsBack 229 = .ok (.imul, 1) := by decide +kernel
theorem dX12_putsBack_230 : decode cX12_putsBack 230 = .ok (.iconst 4, 1) := by decide +kernel
theorem dX12_putsBack_231 : decode cX12_putsBack 231 = .ok (.iadd, 1) := by decide +kernel
theorem dX12_putsBack_232 : decode cX12_putsBack 232 = .ok (.iaload, 1) := by decide +kernel
theorem dX12_putsBack_233 : decode cX12_putsBack 233 = .ok (.iastore, 1) := by decide +kernel
theorem dX12_putsBack_234 : decode cX12_putsBack 234 = .ok (.aload_n 0, 1) := by decide +kernel
theorem dX12_putsBack_235 : decode cX12_putsBack 235 = .ok (.getfield 71, 3) := by decide +kernel
theorem dX12_putsBack_238 : decode cX12_putsBack 238 = .ok (.iload_n 1, 1) := by decide +kernel
theorem dX12_putsBack_239 : decode cX12_putsBack 239 = .ok (.aload_n 0, 1) := by decide +kernel
theorem dX12_putsBack_240 : decode cX12_putsBack 240 = .ok (.getfield 134, 3) := by decide +kernel
theorem dX12_putsBack_243 : decode cX12_putsBack 243 = .ok (.bipush 8, 2) := by decide +kernel
theorem dX12_putsBack_245 : decode cX12_putsBack 245 = .ok (.iload_n 1, 1) := by decide +kernel
theorem dX12_putsBack_246 : decode cX12_putsBack 246 = .ok (.imul, 1) := by decide +kernel
theorem dX12_putsBack_247 : decode cX12_putsBack 247 = .ok (.iconst 5, 1) := by decide +kernel
theorem dX12_putsBack_248 : decode cX12_putsBack 248 = .ok (.iadd, 1) := by decide +kernel
theorem dX12_putsBack_249 : decode cX12_putsBack 249 = .ok (.iaload, 1) := by decide +kernel
theorem dX12_putsBack_250 : decode cX12_putsBack 250 = .ok (.iastore, 1) := by decide +kernel
theorem dX12_putsBack_251 : decode cX12_putsBack 251 = .ok (.aload_n 0, 1) := by decide +kernel
theorem dX12_putsBack_252 : decode cX12_putsBack 252 = .ok (.getfield 74, 3) := by decide +kernel
theorem dX12_putsBack_255 : decode cX12_putsBack 255 = .ok (.iload_n 1, 1) := by decide +kernel
theorem dX12_putsBack_256 : decode cX12_putsBack 256 = .ok (.aload_n 0, 1) := by decide +kernel
theorem dX12_putsBack_257 : decode cX12_putsBack 257 = .ok (.getfield 134, 3) := by decide +kernel
theorem dX12_putsBack_260 : decode cX12_putsBack 260 = .ok (.bipush 8, 2) := by decide +kernel
theorem dX12_putsBack_262 : decode cX12_putsBack 262 = .ok (.iload_n 1, 1) := by decide +kernel
theorem dX12_putsBack_263 : decode cX12_putsBack 263 = .ok (.imul, 1) := by decide +kernel
theorem dX12_putsBack_264 : decode cX12_putsBack 264 = .ok (.bipush 6, 2) := by decide +kernel
theorem dX12_putsBack_266 : decode cX12_putsBack 266 = .ok (.iadd, 1) := by decide +kernel
theorem dX12_putsBack_267 : decode cX12_putsBack 267 = .ok (.iaload, 1) := by decide +kernel
theorem dX12_putsBack_268 : decode cX12_putsBack 268 = .ok (.iastore, 1) := by decide +kernel
theorem dX12_putsBack_269 : decode cX12_putsBack 269 = .ok (.iinc 1 1, 3) := by decide +kernel
theorem dX12_putsBack_272 : decode cX12_putsBack 272 = .ok (.goto (-126), 3) := by decide +kernel
theorem dX12_putsBack_275 : decode cX12_putsBack 275 = .ok (.iconst 0, 1) := by decide +kernel
theorem dX12_putsBack_276 : decode cX12_putsBack 276 = .ok (.istore_n 1, 1) := by decide +kernel
theorem dX12_putsBack_277 : decode cX12_putsBack 277 = .ok (.iload_n 1, 1) := by decide +kernel
theorem dX12_putsBack_278 : decode cX12_putsBack 278 = .ok (.sipush 256, 3) := by decide +kernel
theorem dX12_putsBack_281 : decode cX12_putsBack 281 = .ok (.if_icmp .ge 21, 3) := by decide +kernel
theorem dX12_putsBack_284 : decode cX12_putsBack 284 = .ok (.aload_n 0, 1) := by decide +kernel
theorem dX12_putsBack_285 : decode cX12_putsBack 285 = .ok (.getfield 59, 3) := by decide +kernel
theorem dX12_putsBack_288 : decode cX12_putsBack 288 = .ok (.iload_n 1, 1) := by decide +kernel
theorem dX12_putsBack_289 : decode cX12_putsBack 289 = .ok (.aload_n 0, 1) := by decide +kernel
theorem dX12_putsBack_290 : decode cX12_putsBack 290 = .ok (.getfield 137, 3) := by decide +kernel
theorem dX12_putsBack_293 : decode cX12_putsBack 293 = .ok (.iload_n 1, 1) := by decide +kernel
theorem dX12_putsBack_294 : decode cX12_putsBack 294 = .ok (.iaload, 1) := by decide +kernel
theorem dX12_putsBack_295 : decode cX12_putsBack 295 = .ok (.iastore, 1) := by decide +kernel
theorem dX12_putsBack_296 : decode cX12_putsBack 296 = .ok (.iinc 1 1, 3) := by decide +kernel
theorem dX12_putsBack_299 : decode cX12_putsBack 299 = .ok (.goto (-22), 3) := by decide +kernel
theorem dX12_putsBack_302 : decode cX12_putsBack 302 = .ok (.iconst 0, 1) := by decide +kernel
theorem dX12_putsBack_303 : decode cX12_putsBack 303 = .ok (.istore_n 1, 1) := by decide +kernel
theorem dX12_putsBack_304 : decode cX12_putsBack 304 = .ok (.iload_n 1, 1) := by decide +kernel
theorem dX12_putsBack_305 : decode cX12_putsBack 305 = .ok (.bipush 56, 2) := by decide +kernel
theorem dX12_putsBack_307 : decode cX12_putsBack 307 = .ok (.if_icmp .ge 33, 3) := by decide +kernel
theorem dX12_putsBack_310 : decode cX12_putsBack 310 = .ok (.aload_n 0, 1) := by decide +kernel
theorem dX12_putsBack_311 : decode cX12_putsBack 311 = .ok (.getfield 65, 3) := by decide +kernel
theorem dX12_putsBack_314 : decode cX12_putsBack 314 = .ok (.iload_n 1, 1) := by decide +kernel
theorem dX12_putsBack_315 : decode cX12_putsBack 315 = .ok (.aload_n 0, 1) := by decide +kernel
theorem dX12_putsBack_316 : decode cX12_putsBack 316 = .ok (.getfield 140, 3) := by decide +kernel
theorem dX12_putsBack_319 : decode cX12_putsBack 319 = .ok (.iload_n 1, 1) := by decide +kernel
theorem dX12_putsBack_320 : decode cX12_putsBack 320 = .ok (.iaload, 1) := by decide +kernel
theorem dX12_putsBack_321 : decode cX12_putsBack 321 = .ok (.iastore, 1) := by decide +kernel
theorem dX12_putsBack_322 : decode cX12_putsBack 322 = .ok (.aload_n 0, 1) := by decide +kernel
theorem dX12_putsBack_323 : decode cX12_putsBack 323 = .ok (.getfield 68, 3) := by decide +kernel
theorem dX12_putsBack_326 : decode cX12_putsBack 326 = .ok (.iload_n 1, 1) := by decide +kernel
theorem dX12_putsBack_327 : decode cX12_putsBack 327 = .ok (.aload_n 0, 1) := by decide +kernel
theorem dX12_putsBack_328 : decode cX12_putsBack 328 = .ok (.getfield 143, 3) := by decide +kernel
theorem dX12_putsBack_331 : decode cX12_putsBack 331 = .ok (.iload_n 1, 1) := by decide +kernel
theorem dX12_putsBack_332 : decode cX12_putsBack 332 = .ok (.iaload, 1) := by decide +kernel
theorem dX12_putsBack_333 : decode cX12_putsBack 333 = .ok (.iastore, 1) := by decide +kernel
theorem dX12_putsBack_334 : decode cX12_putsBack 334 = .ok (.iinc 1 1, 3) := by decide +kernel
theorem dX12_putsBack_337 : decode cX12_putsBack 337 = .ok (.goto (-33), 3) := by decide +kernel
theorem dX12_putsBack_340 : decode cX12_putsBack 340 = .ok (.iconst 0, 1) := by decide +kernel
theorem dX12_putsBack_341 : decode cX12_putsBack 341 = .ok (.istore_n 1, 1) := by decide +kernel
theorem dX12_putsBack_342 : decode cX12_putsBack 342 = .ok (.iload_n 1, 1) := by decide +kernel
theorem dX12_putsBack_343 : decode cX12_putsBack 343 = .ok (.aload_n 0, 1) := by decide +kernel
theorem dX12_putsBack_344 : decode cX12_putsBack 344 = .ok (.getfield 175, 3) := by decide +kernel
theorem dX12_putsBack_347 : decode cX12_putsBack 347 = .ok (.if_icmp .ge 55, 3) := by decide +kernel
theorem dX12_putsBack_350 : decode cX12_putsBack 350 = .ok (.aload_n 0, 1) := by decide +kernel
theorem dX12_putsBack_351 : decode cX12_putsBack 351 = .ok (.getfield 83, 3) := by decide +kernel
theorem dX12_putsBack_354 : decode cX12_putsBack 354 = .ok (.iload_n 1, 1) := by decide +kernel
theorem dX12_putsBack_355 : decode cX12_putsBack 355 = .ok (.aload_n 0, 1) := by decide +kernel
theorem dX12_putsBack_356 : decode cX12_putsBack 356 = .ok (.getfield 146, 3) := by decide +kernel
theorem dX12_putsBack_359 : decode cX12_putsBack 359 = .ok (.iconst 3, 1) := by decide +kernel
theorem dX12_putsBack_360 : decode cX12_putsBack 360 = .ok (.iload_n 1, 1) := by decide +kernel
theorem dX12_putsBack_361 : decode cX12_putsBack 361 = .ok (.imul, 1) := by decide +kernel
theorem dX12_putsBack_362 : decode cX12_putsBack 362 = .ok (.iaload, 1) := by decide +kernel
theorem dX12_putsBack_363 : decode cX12_putsBack 363 = .ok (.iastore, 1) := by decide +kernel
theorem dX12_putsBack_364 : decode cX12_putsBack 364 = .ok (.aload_n 0, 1) := by decide +kernel
theorem dX12_putsBack_365 : decode cX12_putsBack 365 = .ok (.getfield 89, 3) := by decide +kernel
theorem dX12_putsBack_368 : decode cX12_putsBack 368 = .ok (.iload_n 1, 1) := by decide +kernel
theorem dX12_putsBack_369 : decode cX12_putsBack 369 = .ok (.aload_n 0, 1) := by decide +kernel
theorem dX12_putsBack_370 : decode cX12_putsBack 370 = .ok (.getfield 146, 3) := by decide +kernel
theorem dX12_putsBack_373 : decode cX12_putsBack 373 = .ok (.iconst 3, 1) := by decide +kernel
theorem dX12_putsBack_374 : decode cX12_putsBack 374 = .ok (.iload_n 1, 1) := by decide +kernel
theorem dX12_putsBack_375 : decode cX12_putsBack 375 = .ok (.imul, 1) := by decide +kernel
theorem dX12_putsBack_376 : decode cX12_putsBack 376 = .ok (.iconst 1, 1) := by decide +kernel
theorem dX12_putsBack_377 : decode cX12_putsBack 377 = .ok (.iadd, 1) := by decide +kernel
theorem dX12_putsBack_378 : decode cX12_putsBack 378 = .ok (.iaload, 1) := by decide +kernel
theorem dX12_putsBack_379 : decode cX12_putsBack 379 = .ok (.iastore, 1) := by decide +kernel
theorem dX12_putsBack_380 : decode cX12_putsBack 380 = .ok (.aload_n 0, 1) := by decide +kernel
theorem dX12_putsBack_381 : decode cX12_putsBack 381 = .ok (.getfield 92, 3) := by decide +kernel
theorem dX12_putsBack_384 : decode cX12_putsBack 384 = .ok (.iload_n 1, 1) := by decide +kernel
theorem dX12_putsBack_385 : decode cX12_putsBack 385 = .ok (.aload_n 0, 1) := by decide +kernel
theorem dX12_putsBack_386 : decode cX12_putsBack 386 = .ok (.getfield 146, 3) := by decide +kernel
theorem dX12_putsBack_389 : decode cX12_putsBack 389 = .ok (.iconst 3, 1) := by decide +kernel
theorem dX12_putsBack_390 : decode cX12_putsBack 390 = .ok (.iload_n 1, 1) := by decide +kernel
theorem dX12_putsBack_391 : decode cX12_putsBack 391 = .ok (.imul, 1) := by decide +kernel
theorem dX12_putsBack_392 : decode cX12_putsBack 392 = .ok (.iconst 2, 1) := by decide +kernel
theorem dX12_putsBack_393 : decode cX12_putsBack 393 = .ok (.iadd, 1) := by decide +kernel
theorem dX12_putsBack_394 : decode cX12_putsBack 394 = .ok (.iaload, 1) := by decide +kernel
theorem dX12_putsBack_395 : decode cX12_putsBack 395 = .ok (.iastore, 1) := by decide +kernel
theorem dX12_putsBack_396 : decode cX12_putsBack 396 = .ok (.iinc 1 1, 3) := by decide +kernel
theorem dX12_putsBack_399 : decode cX12_putsBack 399 = .ok (.goto (-57), 3) := by decide +kernel
theorem dX12_putsBack_402 : decode cX12_putsBack 402 = .ok (.aload_n 0, 1) := by decide +kernel
theorem dX12_putsBack_403 : decode cX12_putsBack 403 = .ok (.aload_n 0, 1) := by decide +kernel
theorem dX12_putsBack_404 : decode cX12_putsBack 404 = .ok (.getfield 298, 3) := by decide +kernel
theorem dX12_putsBack_407 : decode cX12_putsBack 407 = .ok (.putfield 199, 3) := by decide +kernel
theorem dX12_putsBack_410 : decode cX12_putsBack 410 = .ok (.aload_n 0, 1) := by decide +kernel
theorem dX12_putsBack_411 : decode cX12_putsBack 411 = .ok (.aload_n 0, 1) := by decide +kernel
theorem dX12_putsBack_412 : decode cX12_putsBack 412 = .ok (.getfield 301, 3) := by decide +kernel
theorem dX12_putsBack_415 : decode cX12_putsBack 415 = .ok (.putfield 202, 3) := by decide +kernel
theorem dX12_putsBack_418 : decode cX12_putsBack 418 = .ok (.aload_n 0, 1) := by decide +kernel
theorem dX12_putsBack_419 : decode cX12_putsBack 419 = .ok (.aload_n 0, 1) := by decide +kernel
theorem dX12_putsBack_420 : decode cX12_putsBack 420 = .ok (.getfield 304, 3) := by decide +kernel
theorem dX12_putsBack_423 : decode cX12_putsBack 423 = .ok (.putfield 247, 3) := by decide +kernel
theorem dX12_putsBack_426 : decode cX12_putsBack 426 = .ok (.return_, 1) := by decide +kernel
def f_X12_putsBack_p342 (ln : Nat → Nat) : Nat → Int32 → dr_S → Option (Int32 × dr_S)
  | 0, _, _ => none
  | n + 1, x1, s => (if (s.2 1226) ≤ x1 then dr_letS (dr_pf s 1204 (s.2 1255)) (fun s42 => dr_letS (dr_pf s42 1205 (s42.2 1256)) (fun s43 => dr_letS (dr_pf s43 1234 (s43.2 1257)) (fun s44 => some (0, s44)))) else (dr_rd ln s 73 (3 * x1)).bind (fun v45 => (dr_wr ln s 52 x1 v45).bind (fun s46 => (dr_rd ln s46 73 ((3 * x1) + 1)).bind (fun v47 => (dr_wr ln s46 54 x1 v47).bind (fun s48 => (dr_rd ln s48 73 ((3 * x1) + 2)).bind (fun v49 => (dr_wr ln s48 55 x1 v49).bind (fun s50 => dr_let (x1 + 1) (fun y51 => (f_X12_putsBack_p342 ln n y51 s50)))))))))
def f_X12_putsBack_p304 (ln : Nat → Nat) : Nat → Int32 → dr_S → Option (Int32 × dr_S)
  | 0, _, _ => none
  | n + 1, x1, s => (if ((56 : Int32) ≤ x1 : Prop) then (f_X12_putsBack_p342 ln dr_N 0 s) else (dr_rd ln s 71 x1).bind (fun v37 => (dr_wr ln s 46 x1 v37).bind (fun s38 => (dr_rd ln s38 72 x1).bind (fun v39 => (dr_wr ln s38 47 x1 v39).bind (fun s40 => dr_let (x1 + 1) (fun y41 => (f_X12_putsBack_p304 ln n y41 s40)))))))
def f_X12_putsBack_p277 (ln : Nat → Nat) : Nat → Int32 → dr_S → Option (Int32 × dr_S)
  | 0, _, _ => none
  | n + 1, x1, s => (if ((256 : Int32) ≤ x1 : Prop) then (f_X12_putsBack_p304 ln dr_N 0 s) else (dr_rd ln s 70 x1).bind (fun v34 => (dr_wr ln s 44 x1 v34).bind (fun s35 => dr_let (x1 + 1) (fun y36 => (f_X12_putsBack_p277 ln n y36 s35)))))
def f_X12_putsBack_p146 (ln : Nat → Nat) : Nat → Int32 → dr_S → Option (Int32 × dr_S)
  | 0, _, _ => none
  | n + 1, x1, s => (if ((4 : Int32) ≤ x1 : Prop) then (f_X12_putsBack_p277 ln dr_N 0 s) else (dr_rd ln s 69 (8 * x1)).bind (fun v19 => (dr_wr ln s 39 x1 v19).bind (fun s20 => (dr_rd ln s20 69 ((8 * x1) + 1)).bind (fun v21 => (dr_wr ln s20 40 x1 v21).bind (fun s22 => (dr_rd ln s22 69 ((8 * x1) + 2)).bind (fun v23 => (dr_wr ln s22 42 x1 v23).bind (fun s24 => (dr_rd ln s24 69 ((8 * x1) + 3)).bind (fun v25 => (dr_wr ln s24 43 x1 v25).bind (fun s26 => (dr_rd ln s26 69 ((8 * x1) + 4)).bind (fun v27 => (dr_wr ln s26 45 x1 v27).bind (fun s28 => (dr_rd ln s28 69 ((8 * x1) + 5)).bind (fun v29 => (dr_wr ln s28 48 x1 v29).bind (fun s30 => (dr_rd ln s30 69 ((8 * x1) + 6)).bind (fun v31 => (dr_wr ln s30 49 x1 v31).bind (fun s32 => dr_let (x1 + 1) (fun y33 => (f_X12_putsBack_p146 ln n y33 s32)))))))))))))))))
def f_X12_putsBack_p107 (ln : Nat → Nat) : Nat → Int32 → dr_S → Option (Int32 × dr_S)
  | 0, _, _ => none
  | n + 1, x1, s => (if ((3584 : Int32) ≤ x1 : Prop) then (f_X12_putsBack_p146 ln dr_N 0 s) else (dr_rd ln s 67 x1).bind (fun v14 => (dr_wr ln s 33 x1 v14).bind (fun s15 => (dr_rd ln s15 68 x1).bind (fun v16 => (dr_wr ln s15 34 x1 v16).bind (fun s17 => dr_let (x1 + 1) (fun y18 => (f_X12_putsBack_p107 ln n y18 s17)))))))
def f_X12_putsBack_p2 (ln : Nat → Nat) : Nat → Int32 → dr_S → Option (Int32 × dr_S)
  | 0, _, _ => none
  | n + 1, x1, s => (if ((256 : Int32) ≤ x1 : Prop) then (f_X12_putsBack_p107 ln dr_N 0 s) else (dr_rd ln s 65 x1).bind (fun v1 => (dr_wz ln s 30 x1 v1).bind (fun s2 => (dr_rd ln s2 66 (5 * x1)).bind (fun v3 => (dr_wr ln s2 31 x1 v3).bind (fun s4 => (dr_rd ln s4 66 ((5 * x1) + 1)).bind (fun v5 => (dr_wr ln s4 32 x1 v5).bind (fun s6 => (dr_rd ln s6 66 ((5 * x1) + 2)).bind (fun v7 => (dr_wr ln s6 35 x1 v7).bind (fun s8 => (dr_rd ln s8 66 ((5 * x1) + 3)).bind (fun v9 => (dr_wr ln s8 36 x1 v9).bind (fun s10 => (dr_rd ln s10 66 ((5 * x1) + 4)).bind (fun v11 => (dr_wr ln s10 37 x1 v11).bind (fun s12 => dr_let (x1 + 1) (fun y13 => (f_X12_putsBack_p2 ln n y13 s12)))))))))))))))
def f_X12_putsBack (ln : Nat → Nat) (s : dr_S) : Option (Int32 × dr_S) := (f_X12_putsBack_p2 ln dr_N 0 s)
section
variable {p : Program} {l : Launch} {e : Env} {s0 : State} {m : MethodId} {args : Array Value} {below : List Frame} {meth : Method} {c : Code} {A : Nat → Prop} {D : va_G} {cI cZ : ClassId} {ad ln : Nat → Nat} {L : List Nat}
set_option maxHeartbeats 4000000 in
set_option maxRecDepth 20000 in
theorem w_X12_putsBack_p342 (E : dr_E p (dr_rm 0) s0 m args meth c 0 0 A s0.heap D cI cZ ad L cX12_putsBack 2 RX12 none) (hap : dr_ap ad L) (hN : ∀ x ∈ nd_12, x ∈ L) : ∀ (n : Nat) (x1 : Int32) (s : dr_S), dr_G p l e (dr_rm 0) s0 m args below meth c 0 0 A s0.heap D cI cZ ad ln L 2 (dr_Zv D cI cZ ad ln L A below args s0 0 0) 342 [(0, .ref (ad 12)), (1, .int x1)] [] s (f_X12_putsBack_p342 ln n x1 s) := by
  intro n
  induction n with
  | zero =>
    intro x1 s
    rw [f_X12_putsBack_p342]
    exact g_none
  | succ n hkb342 =>
    intro x1 s
    rw [f_X12_putsBack_p342]
    refine g_iload_n E dX12_putsBack_342 1 rfl ?_
    refine g_aload_n E dX12_putsBack_343 0 rfl ?_
    refine gg_12_175 E (hN 12 (by decide)) dX12_putsBack_344 ?_
    refine g_icmp_ge E 402 dX12_putsBack_347 (by decide) ?_ ?_
    · refine g_aload_n E dX12_putsBack_402 0 rfl ?_
      refine g_aload_n E dX12_putsBack_403 0 rfl ?_
      refine gg_12_298 E (hN 12 (by decide)) dX12_putsBack_404 ?_
      refine gp_12_199 E (hN 12 (by decide)) dX12_putsBack_407 (fun s42 => ?_)
      refine g_aload_n E dX12_putsBack_410 0 rfl ?_
      refine g_aload_n E dX12_putsBack_411 0 rfl ?_
      refine gg_12_301 E (hN 12 (by decide)) dX12_putsBack_412 ?_
      refine gp_12_202 E (hN 12 (by decide)) dX12_putsBack_415 (fun s43 => ?_)
      refine g_aload_n E dX12_putsBack_418 0 rfl ?_
      refine g_aload_n E dX12_putsBack_419 0 rfl ?_
      refine gg_12_304 E (hN 12 (by decide)) dX12_putsBack_420 ?_
      refine gp_12_247 E (hN 12 (by decide)) dX12_putsBack_423 (fun s44 => ?_)
      exact g_vret E dX12_putsBack_426
    · refine g_aload_n E dX12_putsBack_350 0 rfl ?_
      refine gg_12_83 E (hN 12 (by decide)) dX12_putsBack_351 ?_
      refine g_iload_n E dX12_putsBack_354 1 rfl ?_
      refine g_aload_n E dX12_putsBack_355 0 rfl ?_
      refine gg_12_146 E (hN 12 (by decide)) dX12_putsBack_356 ?_
      refine g_iconst E (v := 3) dX12_putsBack_359 (by decide) ?_
      refine g_iload_n E dX12_putsBack_360 1 rfl ?_
      refine g_imul E dX12_putsBack_361 ?_
      refine g_iaload E (hN 73 (by decide)) (by decide) rfl dX12_putsBack_362 (fun v45 => ?_)
      refine g_iastore E (hN 52 (by decide)) (by decide) rfl dX12_putsBack_363 (fun s46 => ?_)
      refine g_aload_n E dX12_putsBack_364 0 rfl ?_
      refine gg_12_89 E (hN 12 (by decide)) dX12_putsBack_365 ?_
      refine g_iload_n E dX12_putsBack_368 1 rfl ?_
      refine g_aload_n E dX12_putsBack_369 0 rfl ?_
      refine gg_12_146 E (hN 12 (by decide)) dX12_putsBack_370 ?_
      refine g_iconst E (v := 3) dX12_putsBack_373 (by decide) ?_
      refine g_iload_n E dX12_putsBack_374 1 rfl ?_
      refine g_imul E dX12_putsBack_375 ?_
      refine g_iconst E (v := 1) dX12_putsBack_376 (by decide) ?_
      refine g_iadd E dX12_putsBack_377 ?_
      refine g_iaload E (hN 73 (by decide)) (by decide) rfl dX12_putsBack_378 (fun v47 => ?_)
      refine g_iastore E (hN 54 (by decide)) (by decide) rfl dX12_putsBack_379 (fun s48 => ?_)
      refine g_aload_n E dX12_putsBack_380 0 rfl ?_
      refine gg_12_92 E (hN 12 (by decide)) dX12_putsBack_381 ?_
      refine g_iload_n E dX12_putsBack_384 1 rfl ?_
      refine g_aload_n E dX12_putsBack_385 0 rfl ?_
      refine gg_12_146 E (hN 12 (by decide)) dX12_putsBack_386 ?_
      refine g_iconst E (v := 3) dX12_putsBack_389 (by decide) ?_
      refine g_iload_n E dX12_putsBack_390 1 rfl ?_
      refine g_imul E dX12_putsBack_391 ?_
      refine g_iconst E (v := 2) dX12_putsBack_392 (by decide) ?_
      refine g_iadd E dX12_putsBack_393 ?_
      refine g_iaload E (hN 73 (by decide)) (by decide) rfl dX12_putsBack_394 (fun v49 => ?_)
      refine g_iastore E (hN 55 (by decide)) (by decide) rfl dX12_putsBack_395 (fun s50 => ?_)
      refine g_iinc E (lv' := []) (lv'' := fun y51 => [(1, .int y51), (0, .ref (ad 12))]) (v := 1) dX12_putsBack_396 1 rfl (by decide) (by decide) (fun _ => rfl) (fun y51 => ?_)
      refine g_goto E 342 dX12_putsBack_399 (by decide) ?_
      refine g_sub [1, 0] rfl ?_
      exact hkb342 y51 s50
set_option maxHeartbeats 4000000 in
set_option maxRecDepth 20000 in
theorem w_X12_putsBack_p304 (E : dr_E p (dr_rm 0) s0 m args meth c 0 0 A s0.heap D cI cZ ad L cX12_putsBack 2 RX12 none) (hap : dr_ap ad L) (hN : ∀ x ∈ nd_12, x ∈ L) : ∀ (n : Nat) (x1 : Int32) (s : dr_S), dr_G p l e (dr_rm 0) s0 m args below meth c 0 0 A s0.heap D cI cZ ad ln L 2 (dr_Zv D cI cZ ad ln L A below args s0 0 0) 304 [(0, .ref (ad 12)), (1, .int x1)] [] s (f_X12_putsBack_p304 ln n x1 s) := by
  intro n
  induction n with
  | zero =>
    intro x1 s
    rw [f_X12_putsBack_p304]
    exact g_none
  | succ n hkb304 =>
    intro x1 s
    rw [f_X12_putsBack_p304]
    refine g_iload_n E dX12_putsBack_304 1 rfl ?_
    refine g_bipush E (v := 56) dX12_putsBack_305 (by decide) ?_
    refine g_icmp_ge E 340 dX12_putsBack_307 (by decide) ?_ ?_
    · refine g_iconst E (v := 0) dX12_putsBack_340 (by decide) ?_
      refine g_istore_n E (lv' := [(1, .int 0), (0, .ref (ad 12))]) dX12_putsBack_341 (by decide) rfl ?_
      refine g_sub [1, 0] rfl ?_
      exact w_X12_putsBack_p342 E hap hN dr_N 0 s
    · refine g_aload_n E dX12_putsBack_310 0 rfl ?_
      refine gg_12_65 E (hN 12 (by decide)) dX12_putsBack_311 ?_
      refine g_iload_n E dX12_putsBack_314 1 rfl ?_
      refine g_aload_n E dX12_putsBack_315 0 rfl ?_
      refine gg_12_140 E (hN 12 (by decide)) dX12_putsBack_316 ?_
      refine g_iload_n E dX12_putsBack_319 1 rfl ?_
      refine g_iaload E (hN 71 (by decide)) (by decide) rfl dX12_putsBack_320 (fun v37 => ?_)
      refine g_iastore E (hN 46 (by decide)) (by decide) rfl dX12_putsBack_321 (fun s38 => ?_)
      refine g_aload_n E dX12_putsBack_322 0 rfl ?_
      refine gg_12_68 E (hN 12 (by decide)) dX12_putsBack_323 ?_
      refine g_iload_n E dX12_putsBack_326 1 rfl ?_
      refine g_aload_n E dX12_putsBack_327 0 rfl ?_
      refine gg_12_143 E (hN 12 (by decide)) dX12_putsBack_328 ?_
      refine g_iload_n E dX12_putsBack_331 1 rfl ?_
      refine g_iaload E (hN 72 (by decide)) (by decide) rfl dX12_putsBack_332 (fun v39 => ?_)
      refine g_iastore E (hN 47 (by decide)) (by decide) rfl dX12_putsBack_333 (fun s40 => ?_)
      refine g_iinc E (lv' := []) (lv'' := fun y41 => [(1, .int y41), (0, .ref (ad 12))]) (v := 1) dX12_putsBack_334 1 rfl (by decide) (by decide) (fun _ => rfl) (fun y41 => ?_)
      refine g_goto E 304 dX12_putsBack_337 (by decide) ?_
      refine g_sub [1, 0] rfl ?_
      exact hkb304 y41 s40
set_option maxHeartbeats 4000000 in
set_option maxRecDepth 20000 in
theorem w_X12_putsBack_p277 (E : dr_E p (dr_rm 0) s0 m args meth c 0 0 A s0.heap D cI cZ ad L cX12_putsBack 2 RX12 none) (hap : dr_ap ad L) (hN : ∀ x ∈ nd_12, x ∈ L) : ∀ (n : Nat) (x1 : Int32) (s : dr_S), dr_G p l e (dr_rm 0) s0 m args below meth c 0 0 A s0.heap D cI cZ ad ln L 2 (dr_Zv D cI cZ ad ln L A below args s0 0 0) 277 [(0, .ref (ad 12)), (1, .int x1)] [] s (f_X12_putsBack_p277 ln n x1 s) := by
  intro n
  induction n with
  | zero =>
    intro x1 s
    rw [f_X12_putsBack_p277]
    exact g_none
  | succ n hkb277 =>
    intro x1 s
    rw [f_X12_putsBack_p277]
    refine g_iload_n E dX12_putsBack_277 1 rfl ?_
    refine g_sipush E (v := 256) dX12_putsBack_278 (by decide) ?_
    refine g_icmp_ge E 302 dX12_putsBack_281 (by decide) ?_ ?_
    · refine g_iconst E (v := 0) dX12_putsBack_302 (by decide) ?_
      refine g_istore_n E (lv' := [(1, .int 0), (0, .ref (ad 12))]) dX12_putsBack_303 (by decide) rfl ?_
      refine g_sub [1, 0] rfl ?_
      exact w_X12_putsBack_p304 E hap hN dr_N 0 s
    · refine g_aload_n E dX12_putsBack_284 0 rfl ?_
      refine gg_12_59 E (hN 12 (by decide)) dX12_putsBack_285 ?_
      refine g_iload_n E dX12_putsBack_288 1 rfl ?_
      refine g_aload_n E dX12_putsBack_289 0 rfl ?_
      refine gg_12_137 E (hN 12 (by decide)) dX12_putsBack_290 ?_
      refine g_iload_n E dX12_putsBack_293 1 rfl ?_
      refine g_iaload E (hN 70 (by decide)) (by decide) rfl dX12_putsBack_294 (fun v34 => ?_)
      refine g_iastore E (hN 44 (by decide)) (by decide) rfl dX12_putsBack_295 (fun s35 => ?_)
      refine g_iinc E (lv' := []) (lv'' := fun y36 => [(1, .int y36), (0, .ref (ad 12))]) (v := 1) dX12_putsBack_296 1 rfl (by decide) (by decide) (fun _ => rfl) (fun y36 => ?_)
      refine g_goto E 277 dX12_putsBack_299 (by decide) ?_
      refine g_sub [1, 0] rfl ?_
      exact hkb277 y36 s35
set_option maxHeartbeats 4000000 in
set_option maxRecDepth 20000 in
theorem w_X12_putsBack_p146 (E : dr_E p (dr_rm 0) s0 m args meth c 0 0 A s0.heap D cI cZ ad L cX12_putsBack 2 RX12 none) (hap : dr_ap ad L) (hN : ∀ x ∈ nd_12, x ∈ L) : ∀ (n : Nat) (x1 : Int32) (s : dr_S), dr_G p l e (dr_rm 0) s0 m args below meth c 0 0 A s0.heap D cI cZ ad ln L 2 (dr_Zv D cI cZ ad ln L A below args s0 0 0) 146 [(0, .ref (ad 12)), (1, .int x1)] [] s (f_X12_putsBack_p146 ln n x1 s) := by
  intro n
  induction n with
  | zero =>
    intro x1 s
    rw [f_X12_putsBack_p146]
    exact g_none
  | succ n hkb146 =>
    intro x1 s
    rw [f_X12_putsBack_p146]
    refine g_iload_n E dX12_putsBack_146 1 rfl ?_
    refine g_iconst E (v := 4) dX12_putsBack_147 (by decide) ?_
    refine g_icmp_ge E 275 dX12_putsBack_148 (by decide) ?_ ?_
    · refine g_iconst E (v := 0) dX12_putsBack_275 (by decide) ?_
      refine g_istore_n E (lv' := [(1, .int 0), (0, .ref (ad 12))]) dX12_putsBack_276 (by decide) rfl ?_
      refine g_sub [1, 0] rfl ?_
      exact w_X12_putsBack_p277 E hap hN dr_N 0 s
    · refine g_aload_n E dX12_putsBack_151 0 rfl ?_
      refine gg_12_44 E (hN 12 (by decide)) dX12_putsBack_152 ?_
      refine g_iload_n E dX12_putsBack_155 1 rfl ?_
      refine g_aload_n E dX12_putsBack_156 0 rfl ?_
      refine gg_12_134 E (hN 12 (by decide)) dX12_putsBack_157 ?_
      refine g_bipush E (v := 8) dX12_putsBack_160 (by decide) ?_
      refine g_iload_n E dX12_putsBack_162 1 rfl ?_
      refine g_imul E dX12_putsBack_163 ?_
      refine g_iaload E (hN 69 (by decide)) (by decide) rfl dX12_putsBack_164 (fun v19 => ?_)
      refine g_iastore E (hN 39 (by decide)) (by decide) rfl dX12_putsBack_165 (fun s20 => ?_)
      refine g_aload_n E dX12_putsBack_166 0 rfl ?_
      refine gg_12_47 E (hN 12 (by decide)) dX12_putsBack_167 ?_
      refine g_iload_n E dX12_putsBack_170 1 rfl ?_
      refine g_aload_n E dX12_putsBack_171 0 rfl ?_
      refine gg_12_134 E (hN 12 (by decide)) dX12_putsBack_172 ?_
      refine g_bipush E (v := 8) dX12_putsBack_175 (by decide) ?_
      refine g_iload_n E dX12_putsBack_177 1 rfl ?_
      refine g_imul E dX12_putsBack_178 ?_
      refine g_iconst E (v := 1) dX12_putsBack_179 (by decide) ?_
      refine g_iadd E dX12_putsBack_180 ?_
      refine g_iaload E (hN 69 (by decide)) (by decide) rfl dX12_putsBack_181 (fun v21 => ?_)
      refine g_iastore E (hN 40 (by decide)) (by decide) rfl dX12_putsBack_182 (fun s22 => ?_)
      refine g_aload_n E dX12_putsBack_183 0 rfl ?_
      refine gg_12_53 E (hN 12 (by decide)) dX12_putsBack_184 ?_
      refine g_iload_n E dX12_putsBack_187 1 rfl ?_
      refine g_aload_n E dX12_putsBack_188 0 rfl ?_
      refine gg_12_134 E (hN 12 (by decide)) dX12_putsBack_189 ?_
      refine g_bipush E (v := 8) dX12_putsBack_192 (by decide) ?_
      refine g_iload_n E dX12_putsBack_194 1 rfl ?_
      refine g_imul E dX12_putsBack_195 ?_
      refine g_iconst E (v := 2) dX12_putsBack_196 (by decide) ?_
      refine g_iadd E dX12_putsBack_197 ?_
      refine g_iaload E (hN 69 (by decide)) (by decide) rfl dX12_putsBack_198 (fun v23 => ?_)
      refine g_iastore E (hN 42 (by decide)) (by decide) rfl dX12_putsBack_199 (fun s24 => ?_)
      refine g_aload_n E dX12_putsBack_200 0 rfl ?_
      refine gg_12_56 E (hN 12 (by decide)) dX12_putsBack_201 ?_
      refine g_iload_n E dX12_putsBack_204 1 rfl ?_
      refine g_aload_n E dX12_putsBack_205 0 rfl ?_
      refine gg_12_134 E (hN 12 (by decide)) dX12_putsBack_206 ?_
      refine g_bipush E (v := 8) dX12_putsBack_209 (by decide) ?_
      refine g_iload_n E dX12_putsBack_211 1 rfl ?_
      refine g_imul E dX12_putsBack_212 ?_
      refine g_iconst E (v := 3) dX12_putsBack_213 (by decide) ?_
      refine g_iadd E dX12_putsBack_214 ?_
      refine g_iaload E (hN 69 (by decide)) (by decide) rfl dX12_putsBack_215 (fun v25 => ?_)
      refine g_iastore E (hN 43 (by decide)) (by decide) rfl dX12_putsBack_216 (fun s26 => ?_)
      refine g_aload_n E dX12_putsBack_217 0 rfl ?_
      refine gg_12_62 E (hN 12 (by decide)) dX12_putsBack_218 ?_
      refine g_iload_n E dX12_putsBack_221 1 rfl ?_
      refine g_aload_n E dX12_putsBack_222 0 rfl ?_
      refine gg_12_134 E (hN 12 (by decide)) dX12_putsBack_223 ?_
      refine g_bipush E (v := 8) dX12_putsBack_226 (by decide) ?_
      refine g_iload_n E dX12_putsBack_228 1 rfl ?_
      refine g_imul E dX12_putsBack_229 ?_
      refine g_iconst E (v := 4) dX12_putsBack_230 (by decide) ?_
      refine g_iadd E dX12_putsBack_231 ?_
      refine g_iaload E (hN 69 (by decide)) (by decide) rfl dX12_putsBack_232 (fun v27 => ?_)
      refine g_iastore E (hN 45 (by decide)) (by decide) rfl dX12_putsBack_233 (fun s28 => ?_)
      refine g_aload_n E dX12_putsBack_234 0 rfl ?_
      refine gg_12_71 E (hN 12 (by decide)) dX12_putsBack_235 ?_
      refine g_iload_n E dX12_putsBack_238 1 rfl ?_
      refine g_aload_n E dX12_putsBack_239 0 rfl ?_
      refine gg_12_134 E (hN 12 (by decide)) dX12_putsBack_240 ?_
      refine g_bipush E (v := 8) dX12_putsBack_243 (by decide) ?_
      refine g_iload_n E dX12_putsBack_245 1 rfl ?_
      refine g_imul E dX12_putsBack_246 ?_
      refine g_iconst E (v := 5) dX12_putsBack_247 (by decide) ?_
      refine g_iadd E dX12_putsBack_248 ?_
      refine g_iaload E (hN 69 (by decide)) (by decide) rfl dX12_putsBack_249 (fun v29 => ?_)
      refine g_iastore E (hN 48 (by decide)) (by decide) rfl dX12_putsBack_250 (fun s30 => ?_)
      refine g_aload_n E dX12_putsBack_251 0 rfl ?_
      refine gg_12_74 E (hN 12 (by decide)) dX12_putsBack_252 ?_
      refine g_iload_n E dX12_putsBack_255 1 rfl ?_
      refine g_aload_n E dX12_putsBack_256 0 rfl ?_
      refine gg_12_134 E (hN 12 (by decide)) dX12_putsBack_257 ?_
      refine g_bipush E (v := 8) dX12_putsBack_260 (by decide) ?_
      refine g_iload_n E dX12_putsBack_262 1 rfl ?_
      refine g_imul E dX12_putsBack_263 ?_
      refine g_bipush E (v := 6) dX12_putsBack_264 (by decide) ?_
      refine g_iadd E dX12_putsBack_266 ?_
      refine g_iaload E (hN 69 (by decide)) (by decide) rfl dX12_putsBack_267 (fun v31 => ?_)
      refine g_iastore E (hN 49 (by decide)) (by decide) rfl dX12_putsBack_268 (fun s32 => ?_)
      refine g_iinc E (lv' := []) (lv'' := fun y33 => [(1, .int y33), (0, .ref (ad 12))]) (v := 1) dX12_putsBack_269 1 rfl (by decide) (by decide) (fun _ => rfl) (fun y33 => ?_)
      refine g_goto E 146 dX12_putsBack_272 (by decide) ?_
      refine g_sub [1, 0] rfl ?_
      exact hkb146 y33 s32
set_option maxHeartbeats 4000000 in
set_option maxRecDepth 20000 in
theorem w_X12_putsBack_p107 (E : dr_E p (dr_rm 0) s0 m args meth c 0 0 A s0.heap D cI cZ ad L cX12_putsBack 2 RX12 none) (hap : dr_ap ad L) (hN : ∀ x ∈ nd_12, x ∈ L) : ∀ (n : Nat) (x1 : Int32) (s : dr_S), dr_G p l e (dr_rm 0) s0 m args below meth c 0 0 A s0.heap D cI cZ ad ln L 2 (dr_Zv D cI cZ ad ln L A below args s0 0 0) 107 [(0, .ref (ad 12)), (1, .int x1)] [] s (f_X12_putsBack_p107 ln n x1 s) := by
  intro n
  induction n with
  | zero =>
    intro x1 s
    rw [f_X12_putsBack_p107]
    exact g_none
  | succ n hkb107 =>
    intro x1 s
    rw [f_X12_putsBack_p107]
    refine g_iload_n E dX12_putsBack_107 1 rfl ?_
    refine g_sipush E (v := 3584) dX12_putsBack_108 (by decide) ?_
    refine g_icmp_ge E 144 dX12_putsBack_111 (by decide) ?_ ?_
    · refine g_iconst E (v := 0) dX12_putsBack_144 (by decide) ?_
      refine g_istore_n E (lv' := [(1, .int 0), (0, .ref (ad 12))]) dX12_putsBack_145 (by decide) rfl ?_
      refine g_sub [1, 0] rfl ?_
      exact w_X12_putsBack_p146 E hap hN dr_N 0 s
    · refine g_aload_n E dX12_putsBack_114 0 rfl ?_
      refine gg_12_26 E (hN 12 (by decide)) dX12_putsBack_115 ?_
      refine g_iload_n E dX12_putsBack_118 1 rfl ?_
      refine g_aload_n E dX12_putsBack_119 0 rfl ?_
      refine gg_12_128 E (hN 12 (by decide)) dX12_putsBack_120 ?_
      refine g_iload_n E dX12_putsBack_123 1 rfl ?_
      refine g_iaload E (hN 67 (by decide)) (by decide) rfl dX12_putsBack_124 (fun v14 => ?_)
      refine g_iastore E (hN 33 (by decide)) (by decide) rfl dX12_putsBack_125 (fun s15 => ?_)
      refine g_aload_n E dX12_putsBack_126 0 rfl ?_
      refine gg_12_29 E (hN 12 (by decide)) dX12_putsBack_127 ?_
      refine g_iload_n E dX12_putsBack_130 1 rfl ?_
      refine g_aload_n E dX12_putsBack_131 0 rfl ?_
      refine gg_12_131 E (hN 12 (by decide)) dX12_putsBack_132 ?_
      refine g_iload_n E dX12_putsBack_135 1 rfl ?_
      refine g_iaload E (hN 68 (by decide)) (by decide) rfl dX12_putsBack_136 (fun v16 => ?_)
      refine g_iastore E (hN 34 (by decide)) (by decide) rfl dX12_putsBack_137 (fun s17 => ?_)
      refine g_iinc E (lv' := []) (lv'' := fun y18 => [(1, .int y18), (0, .ref (ad 12))]) (v := 1) dX12_putsBack_138 1 rfl (by decide) (by decide) (fun _ => rfl) (fun y18 => ?_)
      refine g_goto E 107 dX12_putsBack_141 (by decide) ?_
      refine g_sub [1, 0] rfl ?_
      exact hkb107 y18 s17
set_option maxHeartbeats 4000000 in
set_option maxRecDepth 20000 in
theorem w_X12_putsBack_p2 (E : dr_E p (dr_rm 0) s0 m args meth c 0 0 A s0.heap D cI cZ ad L cX12_putsBack 2 RX12 none) (hap : dr_ap ad L) (hN : ∀ x ∈ nd_12, x ∈ L) : ∀ (n : Nat) (x1 : Int32) (s : dr_S), dr_G p l e (dr_rm 0) s0 m args below meth c 0 0 A s0.heap D cI cZ ad ln L 2 (dr_Zv D cI cZ ad ln L A below args s0 0 0) 2 [(0, .ref (ad 12)), (1, .int x1)] [] s (f_X12_putsBack_p2 ln n x1 s) := by
  intro n
  induction n with
  | zero =>
    intro x1 s
    rw [f_X12_putsBack_p2]
    exact g_none
  | succ n hkb2 =>
    intro x1 s
    rw [f_X12_putsBack_p2]
    refine g_iload_n E dX12_putsBack_2 1 rfl ?_
    refine g_sipush E (v := 256) dX12_putsBack_3 (by decide) ?_
    refine g_icmp_ge E 105 dX12_putsBack_6 (by decide) ?_ ?_
    · refine g_iconst E (v := 0) dX12_putsBack_105 (by decide) ?_
      refine g_istore_n E (lv' := [(1, .int 0), (0, .ref (ad 12))]) dX12_putsBack_106 (by decide) rfl ?_
      refine g_sub [1, 0] rfl ?_
      exact w_X12_putsBack_p107 E hap hN dr_N 0 s
    · refine g_aload_n E dX12_putsBack_9 0 rfl ?_
      refine gg_12_17 E (hN 12 (by decide)) dX12_putsBack_10 ?_
      refine g_iload_n E dX12_putsBack_13 1 rfl ?_
      refine g_aload_n E dX12_putsBack_14 0 rfl ?_
      refine gg_12_122 E (hN 12 (by decide)) dX12_putsBack_15 ?_
      refine g_iload_n E dX12_putsBack_18 1 rfl ?_
      refine g_baload E (hN 65 (by decide)) (by decide) rfl dX12_putsBack_19 (fun v1 => ?_)
      refine g_bastore E (hN 30 (by decide)) (by decide) rfl dX12_putsBack_20 (fun s2 => ?_)
      refine g_aload_n E dX12_putsBack_21 0 rfl ?_
      refine gg_12_20 E (hN 12 (by decide)) dX12_putsBack_22 ?_
      refine g_iload_n E dX12_putsBack_25 1 rfl ?_
      refine g_aload_n E dX12_putsBack_26 0 rfl ?_
      refine gg_12_125 E (hN 12 (by decide)) dX12_putsBack_27 ?_
      refine g_iconst E (v := 5) dX12_putsBack_30 (by decide) ?_
      refine g_iload_n E dX12_putsBack_31 1 rfl ?_
      refine g_imul E dX12_putsBack_32 ?_
      refine g_iaload E (hN 66 (by decide)) (by decide) rfl dX12_putsBack_33 (fun v3 => ?_)
      refine g_iastore E (hN 31 (by decide)) (by decide) rfl dX12_putsBack_34 (fun s4 => ?_)
      refine g_aload_n E dX12_putsBack_35 0 rfl ?_
      refine gg_12_23 E (hN 12 (by decide)) dX12_putsBack_36 ?_
      refine g_iload_n E dX12_putsBack_39 1 rfl ?_
      refine g_aload_n E dX12_putsBack_40 0 rfl ?_
      refine gg_12_125 E (hN 12 (by decide)) dX12_putsBack_41 ?_
      refine g_iconst E (v := 5) dX12_putsBack_44 (by decide) ?_
      refine g_iload_n E dX12_putsBack_45 1 rfl ?_
      refine g_imul E dX12_putsBack_46 ?_
      refine g_iconst E (v := 1) dX12_putsBack_47 (by decide) ?_
      refine g_iadd E dX12_putsBack_48 ?_
      refine g_iaload E (hN 66 (by decide)) (by decide) rfl dX12_putsBack_49 (fun v5 => ?_)
      refine g_iastore E (hN 32 (by decide)) (by decide) rfl dX12_putsBack_50 (fun s6 => ?_)
      refine g_aload_n E dX12_putsBack_51 0 rfl ?_
      refine gg_12_32 E (hN 12 (by decide)) dX12_putsBack_52 ?_
      refine g_iload_n E dX12_putsBack_55 1 rfl ?_
      refine g_aload_n E dX12_putsBack_56 0 rfl ?_
      refine gg_12_125 E (hN 12 (by decide)) dX12_putsBack_57 ?_
      refine g_iconst E (v := 5) dX12_putsBack_60 (by decide) ?_
      refine g_iload_n E dX12_putsBack_61 1 rfl ?_
      refine g_imul E dX12_putsBack_62 ?_
      refine g_iconst E (v := 2) dX12_putsBack_63 (by decide) ?_
      refine g_iadd E dX12_putsBack_64 ?_
      refine g_iaload E (hN 66 (by decide)) (by decide) rfl dX12_putsBack_65 (fun v7 => ?_)
      refine g_iastore E (hN 35 (by decide)) (by decide) rfl dX12_putsBack_66 (fun s8 => ?_)
      refine g_aload_n E dX12_putsBack_67 0 rfl ?_
      refine gg_12_35 E (hN 12 (by decide)) dX12_putsBack_68 ?_
      refine g_iload_n E dX12_putsBack_71 1 rfl ?_
      refine g_aload_n E dX12_putsBack_72 0 rfl ?_
      refine gg_12_125 E (hN 12 (by decide)) dX12_putsBack_73 ?_
      refine g_iconst E (v := 5) dX12_putsBack_76 (by decide) ?_
      refine g_iload_n E dX12_putsBack_77 1 rfl ?_
      refine g_imul E dX12_putsBack_78 ?_
      refine g_iconst E (v := 3) dX12_putsBack_79 (by decide) ?_
      refine g_iadd E dX12_putsBack_80 ?_
      refine g_iaload E (hN 66 (by decide)) (by decide) rfl dX12_putsBack_81 (fun v9 => ?_)
      refine g_iastore E (hN 36 (by decide)) (by decide) rfl dX12_putsBack_82 (fun s10 => ?_)
      refine g_aload_n E dX12_putsBack_83 0 rfl ?_
      refine gg_12_38 E (hN 12 (by decide)) dX12_putsBack_84 ?_
      refine g_iload_n E dX12_putsBack_87 1 rfl ?_
      refine g_aload_n E dX12_putsBack_88 0 rfl ?_
      refine gg_12_125 E (hN 12 (by decide)) dX12_putsBack_89 ?_
      refine g_iconst E (v := 5) dX12_putsBack_92 (by decide) ?_
      refine g_iload_n E dX12_putsBack_93 1 rfl ?_
      refine g_imul E dX12_putsBack_94 ?_
      refine g_iconst E (v := 4) dX12_putsBack_95 (by decide) ?_
      refine g_iadd E dX12_putsBack_96 ?_
      refine g_iaload E (hN 66 (by decide)) (by decide) rfl dX12_putsBack_97 (fun v11 => ?_)
      refine g_iastore E (hN 37 (by decide)) (by decide) rfl dX12_putsBack_98 (fun s12 => ?_)
      refine g_iinc E (lv' := []) (lv'' := fun y13 => [(1, .int y13), (0, .ref (ad 12))]) (v := 1) dX12_putsBack_99 1 rfl (by decide) (by decide) (fun _ => rfl) (fun y13 => ?_)
      refine g_goto E 2 dX12_putsBack_102 (by decide) ?_
      refine g_sub [1, 0] rfl ?_
      exact hkb2 y13 s12
set_option maxHeartbeats 4000000 in
set_option maxRecDepth 20000 in
theorem c_X12_putsBack (hap : dr_ap ad L) (hN : ∀ x ∈ nd_12, x ∈ L) (s : dr_S) : dr_Mv l D cI cZ ad ln L yX12_putsBack cX12_putsBack 2 0 [.ref (ad 12)] s (f_X12_putsBack ln  s) := by
  refine dr_metv (own := RX12) (by decide) rfl (Nat.le_of_ble_eq_true rfl) hap ?_
  intro p e s0 m args below meth c A E
  unfold f_X12_putsBack
  refine g_eqL (lv' := [(0, .ref (ad 12))]) rfl ?_
  refine g_iconst E (v := 0) dX12_putsBack_0 (by decide) ?_
  refine g_istore_n E (lv' := [(1, .int 0), (0, .ref (ad 12))]) dX12_putsBack_1 (by decide) rfl ?_
  refine g_sub [1, 0] rfl ?_
  exact w_X12_putsBack_p2 E hap hN dr_N 0 s
end

theorem dX12_atJobs_0 : decode cX12_atJobs 0 = .ok (.iconst 0, 1) := by decide +kernel
theorem dX12_atJobs_1 : decode cX12_atJobs 1 = .ok (.istore_n 1, 1) := by decide +kernel
theorem dX12_atJobs_2 : decode cX12_atJobs 2 = .ok (.iconst 0, 1) := by decide +kernel
theorem dX12_atJobs_3 : decode cX12_atJobs 3 = .ok (.istore_n 2, 1) := by decide +kernel
theorem dX12_atJobs_4 : decode cX12_atJobs 4 = .ok (.iload_n 2, 1) := by decide +kernel
theorem dX12_atJobs_5 : decode cX12_atJobs 5 = .ok (.iconst 4, 1) := by decide +kernel
theorem dX12_atJobs_6 : decode cX12_atJobs 6 = .ok (.if_icmp .ge 26, 3) := by decide +kernel
theorem dX12_atJobs_9 : decode cX12_atJobs 9 = .ok (.iload_n 1, 1) := by decide +kernel
theorem dX12_atJobs_10 : decode cX12_atJobs 10 = .ok (.aload_n 0, 1) := by decide +kernel
theorem dX12_atJobs_11 : decode cX12_atJobs 11 = .ok (.getfield 44, 3) := by decide +kernel
theorem dX12_atJobs_14 : decode cX12_atJobs 14 = .ok (.iload_n 2, 1) := by decide +kernel
theorem dX12_atJobs_15 : decode cX12_atJobs 15 = .ok (.iaload, 1) := by decide +kernel
theorem dX12_atJobs_16 : decode cX12_atJobs 16 = .ok (.ifCond .ne 7, 3) := by decide +kernel
theorem dX12_atJobs_19 : decode cX12_atJobs 19 = .ok (.iconst 0, 1) := by decide +kernel
theorem dX12_atJobs_20 : decode cX12_atJobs 20 = .ok (.goto 4, 3) := by decide +kernel
theorem dX12_atJobs_23 : decode cX12_atJobs 23 = .ok (.iconst 1, 1) := by decide +kernel
theorem dX12_atJobs_24 : decode cX12_atJobs 24 = .ok (.iadd, 1) := by decide +kernel
theorem dX12_atJobs_25 : decode cX12_atJobs 25 = .ok (.istore_n 1, 1) := by decide +kernel
theorem dX12_atJobs_26 : decode cX12_atJobs 26 = .ok (.iinc 2 1, 3) := by decide +kernel
theorem dX12_atJobs_29 : decode cX12_atJobs 29 = .ok (.goto (-25), 3) := by decide +kernel
theorem dX12_atJobs_32 : decode cX12_atJobs 32 = .ok (.iload_n 1, 1) := by decide +kernel
theorem dX12_atJobs_33 : decode cX12_atJobs 33 = .ok (.ireturn, 1) := by decide +kernel
def f_X12_atJobs_p24 (ln : Nat → Nat) (kb4 : Int32 → Int32 → dr_S → Option (Int32 × dr_S)) (x2 : Int32) (z0 : Int32) (z1 : Int32) (s : dr_S) : Option (Int32 × dr_S) := dr_let (z1 + z0) (fun y2 => dr_let (x2 + 1) (fun y3 => (kb4 y2 y3 s)))
def f_X12_atJobs_p4 (ln : Nat → Nat) : Nat → Int32 → Int32 → dr_S → Option (Int32 × dr_S)
  | 0, _, _, _ => none
  | n + 1, x1, x2, s => (if ((4 : Int32) ≤ x2 : Prop) then some (x1, s) else (dr_rd ln s 39 x2).bind (fun v1 => (if v1 = 0 then (f_X12_atJobs_p24 ln (f_X12_atJobs_p4 ln n) x2 0 x1 s) else (f_X12_atJobs_p24 ln (f_X12_atJobs_p4 ln n) x2 1 x1 s))))
def f_X12_atJobs (ln : Nat → Nat) (s : dr_S) : Option (Int32 × dr_S) := (f_X12_atJobs_p4 ln dr_N 0 0 s)
section
variable {p : Program} {l : Launch} {e : Env} {s0 : State} {m : MethodId} {args : Array Value} {below : List Frame} {meth : Method} {c : Code} {A : Nat → Prop} {D : va_G} {cI cZ : ClassId} {ad ln : Nat → Nat} {L : List Nat}
set_option maxHeartbeats 4000000 in
set_option maxRecDepth 20000 in
theorem w_X12_atJobs_p24 {kb4 : Int32 → Int32 → dr_S → Option (Int32 × dr_S)} (E : dr_E p (dr_rm 0) s0 m args meth c 0 0 A s0.heap D cI cZ ad L cX12_atJobs 3 RX12 (some .int)) (hap : dr_ap ad L) (hN : ∀ x ∈ nd_12, x ∈ L) (hkb4 : ∀ (x1 : Int32) (x2 : Int32) (s : dr_S), dr_G p l e (dr_rm 0) s0 m args below meth c 0 0 A s0.heap D cI cZ ad ln L 3 (dr_Zi D cI cZ ad ln L A below args s0 0 0) 4 [(0, .ref (ad 12)), (1, .int x1), (2, .int x2)] [] s (kb4 x1 x2 s)) : ∀ (x2 : Int32) (z0 : Int32) (z1 : Int32) (s : dr_S), dr_G p l e (dr_rm 0) s0 m args below meth c 0 0 A s0.heap D cI cZ ad ln L 3 (dr_Zi D cI cZ ad ln L A below args s0 0 0) 24 [(0, .ref (ad 12)), (2, .int x2)] [.int z0, .int z1] s (f_X12_atJobs_p24 ln kb4 x2 z0 z1 s) := by
  intro x2 z0 z1 s
  unfold f_X12_atJobs_p24
  refine g_iadd E dX12_atJobs_24 ?_
  refine g_let (fun y2 => ?_)
  refine g_istore_n E (lv' := [(1, .int y2), (0, .ref (ad 12)), (2, .int x2)]) dX12_atJobs_25 (by decide) rfl ?_
  refine g_iinc E (lv' := []) (lv'' := fun y3 => [(2, .int y3), (1, .int y2), (0, .ref (ad 12))]) (v := 1) dX12_atJobs_26 2 rfl (by decide) (by decide) (fun _ => rfl) (fun y3 => ?_)
  refine g_goto E 4 dX12_atJobs_29 (by decide) ?_
  refine g_sub [2, 1, 0] rfl ?_
  exact hkb4 y2 y3 s
set_option maxHeartbeats 4000000 in
set_option maxRecDepth 20000 in
theorem w_X12_atJobs_p4 (E : dr_E p (dr_rm 0) s0 m args meth c 0 0 A s0.heap D cI cZ ad L cX12_atJobs 3 RX12 (some .int)) (hap : dr_ap ad L) (hN : ∀ x ∈ nd_12, x ∈ L) : ∀ (n : Nat) (x1 : Int32) (x2 : Int32) (s : dr_S), dr_G p l e (dr_rm 0) s0 m args below meth c 0 0 A s0.heap D cI cZ ad ln L 3 (dr_Zi D cI cZ ad ln L A below args s0 0 0) 4 [(0, .ref (ad 12)), (1, .int x1), (2, .int x2)] [] s (f_X12_atJobs_p4 ln n x1 x2 s) := by
  intro n
  induction n with
  | zero =>
    intro x1 x2 s
    rw [f_X12_atJobs_p4]
    exact g_none
  | succ n hkb4 =>
    intro x1 x2 s
    rw [f_X12_atJobs_p4]
    refine g_iload_n E dX12_atJobs_4 2 rfl ?_
    refine g_iconst E (v := 4) dX12_atJobs_5 (by decide) ?_
    refine g_icmp_ge E 32 dX12_atJobs_6 (by decide) ?_ ?_
    · refine g_iload_n E dX12_atJobs_32 1 rfl ?_
      exact g_iret E dX12_atJobs_33
    · refine g_iload_n E dX12_atJobs_9 1 rfl ?_
      refine g_aload_n E dX12_atJobs_10 0 rfl ?_
      refine gg_12_44 E (hN 12 (by decide)) dX12_atJobs_11 ?_
      refine g_iload_n E dX12_atJobs_14 2 rfl ?_
      refine g_iaload E (hN 39 (by decide)) (by decide) rfl dX12_atJobs_15 (fun v1 => ?_)
      refine g_if_ne E 23 dX12_atJobs_16 (by decide) ?_ ?_
      · refine g_iconst E (v := 1) dX12_atJobs_23 (by decide) ?_
        refine g_sub [0, 2] rfl ?_
        exact w_X12_atJobs_p24 E hap hN hkb4 x2 1 x1 s
      · refine g_iconst E (v := 0) dX12_atJobs_19 (by decide) ?_
        refine g_goto E 24 dX12_atJobs_20 (by decide) ?_
        refine g_sub [0, 2] rfl ?_
        exact w_X12_atJobs_p24 E hap hN hkb4 x2 0 x1 s
set_option maxHeartbeats 4000000 in
set_option maxRecDepth 20000 in
theorem c_X12_atJobs (hap : dr_ap ad L) (hN : ∀ x ∈ nd_12, x ∈ L) (s : dr_S) : dr_Mi l D cI cZ ad ln L yX12_atJobs cX12_atJobs 3 (some .int) 0 [.ref (ad 12)] s (f_X12_atJobs ln  s) := by
  refine dr_meti (own := RX12) (by decide) rfl (Nat.le_of_ble_eq_true rfl) hap ?_
  intro p e s0 m args below meth c A E
  unfold f_X12_atJobs
  refine g_eqL (lv' := [(0, .ref (ad 12))]) rfl ?_
  refine g_iconst E (v := 0) dX12_atJobs_0 (by decide) ?_
  refine g_istore_n E (lv' := [(1, .int 0), (0, .ref (ad 12))]) dX12_atJobs_1 (by decide) rfl ?_
  refine g_iconst E (v := 0) dX12_atJobs_2 (by decide) ?_
  refine g_istore_n E (lv' := [(2, .int 0), (1, .int 0), (0, .ref (ad 12))]) dX12_atJobs_3 (by decide) rfl ?_
  refine g_sub [2, 1, 0] rfl ?_
  exact w_X12_atJobs_p4 E hap hN dr_N 0 0 s
end

theorem dX12_isBroken_0 : decode cX12_isBroken 0 = .ok (.aload_n 0, 1) := by decide +kernel
theorem dX12_isBroken_1 : decode cX12_isBroken 1 = .ok (.iload_n 1, 1) := by decide +kernel
theorem dX12_isBroken_2 : decode cX12_isBroken 2 = .ok (.invokevirtual 286, 3) := by decide +kernel
theorem dX12_isBroken_5 : decode cX12_isBroken 5 = .ok (.ifCond .eq 15, 3) := by decide +kernel
theorem dX12_isBroken_8 : decode cX12_isBroken 8 = .ok (.aload_n 0, 1) := by decide +kernel
theorem dX12_isBroken_9 : decode cX12_isBroken 9 = .ok (.iload_n 1, 1) := by decide +kernel
theorem dX12_isBroken_10 : decode cX12_isBroken 10 = .ok (.invokevirtual 289, 3) := by decide +kernel
theorem dX12_isBroken_13 : decode cX12_isBroken 13 = .ok (.ifCond .ne 7, 3) := by decide +kernel
theorem dX12_isBroken_16 : decode cX12_isBroken 16 = .ok (.iconst 1, 1) := by decide +kernel
theorem dX12_isBroken_17 : decode cX12_isBroken 17 = .ok (.goto 4, 3) := by decide +kernel
theorem dX12_isBroken_20 : decode cX12_isBroken 20 = .ok (.iconst 0, 1) := by decide +kernel
theorem dX12_isBroken_21 : decode cX12_isBroken 21 = .ok (.ireturn, 1) := by decide +kernel
def f_X12_isBroken (ln : Nat → Nat) (x1 : Int32) (s : dr_S) : Option (Int32 × dr_S) := dr_bnd (f_X12_canBeAsked ln x1 s) (fun r2 s1 => (if r2 = 0 then some (0, s1) else dr_bnd (f_X12_isSound ln x1 s1) (fun r4 s3 => (if r4 = 0 then some (1, s3) else some (0, s3)))))
section
variable {p : Program} {l : Launch} {e : Env} {s0 : State} {m : MethodId} {args : Array Value} {below : List Frame} {meth : Method} {c : Code} {A : Nat → Prop} {D : va_G} {cI cZ : ClassId} {ad ln : Nat → Nat} {L : List Nat}
set_option maxHeartbeats 4000000 in
set_option maxRecDepth 20000 in
theorem c_X12_isBroken (hap : dr_ap ad L) (hN : ∀ x ∈ nd_12, x ∈ L) (x1 : Int32) (s : dr_S) : dr_Mi l D cI cZ ad ln L yX12_isBroken cX12_isBroken 2 (some .boolean) 3 [.ref (ad 12), .int x1] s (f_X12_isBroken ln x1 s) := by
  refine dr_meti (own := RX12) (by decide) rfl (Nat.le_of_ble_eq_true rfl) hap ?_
  intro p e s0 m args below meth c A E
  unfold f_X12_isBroken
  refine g_eqL (lv' := [(0, .ref (ad 12)), (1, .int x1)]) rfl ?_
  refine g_aload_n E dX12_isBroken_0 0 rfl ?_
  refine g_iload_n E dX12_isBroken_1 1 rfl ?_
  refine g_cVi E [.int x1] rfl (c_X12_canBeAsked hap hN x1 s) (hN 12 (by decide)) (by decide) rfl rfl mi_X12_canBeAsked msl_X12_canBeAsked mw_X12_canBeAsked rfl ml_12_286 ⟨Nat.le_of_ble_eq_true rfl, Nat.le_of_ble_eq_true rfl⟩ (Nat.le_of_ble_eq_true rfl) dX12_isBroken_2 (fun r2 s1 => ?_)
  refine g_if_eq E 20 dX12_isBroken_5 (by decide) ?_ ?_
  · refine g_iconst E (v := 0) dX12_isBroken_20 (by decide) ?_
    exact g_zret E dX12_isBroken_21 (Or.inl rfl)
  · refine g_aload_n E dX12_isBroken_8 0 rfl ?_
    refine g_iload_n E dX12_isBroken_9 1 rfl ?_
    refine g_cVi E [.int x1] rfl (c_X12_isSound hap hN x1 s1) (hN 12 (by decide)) (by decide) rfl rfl mi_X12_isSound msl_X12_isSound mw_X12_isSound rfl ml_12_289 ⟨Nat.le_of_ble_eq_true rfl, Nat.le_of_ble_eq_true rfl⟩ (Nat.le_of_ble_eq_true rfl) dX12_isBroken_10 (fun r4 s3 => ?_)
    refine g_if_ne E 20 dX12_isBroken_13 (by decide) ?_ ?_
    · refine g_iconst E (v := 0) dX12_isBroken_20 (by decide) ?_
      exact g_zret E dX12_isBroken_21 (Or.inl rfl)
    · refine g_iconst E (v := 1) dX12_isBroken_16 (by decide) ?_
      refine g_goto E 21 dX12_isBroken_17 (by decide) ?_
      exact g_zret E dX12_isBroken_21 (Or.inr rfl)
end

theorem dX12_goesBy_0 : decode cX12_goesBy 0 = .ok (.iconst 0, 1) := by decide +kernel
theorem dX12_goesBy_1 : decode cX12_goesBy 1 = .ok (.istore 5, 2) := by decide +kernel
theorem dX12_goesBy_3 : decode cX12_goesBy 3 = .ok (.iload 5, 2) := by decide +kernel
theorem dX12_goesBy_5 : decode cX12_goesBy 5 = .ok (.iload_n 2, 1) := by decide +kernel
theorem dX12_goesBy_6 : decode cX12_goesBy 6 = .ok (.if_icmp .ge 112, 3) := by decide +kernel
theorem dX12_goesBy_9 : decode cX12_goesBy 9 = .ok (.iload_n 1, 1) := by decide +kernel
theorem dX12_goesBy_10 : decode cX12_goesBy 10 = .ok (.iload_n 2, 1) := by decide +kernel
theorem dX12_goesBy_11 : decode cX12_goesBy 11 = .ok (.iconst 1, 1) := by decide +kernel
theorem dX12_goesBy_12 : decode cX12_goesBy 12 = .ok (.isub, 1) := by decide +kernel
theorem dX12_goesBy_13 : decode cX12_goesBy 13 = .ok (.iload 5, 2) := by decide +kernel
theorem dX12_goesBy_15 : decode cX12_goesBy 15 = .ok (.isub, 1) := by decide +kernel
theorem dX12_goesBy_16 : decode cX12_goesBy 16 = .ok (.ishr, 1) := by decide +kernel
theorem dX12_goesBy_17 : decode cX12_goesBy 17 = .ok (.iconst 1, 1) := by decide +kernel
theorem dX12_goesBy_18 : decode cX12_goesBy 18 = .ok (.iand, 1) := by decide +kernel
theorem dX12_goesBy_19 : decode cX12_goesBy 19 = .ok (.ifCond .ne 7, 3) := by decide +kernel
theorem dX12_goesBy_22 : decode cX12_goesBy 22 = .ok (.iload_n 3, 1) := by decide +kernel
theorem dX12_goesBy_23 : decode cX12_goesBy 23 = .ok (.goto 5, 3) := by decide +kernel
theorem dX12_goesBy_26 : decode cX12_goesBy 26 = .ok (.iload 4, 2) := by decide +kernel
theorem dX12_goesBy_28 : decode cX12_goesBy 28 = .ok (.istore 6, 2) := by decide +kernel
theorem dX12_goesBy_30 : decode cX12_goesBy 30 = .ok (.iload 6, 2) := by decide +kernel
theorem dX12_goesBy_32 : decode cX12_goesBy 32 = .ok (.iload_n 3, 1) := by decide +kernel
theorem dX12_goesBy_33 : decode cX12_goesBy 33 = .ok (.if_icmp .ne 8, 3) := by decide +kernel
theorem dX12_goesBy_36 : decode cX12_goesBy 36 = .ok (.iload 4, 2) := by decide +kernel
theorem dX12_goesBy_38 : decode cX12_goesBy 38 = .ok (.goto 4, 3) := by decide +kernel
theorem dX12_goesBy_41 : decode cX12_goesBy 41 = .ok (.iload_n 3, 1) := by decide +kernel
theorem dX12_goesBy_42 : decode cX12_goesBy 42 = .ok (.istore 7, 2) := by decide +kernel
theorem dX12_goesBy_44 : decode cX12_goesBy 44 = .ok (.aload_n 0, 1) := by decide +kernel
theorem dX12_goesBy_45 : decode cX12_goesBy 45 = .ok (.getfield 44, 3) := by decide +kernel
theorem dX12_goesBy_48 : decode cX12_goesBy 48 = .ok (.iload 6, 2) := by decide +kernel
theorem dX12_goesBy_50 : decode cX12_goesBy 50 = .ok (.iaload, 1) := by decide +kernel
theorem dX12_goesBy_51 : decode cX12_goesBy 51 = .ok (.ifCond .ne 22, 3) := by decide +kernel
theorem dX12_goesBy_54 : decode cX12_goesBy 54 = .ok (.aload_n 0, 1) := by decide +kernel
theorem dX12_goesBy_55 : decode cX12_goesBy 55 = .ok (.getfield 44, 3) := by decide +kernel
theorem dX12_goesBy_58 : decode cX12_goesBy 58 = .ok (.iload 7, 2) := by decide +kernel
theorem dX12_goesBy_60 : decode cX12_goesBy 60 = .ok (.iaload, 1) := by decide +kernel
theorem dX12_goesBy_61 : decode cX12_goesBy 61 = .ok (.ifCond .ne 10, 3) := by decide +kernel
theorem dX12_goesBy_64 : decode cX12_goesBy 64 = .ok (.iload 6, 2) := by decide +kernel
theorem dX12_goesBy_66 : decode cX12_goesBy 66 = .ok (.iload 4, 2) := by decide +kernel
theorem dX12_goesBy_68 : decode cX12_goesBy 68 = .ok (.if_icmp .ne 5, 3) := by decide +kernel
theorem dX12_goesBy_71 : decode cX12_goesBy 71 = .ok (.iconst 0, 1) := by decide +kernel
theorem dX12_goesBy_72 : decode cX12_goesBy 72 = .ok (.ireturn, 1) := by decide +kernel
theorem dX12_goesBy_73 : decode cX12_goesBy 73 = .ok (.aload_n 0, 1) := by decide +kernel
theorem dX12_goesBy_74 : decode cX12_goesBy 74 = .ok (.getfield 149, 3) := by decide +kernel
theorem dX12_goesBy_77 : decode cX12_goesBy 77 = .ok (.iload 5, 2) := by decide +kernel
theorem dX12_goesBy_79 : decode cX12_goesBy 79 = .ok (.aload_n 0, 1) := by decide +kernel
theorem dX12_goesBy_80 : decode cX12_goesBy 80 = .ok (.getfield 44, 3) := by decide +kernel
theorem dX12_goesBy_83 : decode cX12_goesBy 83 = .ok (.iload 6, 2) := by decide +kernel
theorem dX12_goesBy_85 : decode cX12_goesBy 85 = .ok (.iaload, 1) := by decide +kernel
theorem dX12_goesBy_86 : decode cX12_goesBy 86 = .ok (.ifCond .ne 7, 3) := by decide +kernel
theorem dX12_goesBy_89 : decode cX12_goesBy 89 = .ok (.iconst (-1), 1) := by decide +kernel
theorem dX12_goesBy_90 : decode cX12_goesBy 90 = .ok (.goto 5, 3) := by decide +kernel
theorem dX12_goesBy_93 : decode cX12_goesBy 93 = .ok (.iload 6, 2) := by decide +kernel
theorem dX12_goesBy_95 : decode cX12_goesBy 95 = .ok (.iastore, 1) := by decide +kernel
theorem dX12_goesBy_96 : decode cX12_goesBy 96 = .ok (.aload_n 0, 1) := by decide +kernel
theorem dX12_goesBy_97 : decode cX12_goesBy 97 = .ok (.getfield 44, 3) := by decide +kernel
theorem dX12_goesBy_100 : decode cX12_goesBy 100 = .ok (.iload 6, 2) := by decide +kernel
theorem dX12_goesBy_102 : decode cX12_goesBy 102 = .ok (.iaload, 1) := by decide +kernel
theorem dX12_goesBy_103 : decode cX12_goesBy 103 = .ok (.ifCond .eq 9, 3) := by decide +kernel
theorem dX12_goesBy_106 : decode cX12_goesBy 106 = .ok (.aload_n 0, 1) := by decide +kernel
theorem dX12_goesBy_107 : decode cX12_goesBy 107 = .ok (.iload 6, 2) := by decide +kernel
theorem dX12_goesBy_109 : decode cX12_goesBy 109 = .ok (.invokevirtual 268, 3) := by decide +kernel
theorem dX12_goesBy_112 : decode cX12_goesBy 112 = .ok (.iinc 5 1, 3) := by decide +kernel
theorem dX12_goesBy_115 : decode cX12_goesBy 115 = .ok (.goto (-112), 3) := by decide +kernel
theorem dX12_goesBy_118 : decode cX12_goesBy 118 = .ok (.iconst 1, 1) := by decide +kernel
theorem dX12_goesBy_119 : decode cX12_goesBy 119 = .ok (.ireturn, 1) := by decide +kernel
def f_X12_goesBy_p112 (ln : Nat → Nat) (kb3 : Int32 → Int32 → Int32 → Int32 → Int32 → dr_S → Option (Int32 × dr_S)) (x1 : Int32) (x2 : Int32) (x3 : Int32) (x4 : Int32) (x5 : Int32) (s : dr_S) : Option (Int32 × dr_S) := dr_let (x5 + 1) (fun y7 => (kb3 x1 x2 x3 x4 y7 s))
def f_X12_goesBy_p95 (ln : Nat → Nat) (kb3 : Int32 → Int32 → Int32 → Int32 → Int32 → dr_S → Option (Int32 × dr_S)) (x1 : Int32) (x2 : Int32) (x3 : Int32) (x4 : Int32) (x5 : Int32) (x6 : Int32) (z0 : Int32) (z1 : Int32) (s : dr_S) : Option (Int32 × dr_S) := (dr_wr ln s 74 z1 z0).bind (fun s4 => (dr_rd ln s4 39 x6).bind (fun v5 => (if v5 = 0 then (f_X12_goesBy_p112 ln kb3 x1 x2 x3 x4 x5 s4) else dr_bndv (f_X12_one ln x6 s4) (fun s6 => (f_X12_goesBy_p112 ln kb3 x1 x2 x3 x4 x5 s6)))))
def f_X12_goesBy_p73 (ln : Nat → Nat) (kb3 : Int32 → Int32 → Int32 → Int32 → Int32 → dr_S → Option (Int32 × dr_S)) (x1 : Int32) (x2 : Int32) (x3 : Int32) (x4 : Int32) (x5 : Int32) (x6 : Int32) (s : dr_S) : Option (Int32 × dr_S) := (dr_rd ln s 39 x6).bind (fun v3 => (if v3 = 0 then (f_X12_goesBy_p95 ln kb3 x1 x2 x3 x4 x5 x6 ((-1)) x5 s) else (f_X12_goesBy_p95 ln kb3 x1 x2 x3 x4 x5 x6 x6 x5 s)))
def f_X12_goesBy_p42 (ln : Nat → Nat) (kb3 : Int32 → Int32 → Int32 → Int32 → Int32 → dr_S → Option (Int32 × dr_S)) (x1 : Int32) (x2 : Int32) (x3 : Int32) (x4 : Int32) (x5 : Int32) (x6 : Int32) (z0 : Int32) (s : dr_S) : Option (Int32 × dr_S) := (dr_rd ln s 39 x6).bind (fun v1 => (if v1 = 0 then (dr_rd ln s 39 z0).bind (fun v2 => (if v2 = 0 then (if x6 = x4 then some (0, s) else (f_X12_goesBy_p73 ln kb3 x1 x2 x3 x4 x5 x6 s)) else some (0, s))) else (f_X12_goesBy_p73 ln kb3 x1 x2 x3 x4 x5 x6 s)))
def f_X12_goesBy_p28 (ln : Nat → Nat) (kb3 : Int32 → Int32 → Int32 → Int32 → Int32 → dr_S → Option (Int32 × dr_S)) (x1 : Int32) (x2 : Int32) (x3 : Int32) (x4 : Int32) (x5 : Int32) (z0 : Int32) (s : dr_S) : Option (Int32 × dr_S) := (if z0 = x3 then (f_X12_goesBy_p42 ln kb3 x1 x2 x3 x4 x5 z0 x4 s) else (f_X12_goesBy_p42 ln kb3 x1 x2 x3 x4 x5 z0 x3 s))
def f_X12_goesBy_p3 (ln : Nat → Nat) : Nat → Int32 → Int32 → Int32 → Int32 → Int32 → dr_S → Option (Int32 × dr_S)
  | 0, _, _, _, _, _, _ => none
  | n + 1, x1, x2, x3, x4, x5, s => (if x2 ≤ x5 then some (1, s) else (if ((x1 >>> (((x2 - 1) - x5) &&& 31)) &&& 1) = 0 then (f_X12_goesBy_p28 ln (f_X12_goesBy_p3 ln n) x1 x2 x3 x4 x5 x3 s) else (f_X12_goesBy_p28 ln (f_X12_goesBy_p3 ln n) x1 x2 x3 x4 x5 x4 s)))
def f_X12_goesBy (ln : Nat → Nat) (x1 : Int32) (x2 : Int32) (x3 : Int32) (x4 : Int32) (s : dr_S) : Option (Int32 × dr_S) := (f_X12_goesBy_p3 ln dr_N x1 x2 x3 x4 0 s)
section
variable {p : Program} {l : Launch} {e : Env} {s0 : State} {m : MethodId} {args : Array Value} {below : List Frame} {meth : Method} {c : Code} {A : Nat → Prop} {D : va_G} {cI cZ : ClassId} {ad ln : Nat → Nat} {L : List Nat}
set_option maxHeartbeats 4000000 in
set_option maxRecDepth 20000 in
theorem w_X12_goesBy_p112 {kb3 : Int32 → Int32 → Int32 → Int32 → Int32 → dr_S → Option (Int32 × dr_S)} (E : dr_E p (dr_rm 6) s0 m args meth c 0 0 A s0.heap D cI cZ ad L cX12_goesBy 8 RX12 (some .boolean)) (hap : dr_ap ad L) (hN : ∀ x ∈ nd_12, x ∈ L) (hkb3 : ∀ (x1 : Int32) (x2 : Int32) (x3 : Int32) (x4 : Int32) (x5 : Int32) (s : dr_S), dr_G p l e (dr_rm 6) s0 m args below meth c 0 0 A s0.heap D cI cZ ad ln L 8 (dr_Zi D cI cZ ad ln L A below args s0 0 0) 3 [(0, .ref (ad 12)), (1, .int x1), (2, .int x2), (3, .int x3), (4, .int x4), (5, .int x5)] [] s (kb3 x1 x2 x3 x4 x5 s)) : ∀ (x1 : Int32) (x2 : Int32) (x3 : Int32) (x4 : Int32) (x5 : Int32) (s : dr_S), dr_G p l e (dr_rm 6) s0 m args below meth c 0 0 A s0.heap D cI cZ ad ln L 8 (dr_Zi D cI cZ ad ln L A below args s0 0 0) 112 [(0, .ref (ad 12)), (1, .int x1), (2, .int x2), (3, .int x3), (4, .int x4), (5, .int x5)] [] s (f_X12_goesBy_p112 ln kb3 x1 x2 x3 x4 x5 s) := by
  intro x1 x2 x3 x4 x5 s
  unfold f_X12_goesBy_p112
  refine g_iinc E (lv' := []) (lv'' := fun y7 => [(5, .int y7), (0, .ref (ad 12)), (1, .int x1), (2, .int x2), (3, .int x3), (4, .int x4)]) (v := 1) dX12_goesBy_112 5 rfl (by decide) (by decide) (fun _ => rfl) (fun y7 => ?_)
  refine g_goto E 3 dX12_goesBy_115 (by decide) ?_
  refine g_sub [1, 2, 3, 4, 5, 0] rfl ?_
  exact hkb3 x1 x2 x3 x4 y7 s
set_option maxHeartbeats 4000000 in
set_option maxRecDepth 20000 in
theorem w_X12_goesBy_p95 {kb3 : Int32 → Int32 → Int32 → Int32 → Int32 → dr_S → Option (Int32 × dr_S)} (E : dr_E p (dr_rm 6) s0 m args meth c 0 0 A s0.heap D cI cZ ad L cX12_goesBy 8 RX12 (some .boolean)) (hap : dr_ap ad L) (hN : ∀ x ∈ nd_12, x ∈ L) (hkb3 : ∀ (x1 : Int32) (x2 : Int32) (x3 : Int32) (x4 : Int32) (x5 : Int32) (s : dr_S), dr_G p l e (dr_rm 6) s0 m args below meth c 0 0 A s0.heap D cI cZ ad ln L 8 (dr_Zi D cI cZ ad ln L A below args s0 0 0) 3 [(0, .ref (ad 12)), (1, .int x1), (2, .int x2), (3, .int x3), (4, .int x4), (5, .int x5)] [] s (kb3 x1 x2 x3 x4 x5 s)) : ∀ (x1 : Int32) (x2 : Int32) (x3 : Int32) (x4 : Int32) (x5 : Int32) (x6 : Int32) (z0 : Int32) (z1 : Int32) (s : dr_S), dr_G p l e (dr_rm 6) s0 m args below meth c 0 0 A s0.heap D cI cZ ad ln L 8 (dr_Zi D cI cZ ad ln L A below args s0 0 0) 95 [(0, .ref (ad 12)), (1, .int x1), (2, .int x2), (3, .int x3), (4, .int x4), (5, .int x5), (6, .int x6)] [.int z0, .int z1, .ref (ad 74)] s (f_X12_goesBy_p95 ln kb3 x1 x2 x3 x4 x5 x6 z0 z1 s) := by
  intro x1 x2 x3 x4 x5 x6 z0 z1 s
  unfold f_X12_goesBy_p95
  refine g_iastore E (hN 74 (by decide)) (by decide) rfl dX12_goesBy_95 (fun s4 => ?_)
  refine g_aload_n E dX12_goesBy_96 0 rfl ?_
  refine gg_12_44 E (hN 12 (by decide)) dX12_goesBy_97 ?_
  refine g_iload E dX12_goesBy_100 6 rfl ?_
  refine g_iaload E (hN 39 (by decide)) (by decide) rfl dX12_goesBy_102 (fun v5 => ?_)
  refine g_if_eq E 112 dX12_goesBy_103 (by decide) ?_ ?_
  · refine g_sub [0, 1, 2, 3, 4, 5] rfl ?_
    exact w_X12_goesBy_p112 E hap hN hkb3 x1 x2 x3 x4 x5 s4
  · refine g_aload_n E dX12_goesBy_106 0 rfl ?_
    refine g_iload E dX12_goesBy_107 6 rfl ?_
    refine g_cVv E [.int x6] rfl (c_X12_one hap hN x6 s4) (hN 12 (by decide)) (by decide) rfl rfl mi_X12_one msl_X12_one mw_X12_one rfl ml_12_268 ⟨Nat.le_of_ble_eq_true rfl, Nat.le_of_ble_eq_true rfl⟩ (Nat.le_of_ble_eq_true rfl) dX12_goesBy_109 (fun s6 => ?_)
    refine g_sub [0, 1, 2, 3, 4, 5] rfl ?_
    exact w_X12_goesBy_p112 E hap hN hkb3 x1 x2 x3 x4 x5 s6
set_option maxHeartbeats 4000000 in
set_option maxRecDepth 20000 in
theorem w_X12_goesBy_p73 {kb3 : Int32 → Int32 → Int32 → Int32 → Int32 → dr_S → Option (Int32 × dr_S)} (E : dr_E p (dr_rm 6) s0 m args meth c 0 0 A s0.heap D cI cZ ad L cX12_goesBy 8 RX12 (some .boolean)) (hap : dr_ap ad L) (hN : ∀ x ∈ nd_12, x ∈ L) (hkb3 : ∀ (x1 : Int32) (x2 : Int32) (x3 : Int32) (x4 : Int32) (x5 : Int32) (s : dr_S), dr_G p l e (dr_rm 6) s0 m args below meth c 0 0 A s0.heap D cI cZ ad ln L 8 (dr_Zi D cI cZ ad ln L A below args s0 0 0) 3 [(0, .ref (ad 12)), (1, .int x1), (2, .int x2), (3, .int x3), (4, .int x4), (5, .int x5)] [] s (kb3 x1 x2 x3 x4 x5 s)) : ∀ (x1 : Int32) (x2 : Int32) (x3 : Int32) (x4 : Int32) (x5 : Int32) (x6 : Int32) (s : dr_S), dr_G p l e (dr_rm 6) s0 m args below meth c 0 0 A s0.heap D cI cZ ad ln L 8 (dr_Zi D cI cZ ad ln L A below args s0 0 0) 73 [(0, .ref (ad 12)), (1, .int x1), (2, .int x2), (3, .int x3), (4, .int x4), (5, .int x5), (6, .int x6)] [] s (f_X12_goesBy_p73 ln kb3 x1 x2 x3 x4 x5 x6 s) := by
  intro x1 x2 x3 x4 x5 x6 s
  unfold f_X12_goesBy_p73
  refine g_aload_n E dX12_goesBy_73 0 rfl ?_
  refine gg_12_149 E (hN 12 (by decide)) dX12_goesBy_74 ?_
  refine g_iload E dX12_goesBy_77 5 rfl ?_
  refine g_aload_n E dX12_goesBy_79 0 rfl ?_
  refine gg_12_44 E (hN 12 (by decide)) dX12_goesBy_80 ?_
  refine g_iload E dX12_goesBy_83 6 rfl ?_
  refine g_iaload E (hN 39 (by decide)) (by decide) rfl dX12_goesBy_85 (fun v3 => ?_)
  refine g_if_ne E 93 dX12_goesBy_86 (by decide) ?_ ?_
  · refine g_iload E dX12_goesBy_93 6 rfl ?_
    refine g_sub [0, 1, 2, 3, 4, 5, 6] rfl ?_
    exact w_X12_goesBy_p95 E hap hN hkb3 x1 x2 x3 x4 x5 x6 x6 x5 s
  · refine g_iconst E (v := (-1)) dX12_goesBy_89 (by decide) ?_
    refine g_goto E 95 dX12_goesBy_90 (by decide) ?_
    refine g_sub [0, 1, 2, 3, 4, 5, 6] rfl ?_
    exact w_X12_goesBy_p95 E hap hN hkb3 x1 x2 x3 x4 x5 x6 ((-1)) x5 s
set_option maxHeartbeats 4000000 in
set_option maxRecDepth 20000 in
theorem w_X12_goesBy_p42 {kb3 : Int32 → Int32 → Int32 → Int32 → Int32 → dr_S → Option (Int32 × dr_S)} (E : dr_E p (dr_rm 6) s0 m args meth c 0 0 A s0.heap D cI cZ ad L cX12_goesBy 8 RX12 (some .boolean)) (hap : dr_ap ad L) (hN : ∀ x ∈ nd_12, x ∈ L) (hkb3 : ∀ (x1 : Int32) (x2 : Int32) (x3 : Int32) (x4 : Int32) (x5 : Int32) (s : dr_S), dr_G p l e (dr_rm 6) s0 m args below meth c 0 0 A s0.heap D cI cZ ad ln L 8 (dr_Zi D cI cZ ad ln L A below args s0 0 0) 3 [(0, .ref (ad 12)), (1, .int x1), (2, .int x2), (3, .int x3), (4, .int x4), (5, .int x5)] [] s (kb3 x1 x2 x3 x4 x5 s)) : ∀ (x1 : Int32) (x2 : Int32) (x3 : Int32) (x4 : Int32) (x5 : Int32) (x6 : Int32) (z0 : Int32) (s : dr_S), dr_G p l e (dr_rm 6) s0 m args below meth c 0 0 A s0.heap D cI cZ ad ln L 8 (dr_Zi D cI cZ ad ln L A below args s0 0 0) 42 [(0, .ref (ad 12)), (1, .int x1), (2, .int x2), (3, .int x3), (4, .int x4), (5, .int x5), (6, .int x6)] [.int z0] s (f_X12_goesBy_p42 ln kb3 x1 x2 x3 x4 x5 x6 z0 s) := by
  intro x1 x2 x3 x4 x5 x6 z0 s
  unfold f_X12_goesBy_p42
  refine g_istore E (lv' := [(7, .int z0), (0, .ref (ad 12)), (1, .int x1), (2, .int x2), (3, .int x3), (4, .int x4), (5, .int x5), (6, .int x6)]) dX12_goesBy_42 (by decide) rfl ?_
  refine g_aload_n E dX12_goesBy_44 1 rfl ?_
  refine gg_12_44 E (hN 12 (by decide)) dX12_goesBy_45 ?_
  refine g_iload E dX12_goesBy_48 7 rfl ?_
  refine g_iaload E (hN 39 (by decide)) (by decide) rfl dX12_goesBy_50 (fun v1 => ?_)
  refine g_if_ne E 73 dX12_goesBy_51 (by decide) ?_ ?_
  · refine g_sub [1, 2, 3, 4, 5, 6, 7] rfl ?_
    exact w_X12_goesBy_p73 E hap hN hkb3 x1 x2 x3 x4 x5 x6 s
  · refine g_aload_n E dX12_goesBy_54 1 rfl ?_
    refine gg_12_44 E (hN 12 (by decide)) dX12_goesBy_55 ?_
    refine g_iload E dX12_goesBy_58 0 rfl ?_
    refine g_iaload E (hN 39 (by decide)) (by decide) rfl dX12_goesBy_60 (fun v2 => ?_)
    refine g_if_ne E 71 dX12_goesBy_61 (by decide) ?_ ?_
    · refine g_iconst E (v := 0) dX12_goesBy_71 (by decide) ?_
      exact g_zret E dX12_goesBy_72 (Or.inl rfl)
    · refine g_iload E dX12_goesBy_64 7 rfl ?_
      refine g_iload E dX12_goesBy_66 5 rfl ?_
      refine g_icmp_ne E 73 dX12_goesBy_68 (by decide) ?_ ?_
      · refine g_sub [1, 2, 3, 4, 5, 6, 7] rfl ?_
        exact w_X12_goesBy_p73 E hap hN hkb3 x1 x2 x3 x4 x5 x6 s
      · refine g_iconst E (v := 0) dX12_goesBy_71 (by decide) ?_
        exact g_zret E dX12_goesBy_72 (Or.inl rfl)
set_option maxHeartbeats 4000000 in
set_option maxRecDepth 20000 in
theorem w_X12_goesBy_p28 {kb3 : Int32 → Int32 → Int32 → Int32 → Int32 → dr_S → Option (Int32 × dr_S)} (E : dr_E p (dr_rm 6) s0 m args meth c 0 0 A s0.heap D cI cZ ad L cX12_goesBy 8 RX12 (some .boolean)) (hap : dr_ap ad L) (hN : ∀ x ∈ nd_12, x ∈ L) (hkb3 : ∀ (x1 : Int32) (x2 : Int32) (x3 : Int32) (x4 : Int32) (x5 : Int32) (s : dr_S), dr_G p l e (dr_rm 6) s0 m args below meth c 0 0 A s0.heap D cI cZ ad ln L 8 (dr_Zi D cI cZ ad ln L A below args s0 0 0) 3 [(0, .ref (ad 12)), (1, .int x1), (2, .int x2), (3, .int x3), (4, .int x4), (5, .int x5)] [] s (kb3 x1 x2 x3 x4 x5 s)) : ∀ (x1 : Int32) (x2 : Int32) (x3 : Int32) (x4 : Int32) (x5 : Int32) (z0 : Int32) (s : dr_S), dr_G p l e (dr_rm 6) s0 m args below meth c 0 0 A s0.heap D cI cZ ad ln L 8 (dr_Zi D cI cZ ad ln L A below args s0 0 0) 28 [(0, .ref (ad 12)), (1, .int x1), (2, .int x2), (3, .int x3), (4, .int x4), (5, .int x5)] [.int z0] s (f_X12_goesBy_p28 ln kb3 x1 x2 x3 x4 x5 z0 s) := by
  intro x1 x2 x3 x4 x5 z0 s
  unfold f_X12_goesBy_p28
  refine g_istore E (lv' := [(6, .int z0), (0, .ref (ad 12)), (1, .int x1), (2, .int x2), (3, .int x3), (4, .int x4), (5, .int x5)]) dX12_goesBy_28 (by decide) rfl ?_
  refine g_iload E dX12_goesBy_30 0 rfl ?_
  refine g_iload_n E dX12_goesBy_32 4 rfl ?_
  refine g_icmp_ne E 41 dX12_goesBy_33 (by decide) ?_ ?_
  · refine g_iload_n E dX12_goesBy_41 4 rfl ?_
    refine g_sub [1, 2, 3, 4, 5, 6, 0] rfl ?_
    exact w_X12_goesBy_p42 E hap hN hkb3 x1 x2 x3 x4 x5 z0 x3 s
  · refine g_iload E dX12_goesBy_36 5 rfl ?_
    refine g_goto E 42 dX12_goesBy_38 (by decide) ?_
    refine g_sub [1, 2, 3, 4, 5, 6, 0] rfl ?_
    exact w_X12_goesBy_p42 E hap hN hkb3 x1 x2 x3 x4 x5 z0 x4 s
set_option maxHeartbeats 4000000 in
set_option maxRecDepth 20000 in
theorem w_X12_goesBy_p3 (E : dr_E p (dr_rm 6) s0 m args meth c 0 0 A s0.heap D cI cZ ad L cX12_goesBy 8 RX12 (some .boolean)) (hap : dr_ap ad L) (hN : ∀ x ∈ nd_12, x ∈ L) : ∀ (n : Nat) (x1 : Int32) (x2 : Int32) (x3 : Int32) (x4 : Int32) (x5 : Int32) (s : dr_S), dr_G p l e (dr_rm 6) s0 m args below meth c 0 0 A s0.heap D cI cZ ad ln L 8 (dr_Zi D cI cZ ad ln L A below args s0 0 0) 3 [(0, .ref (ad 12)), (1, .int x1), (2, .int x2), (3, .int x3), (4, .int x4), (5, .int x5)] [] s (f_X12_goesBy_p3 ln n x1 x2 x3 x4 x5 s) := by
  intro n
  induction n with
  | zero =>
    intro x1 x2 x3 x4 x5 s
    rw [f_X12_goesBy_p3]
    exact g_none
  | succ n hkb3 =>
    intro x1 x2 x3 x4 x5 s
    rw [f_X12_goesBy_p3]
    refine g_iload E dX12_goesBy_3 5 rfl ?_
    refine g_iload_n E dX12_goesBy_5 2 rfl ?_
    refine g_icmp_ge E 118 dX12_goesBy_6 (by decide) ?_ ?_
    · refine g_iconst E (v := 1) dX12_goesBy_118 (by decide) ?_
      exact g_zret E dX12_goesBy_119 (Or.inr rfl)
    · refine g_iload_n E dX12_goesBy_9 1 rfl ?_
      refine g_iload_n E dX12_goesBy_10 2 rfl ?_
      refine g_iconst E (v := 1) dX12_goesBy_11 (by decide) ?_
      refine g_isub E dX12_goesBy_12 ?_
      refine g_iload E dX12_goesBy_13 5 rfl ?_
      refine g_isub E dX12_goesBy_15 ?_
      refine g_ishr E dX12_goesBy_16 ?_
      refine g_iconst E (v := 1) dX12_goesBy_17 (by decide) ?_
      refine g_iand E dX12_goesBy_18 ?_
      refine g_if_ne E 26 dX12_goesBy_19 (by decide) ?_ ?_
      · refine g_iload E dX12_goesBy_26 4 rfl ?_
        refine g_sub [0, 1, 2, 3, 4, 5] rfl ?_
        exact w_X12_goesBy_p28 E hap hN hkb3 x1 x2 x3 x4 x5 x4 s
      · refine g_iload_n E dX12_goesBy_22 3 rfl ?_
        refine g_goto E 28 dX12_goesBy_23 (by decide) ?_
        refine g_sub [0, 1, 2, 3, 4, 5] rfl ?_
        exact w_X12_goesBy_p28 E hap hN hkb3 x1 x2 x3 x4 x5 x3 s
set_option maxHeartbeats 4000000 in
set_option maxRecDepth 20000 in
theorem c_X12_goesBy (hap : dr_ap ad L) (hN : ∀ x ∈ nd_12, x ∈ L) (x1 : Int32) (x2 : Int32) (x3 : Int32) (x4 : Int32) (s : dr_S) : dr_Mi l D cI cZ ad ln L yX12_goesBy cX12_goesBy 8 (some .boolean) 6 [.ref (ad 12), .int x1, .int x2, .int x3, .int x4] s (f_X12_goesBy ln x1 x2 x3 x4 s) := by
  refine dr_meti (own := RX12) (by decide) rfl (Nat.le_of_ble_eq_true rfl) hap ?_
  intro p e s0 m args below meth c A E
  unfold f_X12_goesBy
  refine g_eqL (lv' := [(0, .ref (ad 12)), (1, .int x1), (2, .int x2), (3, .int x3), (4, .int x4)]) rfl ?_
  refine g_iconst E (v := 0) dX12_goesBy_0 (by decide) ?_
  refine g_istore E (lv' := [(5, .int 0), (0, .ref (ad 12)), (1, .int x1), (2, .int x2), (3, .int x3), (4, .int x4)]) dX12_goesBy_1 (by decide) rfl ?_
  refine g_sub [1, 2, 3, 4, 5, 0] rfl ?_
  exact w_X12_goesBy_p3 E hap hN dr_N x1 x2 x3 x4 0 s
end

theorem dX12_found_0 : decode cX12_found 0 = .ok (.iload_n 1, 1) := by decide +kernel
theorem dX12_found_1 : decode cX12_found 1 = .ok (.iconst 1, 1) := by decide +kernel
theorem dX12_found_2 : decode cX12_found 2 = .ok (.bipush 8, 2) := by decide +kernel
theorem dX12_found_4 : decode cX12_found 4 = .ok (.invokestatic 160, 3) := by decide +kernel
theorem dX12_found_7 : decode cX12_found 7 = .ok (.ifCond .eq 21, 3) := by decide +kernel
theorem dX12_found_10 : decode cX12_found 10 = .ok (.aload_n 0, 1) := by decide +kernel
theorem dX12_found_11 : decode cX12_found 11 = .ok (.invokevirtual 307, 3) := by decide +kernel
theorem dX12_found_14 : decode cX12_found 14 = .ok (.iconst 2, 1) := by decide +kernel
theorem dX12_found_15 : decode cX12_found 15 = .ok (.if_icmp .ne 13, 3) := by decide +kernel
theorem dX12_found_18 : decode cX12_found 18 = .ok (.iload_n 2, 1) := by decide +kernel
theorem dX12_found_19 : decode cX12_found 19 = .ok (.iconst (-1), 1) := by decide +kernel
theorem dX12_found_20 : decode cX12_found 20 = .ok (.if_icmp .lt 8, 3) := by decide +kernel
theorem dX12_found_23 : decode cX12_found 23 = .ok (.iload_n 2, 1) := by decide +kernel
theorem dX12_found_24 : decode cX12_found 24 = .ok (.iload_n 1, 1) := by decide +kernel
theorem dX12_found_25 : decode cX12_found 25 = .ok (.if_icmp .lt 5, 3) := by decide +kernel
theorem dX12_found_28 : decode cX12_found 28 = .ok (.iconst (-1), 1) := by decide +kernel
theorem dX12_found_29 : decode cX12_found 29 = .ok (.ireturn, 1) := by decide +kernel
theorem dX12_found_30 : decode cX12_found 30 = .ok (.iconst 0, 1) := by decide +kernel
theorem dX12_found_31 : decode cX12_found 31 = .ok (.istore_n 3, 1) := by decide +kernel
theorem dX12_found_32 : decode cX12_found 32 = .ok (.aload_n 0, 1) := by decide +kernel
theorem dX12_found_33 : decode cX12_found 33 = .ok (.getfield 44, 3) := by decide +kernel
theorem dX12_found_36 : decode cX12_found 36 = .ok (.iload_n 3, 1) := by decide +kernel
theorem dX12_found_37 : decode cX12_found 37 = .ok (.iaload, 1) := by decide +kernel
theorem dX12_found_38 : decode cX12_found 38 = .ok (.ifCond .ne 9, 3) := by decide +kernel
theorem dX12_found_41 : decode cX12_found 41 = .ok (.iinc 3 1, 3) := by decide +kernel
theorem dX12_found_44 : decode cX12_found 44 = .ok (.goto (-12), 3) := by decide +kernel
theorem dX12_found_47 : decode cX12_found 47 = .ok (.iload_n 3, 1) := by decide +kernel
theorem dX12_found_48 : decode cX12_found 48 = .ok (.iconst 1, 1) := by decide +kernel
theorem dX12_found_49 : decode cX12_found 49 = .ok (.iadd, 1) := by decide +kernel
theorem dX12_found_50 : decode cX12_found 50 = .ok (.istore 4, 2) := by decide +kernel
theorem dX12_found_52 : decode cX12_found 52 = .ok (.aload_n 0, 1) := by decide +kernel
theorem dX12_found_53 : decode cX12_found 53 = .ok (.getfield 44, 3) := by decide +kernel
theorem dX12_found_56 : decode cX12_found 56 = .ok (.iload 4, 2) := by decide +kernel
theorem dX12_found_58 : decode cX12_found 58 = .ok (.iaload, 1) := by decide +kernel
theorem dX12_found_59 : decode cX12_found 59 = .ok (.ifCond .ne 9, 3) := by decide +kernel
theorem dX12_found_62 : decode cX12_found 62 = .ok (.iinc 4 1, 3) := by decide +kernel
theorem dX12_found_65 : decode cX12_found 65 = .ok (.goto (-13), 3) := by decide +kernel
theorem dX12_found_68 : decode cX12_found 68 = .ok (.aload_n 0, 1) := by decide +kernel
theorem dX12_found_69 : decode cX12_found 69 = .ok (.getfield 80, 3) := by decide +kernel
theorem dX12_found_72 : decode cX12_found 72 = .ok (.aload_n 0, 1) := by decide +kernel
theorem dX12_found_73 : decode cX12_found 73 = .ok (.getfield 50, 3) := by decide +kernel
theorem dX12_found_76 : decode cX12_found 76 = .ok (.iload_n 3, 1) := by decide +kernel
theorem dX12_found_77 : decode cX12_found 77 = .ok (.iaload, 1) := by decide +kernel
theorem dX12_found_78 : decode cX12_found 78 = .ok (.iaload, 1) := by decide +kernel
theorem dX12_found_79 : decode cX12_found 79 = .ok (.istore 5, 2) := by decide +kernel
theorem dX12_found_81 : decode cX12_found 81 = .ok (.aload_n 0, 1) := by decide +kernel
theorem dX12_found_82 : decode cX12_found 82 = .ok (.getfield 80, 3) := by decide +kernel
theorem dX12_found_85 : decode cX12_found 85 = .ok (.aload_n 0, 1) := by decide +kernel
theorem dX12_found_86 : decode cX12_found 86 = .ok (.getfield 50, 3) := by decide +kernel
theorem dX12_found_89 : decode cX12_found 89 = .ok (.iload 4, 2) := by decide +kernel
theorem dX12_found_91 : decode cX12_found 91 = .ok (.iaload, 1) := by decide +kernel
theorem dX12_found_92 : decode cX12_found 92 = .ok (.iaload, 1) := by decide +kernel
theorem dX12_found_93 : decode cX12_found 93 = .ok (.istore 6, 2) := by decide +kernel
theorem dX12_found_95 : decode cX12_found 95 = .ok (.iconst 0, 1) := by decide +kernel
theorem dX12_found_96 : decode cX12_found 96 = .ok (.istore 7, 2) := by decide +kernel
theorem dX12_found_98 : decode cX12_found 98 = .ok (.aload_n 0, 1) := by decide +kernel
theorem dX12_found_99 : decode cX12_found 99 = .ok (.invokevirtual 310, 3) := by decide +kernel
theorem dX12_found_102 : decode cX12_found 102 = .ok (.iconst 0, 1) := by decide +kernel
theorem dX12_found_103 : decode cX12_found 103 = .ok (.istore 8, 2) := by decide +kernel
theorem dX12_found_105 : decode cX12_found 105 = .ok (.iload 8, 2) := by decide +kernel
theorem dX12_found_107 : decode cX12_found 107 = .ok (.iconst 1, 1) := by decide +kernel
theorem dX12_found_108 : decode cX12_found 108 = .ok (.iload_n 1, 1) := by decide +kernel
theorem dX12_found_109 : decode cX12_found 109 = .ok (.ishl, 1) := by decide +kernel
theorem dX12_found_110 : decode cX12_found 110 = .ok (.if_icmp .ge 64, 3) := by decide +kernel
theorem dX12_found_113 : decode cX12_found 113 = .ok (.iload 7, 2) := by decide +kernel
theorem dX12_found_115 : decode cX12_found 115 = .ok (.ifCond .ne 59, 3) := by decide +kernel
theorem dX12_found_118 : decode cX12_found 118 = .ok (.aload_n 0, 1) := by decide +kernel
theorem dX12_found_119 : decode cX12_found 119 = .ok (.iload 8, 2) := by decide +kernel
theorem dX12_found_121 : decode cX12_found 121 = .ok (.iload_n 1, 1) := by decide +kernel
theorem dX12_found_122 : decode cX12_found 122 = .ok (.iload_n 3, 1) := by decide +kernel
theorem dX12_found_123 : decode cX12_found 123 = .ok (.iload 4, 2) := by decide +kernel
theorem dX12_found_125 : decode cX12_found 125 = .ok (.invokevirtual 313, 3) := by decide +kernel
theorem dX12_found_128 : decode cX12_found 128 = .ok (.ifCond .eq 33, 3) := by decide +kernel
theorem dX12_found_131 : decode cX12_found 131 = .ok (.aload_n 0, 1) := by decide +kernel
theorem dX12_found_132 : decode cX12_found 132 = .ok (.invokevirtual 317, 3) := by decide +kernel
theorem dX12_found_135 : decode cX12_found 135 = .ok (.iconst (-1), 1) := by decide +kernel
theorem dX12_found_136 : decode cX12_found 136 = .ok (.if_icmp .ne 21, 3) := by decide +kernel
theorem dX12_found_139 : decode cX12_found 139 = .ok (.aload_n 0, 1) := by decide +kernel
theorem dX12_found_140 : decode cX12_found 140 = .ok (.iload 5, 2) := by decide +kernel
theorem dX12_found_142 : decode cX12_found 142 = .ok (.invokevirtual 320, 3) := by decide +kernel
theorem dX12_found_145 : decode cX12_found 145 = .ok (.ifCond .ne 12, 3) := by decide +kernel
theorem dX12_found_148 : decode cX12_found 148 = .ok (.aload_n 0, 1) := by decide +kernel
theorem dX12_found_149 : decode cX12_found 149 = .ok (.iload 6, 2) := by decide +kernel
theorem dX12_found_151 : decode cX12_found 151 = .ok (.invokevirtual 320, 3) := by decide +kernel
theorem dX12_found_154 : decode cX12_found 154 = .ok (.ifCond .eq 7, 3) := by decide +kernel
theorem dX12_found_157 : decode cX12_found 157 = .ok (.iconst 1, 1) := by decide +kernel
theorem dX12_found_158 : decode cX12_found 158 = .ok (.goto 4, 3) := by decide +kernel
theorem dX12_found_161 : decode cX12_found 161 = .ok (.iconst 0, 1) := by decide +kernel
theorem dX12_found_162 : decode cX12_found 162 = .ok (.istore 7, 2) := by decide +kernel
theorem dX12_found_164 : decode cX12_found 164 = .ok (.aload_n 0, 1) := by decide +kernel
theorem dX12_found_165 : decode cX12_found 165 = .ok (.invokevirtual 323, 3) := by decide +kernel
theorem dX12_found_168 : decode cX12_found 168 = .ok (.iinc 8 1, 3) := by decide +kernel
theorem dX12_found_171 : decode cX12_found 171 = .ok (.goto (-66), 3) := by decide +kernel
theorem dX12_found_174 : decode cX12_found 174 = .ok (.iload 7, 2) := by decide +kernel
theorem dX12_found_176 : decode cX12_found 176 = .ok (.ifCond .ne 7, 3) := by decide +kernel
theorem dX12_found_179 : decode cX12_found 179 = .ok (.iconst (-1), 1) := by decide +kernel
theorem dX12_found_180 : decode cX12_found 180 = .ok (.goto 18, 3) := by decide +kernel
theorem dX12_found_183 : decode cX12_found 183 = .ok (.iload_n 2, 1) := by decide +kernel
theorem dX12_found_184 : decode cX12_found 184 = .ok (.iconst (-1), 1) := by decide +kernel
theorem dX12_found_185 : decode cX12_found 185 = .ok (.if_icmp .ne 7, 3) := by decide +kernel
theorem dX12_found_188 : decode cX12_found 188 = .ok (.iconst 1, 1) := by decide +kernel
theorem dX12_found_189 : decode cX12_found 189 = .ok (.goto 9, 3) := by decide +kernel
theorem dX12_found_192 : decode cX12_found 192 = .ok (.aload_n 0, 1) := by decide +kernel
theorem dX12_found_193 : decode cX12_found 193 = .ok (.getfield 149, 3) := by decide +kernel
theorem dX12_found_196 : decode cX12_found 196 = .ok (.iload_n 2, 1) := by decide +kernel
theorem dX12_found_197 : decode cX12_found 197 = .ok (.iaload, 1) := by decide +kernel
theorem dX12_found_198 : decode cX12_found 198 = .ok (.ireturn, 1) := by decide +kernel
def f_X12_found_p174 (ln : Nat → Nat) (x2 : Int32) (x7 : Int32) (s : dr_S) : Option (Int32 × dr_S) := (if x7 = 0 then some ((-1), s) else (if x2 = (-1) then some (1, s) else (dr_rd ln s 74 x2).bind (fun v25 => some (v25, s))))
def f_X12_found_p162 (ln : Nat → Nat) (kb105 : Int32 → Int32 → Int32 → Int32 → Int32 → Int32 → Int32 → Int32 → dr_S → Option (Int32 × dr_S)) (x1 : Int32) (x2 : Int32) (x3 : Int32) (x4 : Int32) (x5 : Int32) (x6 : Int32) (x8 : Int32) (z0 : Int32) (s : dr_S) : Option (Int32 × dr_S) := dr_bndv (f_X12_putsBack ln  s) (fun s23 => dr_let (x8 + 1) (fun y24 => (kb105 x1 x2 x3 x4 x5 x6 z0 y24 s23)))
def f_X12_found_p161 (ln : Nat → Nat) (kb105 : Int32 → Int32 → Int32 → Int32 → Int32 → Int32 → Int32 → Int32 → dr_S → Option (Int32 × dr_S)) (x1 : Int32) (x2 : Int32) (x3 : Int32) (x4 : Int32) (x5 : Int32) (x6 : Int32) (x8 : Int32) (s : dr_S) : Option (Int32 × dr_S) := (f_X12_found_p162 ln kb105 x1 x2 x3 x4 x5 x6 x8 0 s)
def f_X12_found_p157 (ln : Nat → Nat) (kb105 : Int32 → Int32 → Int32 → Int32 → Int32 → Int32 → Int32 → Int32 → dr_S → Option (Int32 × dr_S)) (x1 : Int32) (x2 : Int32) (x3 : Int32) (x4 : Int32) (x5 : Int32) (x6 : Int32) (x8 : Int32) (s : dr_S) : Option (Int32 × dr_S) := (f_X12_found_p162 ln kb105 x1 x2 x3 x4 x5 x6 x8 1 s)
def f_X12_found_p105 (ln : Nat → Nat) : Nat → Int32 → Int32 → Int32 → Int32 → Int32 → Int32 → Int32 → Int32 → dr_S → Option (Int32 × dr_S)
  | 0, _, _, _, _, _, _, _, _, _ => none
  | n + 1, x1, x2, x3, x4, x5, x6, x7, x8, s => (if (1 <<< (x1 &&& 31)) ≤ x8 then (f_X12_found_p174 ln x2 x7 s) else (if x7 = 0 then dr_bnd (f_X12_goesBy ln x8 x1 x3 x4 s) (fun r16 s15 => (if r16 = 0 then (f_X12_found_p161 ln (f_X12_found_p105 ln n) x1 x2 x3 x4 x5 x6 x8 s15) else dr_bnd (f_X12_shape ln  s15) (fun r18 s17 => (if r18 = (-1) then dr_bnd (f_X12_isBroken ln x5 s17) (fun r20 s19 => (if r20 = 0 then dr_bnd (f_X12_isBroken ln x6 s19) (fun r22 s21 => (if r22 = 0 then (f_X12_found_p161 ln (f_X12_found_p105 ln n) x1 x2 x3 x4 x5 x6 x8 s21) else (f_X12_found_p157 ln (f_X12_found_p105 ln n) x1 x2 x3 x4 x5 x6 x8 s21))) else (f_X12_found_p157 ln (f_X12_found_p105 ln n) x1 x2 x3 x4 x5 x6 x8 s19))) else (f_X12_found_p157 ln (f_X12_found_p105 ln n) x1 x2 x3 x4 x5 x6 x8 s17))))) else (f_X12_found_p174 ln x2 x7 s)))
def f_X12_found_p52 (ln : Nat → Nat) : Nat → Int32 → Int32 → Int32 → Int32 → dr_S → Option (Int32 × dr_S)
  | 0, _, _, _, _, _ => none
  | n + 1, x1, x2, x3, x4, s => (dr_rd ln s 39 x4).bind (fun v8 => (if v8 = 0 then dr_let (x4 + 1) (fun y14 => (f_X12_found_p52 ln n x1 x2 x3 y14 s)) else (dr_rd ln s 41 x3).bind (fun v9 => (dr_rd ln s 51 v9).bind (fun v10 => (dr_rd ln s 41 x4).bind (fun v11 => (dr_rd ln s 51 v11).bind (fun v12 => dr_bndv (f_X12_saves ln  s) (fun s13 => (f_X12_found_p105 ln dr_N x1 x2 x3 x4 v10 v12 0 0 s13))))))))
def f_X12_found_p32 (ln : Nat → Nat) : Nat → Int32 → Int32 → Int32 → dr_S → Option (Int32 × dr_S)
  | 0, _, _, _, _ => none
  | n + 1, x1, x2, x3, s => (dr_rd ln s 39 x3).bind (fun v5 => (if v5 = 0 then dr_let (x3 + 1) (fun y7 => (f_X12_found_p32 ln n x1 x2 y7 s)) else dr_let (x3 + 1) (fun y6 => (f_X12_found_p52 ln dr_N x1 x2 x3 y6 s))))
def f_X12_found (ln : Nat → Nat) (x1 : Int32) (x2 : Int32) (s : dr_S) : Option (Int32 × dr_S) := dr_bnd (f_X12_in ln x1 1 8 s) (fun r2 s1 => (if r2 = 0 then some ((-1), s1) else dr_bnd (f_X12_atJobs ln  s1) (fun r4 s3 => (if r4 = 2 then (if x2 < (-1) then some ((-1), s3) else (if x2 < x1 then (f_X12_found_p32 ln dr_N x1 x2 0 s3) else some ((-1), s3))) else some ((-1), s3)))))
section
variable {p : Program} {l : Launch} {e : Env} {s0 : State} {m : MethodId} {args : Array Value} {below : List Frame} {meth : Method} {c : Code} {A : Nat → Prop} {D : va_G} {cI cZ : ClassId} {ad ln : Nat → Nat} {L : List Nat}
set_option maxHeartbeats 4000000 in
set_option maxRecDepth 20000 in
theorem w_X12_found_p174 (E : dr_E p (dr_rm 7) s0 m args meth c 0 0 A s0.heap D cI cZ ad L cX12_found 9 RX12 (some .int)) (hap : dr_ap ad L) (hN : ∀ x ∈ nd_12, x ∈ L) : ∀ (x2 : Int32) (x7 : Int32) (s : dr_S), dr_G p l e (dr_rm 7) s0 m args below meth c 0 0 A s0.heap D cI cZ ad ln L 9 (dr_Zi D cI cZ ad ln L A below args s0 0 0) 174 [(0, .ref (ad 12)), (2, .int x2), (7, .int x7)] [] s (f_X12_found_p174 ln x2 x7 s) := by
  intro x2 x7 s
  unfold f_X12_found_p174
  refine g_iload E dX12_found_174 2 rfl ?_
  refine g_if_ne E 183 dX12_found_176 (by decide) ?_ ?_
  · refine g_iload_n E dX12_found_183 1 rfl ?_
    refine g_iconst E (v := (-1)) dX12_found_184 (by decide) ?_
    refine g_icmp_ne E 192 dX12_found_185 (by decide) ?_ ?_
    · refine g_aload_n E dX12_found_192 0 rfl ?_
      refine gg_12_149 E (hN 12 (by decide)) dX12_found_193 ?_
      refine g_iload_n E dX12_found_196 1 rfl ?_
      refine g_iaload E (hN 74 (by decide)) (by decide) rfl dX12_found_197 (fun v25 => ?_)
      exact g_iret E dX12_found_198
    · refine g_iconst E (v := 1) dX12_found_188 (by decide) ?_
      refine g_goto E 198 dX12_found_189 (by decide) ?_
      exact g_iret E dX12_found_198
  · refine g_iconst E (v := (-1)) dX12_found_179 (by decide) ?_
    refine g_goto E 198 dX12_found_180 (by decide) ?_
    exact g_iret E dX12_found_198
set_option maxHeartbeats 4000000 in
set_option maxRecDepth 20000 in
theorem w_X12_found_p162 {kb105 : Int32 → Int32 → Int32 → Int32 → Int32 → Int32 → Int32 → Int32 → dr_S → Option (Int32 × dr_S)} (E : dr_E p (dr_rm 7) s0 m args meth c 0 0 A s0.heap D cI cZ ad L cX12_found 9 RX12 (some .int)) (hap : dr_ap ad L) (hN : ∀ x ∈ nd_12, x ∈ L) (hkb105 : ∀ (x1 : Int32) (x2 : Int32) (x3 : Int32) (x4 : Int32) (x5 : Int32) (x6 : Int32) (x7 : Int32) (x8 : Int32) (s : dr_S), dr_G p l e (dr_rm 7) s0 m args below meth c 0 0 A s0.heap D cI cZ ad ln L 9 (dr_Zi D cI cZ ad ln L A below args s0 0 0) 105 [(0, .ref (ad 12)), (1, .int x1), (2, .int x2), (3, .int x3), (4, .int x4), (5, .int x5), (6, .int x6), (7, .int x7), (8, .int x8)] [] s (kb105 x1 x2 x3 x4 x5 x6 x7 x8 s)) : ∀ (x1 : Int32) (x2 : Int32) (x3 : Int32) (x4 : Int32) (x5 : Int32) (x6 : Int32) (x8 : Int32) (z0 : Int32) (s : dr_S), dr_G p l e (dr_rm 7) s0 m args below meth c 0 0 A s0.heap D cI cZ ad ln L 9 (dr_Zi D cI cZ ad ln L A below args s0 0 0) 162 [(0, .ref (ad 12)), (1, .int x1), (2, .int x2), (3, .int x3), (4, .int x4), (5, .int x5), (6, .int x6), (8, .int x8)] [.int z0] s (f_X12_found_p162 ln kb105 x1 x2 x3 x4 x5 x6 x8 z0 s) := by
  intro x1 x2 x3 x4 x5 x6 x8 z0 s
  unfold f_X12_found_p162
  refine g_istore E (lv' := [(7, .int z0), (0, .ref (ad 12)), (1, .int x1), (2, .int x2), (3, .int x3), (4, .int x4), (5, .int x5), (6, .int x6), (8, .int x8)]) dX12_found_162 (by decide) rfl ?_
  refine g_aload_n E dX12_found_164 1 rfl ?_
  refine g_cVv E [] rfl (c_X12_putsBack hap hN  s) (hN 12 (by decide)) (by decide) rfl rfl mi_X12_putsBack msl_X12_putsBack mw_X12_putsBack rfl ml_12_323 ⟨Nat.le_of_ble_eq_true rfl, Nat.le_of_ble_eq_true rfl⟩ (Nat.le_of_ble_eq_true rfl) dX12_found_165 (fun s23 => ?_)
  refine g_iinc E (lv' := []) (lv'' := fun y24 => [(8, .int y24), (7, .int z0), (0, .ref (ad 12)), (1, .int x1), (2, .int x2), (3, .int x3), (4, .int x4), (5, .int x5), (6, .int x6)]) (v := 1) dX12_found_168 8 rfl (by decide) (by decide) (fun _ => rfl) (fun y24 => ?_)
  refine g_goto E 105 dX12_found_171 (by decide) ?_
  refine g_sub [2, 3, 4, 5, 6, 7, 8, 1, 0] rfl ?_
  exact hkb105 x1 x2 x3 x4 x5 x6 z0 y24 s23
set_option maxHeartbeats 4000000 in
set_option maxRecDepth 20000 in
theorem w_X12_found_p161 {kb105 : Int32 → Int32 → Int32 → Int32 → Int32 → Int32 → Int32 → Int32 → dr_S → Option (Int32 × dr_S)} (E : dr_E p (dr_rm 7) s0 m args meth c 0 0 A s0.heap D cI cZ ad L cX12_found 9 RX12 (some .int)) (hap : dr_ap ad L) (hN : ∀ x ∈ nd_12, x ∈ L) (hkb105 : ∀ (x1 : Int32) (x2 : Int32) (x3 : Int32) (x4 : Int32) (x5 : Int32) (x6 : Int32) (x7 : Int32) (x8 : Int32) (s : dr_S), dr_G p l e (dr_rm 7) s0 m args below meth c 0 0 A s0.heap D cI cZ ad ln L 9 (dr_Zi D cI cZ ad ln L A below args s0 0 0) 105 [(0, .ref (ad 12)), (1, .int x1), (2, .int x2), (3, .int x3), (4, .int x4), (5, .int x5), (6, .int x6), (7, .int x7), (8, .int x8)] [] s (kb105 x1 x2 x3 x4 x5 x6 x7 x8 s)) : ∀ (x1 : Int32) (x2 : Int32) (x3 : Int32) (x4 : Int32) (x5 : Int32) (x6 : Int32) (x8 : Int32) (s : dr_S), dr_G p l e (dr_rm 7) s0 m args below meth c 0 0 A s0.heap D cI cZ ad ln L 9 (dr_Zi D cI cZ ad ln L A below args s0 0 0) 161 [(0, .ref (ad 12)), (1, .int x1), (2, .int x2), (3, .int x3), (4, .int x4), (5, .int x5), (6, .int x6), (8, .int x8)] [] s (f_X12_found_p161 ln kb105 x1 x2 x3 x4 x5 x6 x8 s) := by
  intro x1 x2 x3 x4 x5 x6 x8 s
  unfold f_X12_found_p161
  refine g_iconst E (v := 0) dX12_found_161 (by decide) ?_
  refine g_sub [0, 1, 2, 3, 4, 5, 6, 7] rfl ?_
  exact w_X12_found_p162 E hap hN hkb105 x1 x2 x3 x4 x5 x6 x8 0 s
set_option maxHeartbeats 4000000 in
set_option maxRecDepth 20000 in
theorem w_X12_found_p157 {kb105 : Int32 → Int32 → Int32 → Int32 → Int32 → Int32 → Int32 → Int32 → dr_S → Option (Int32 × dr_S)} (E : dr_E p (dr_rm 7) s0 m args meth c 0 0 A s0.heap D cI cZ ad L cX12_found 9 RX12 (some .int)) (hap : dr_ap ad L) (hN : ∀ x ∈ nd_12, x ∈ L) (hkb105 : ∀ (x1 : Int32) (x2 : Int32) (x3 : Int32) (x4 : Int32) (x5 : Int32) (x6 : Int32) (x7 : Int32) (x8 : Int32) (s : dr_S), dr_G p l e (dr_rm 7) s0 m args below meth c 0 0 A s0.heap D cI cZ ad ln L 9 (dr_Zi D cI cZ ad ln L A below args s0 0 0) 105 [(0, .ref (ad 12)), (1, .int x1), (2, .int x2), (3, .int x3), (4, .int x4), (5, .int x5), (6, .int x6), (7, .int x7), (8, .int x8)] [] s (kb105 x1 x2 x3 x4 x5 x6 x7 x8 s)) : ∀ (x1 : Int32) (x2 : Int32) (x3 : Int32) (x4 : Int32) (x5 : Int32) (x6 : Int32) (x8 : Int32) (s : dr_S), dr_G p l e (dr_rm 7) s0 m args below meth c 0 0 A s0.heap D cI cZ ad ln L 9 (dr_Zi D cI cZ ad ln L A below args s0 0 0) 157 [(0, .ref (ad 12)), (1, .int x1), (2, .int x2), (3, .int x3), (4, .int x4), (5, .int x5), (6, .int x6), (8, .int x8)] [] s (f_X12_found_p157 ln kb105 x1 x2 x3 x4 x5 x6 x8 s) := by
  intro x1 x2 x3 x4 x5 x6 x8 s
  unfold f_X12_found_p157
  refine g_iconst E (v := 1) dX12_found_157 (by decide) ?_
  refine g_goto E 162 dX12_found_158 (by decide) ?_
  refine g_sub [0, 1, 2, 3, 4, 5, 6, 7] rfl ?_
  exact w_X12_found_p162 E hap hN hkb105 x1 x2 x3 x4 x5 x6 x8 1 s
set_option maxHeartbeats 4000000 in
set_option maxRecDepth 20000 in
theorem w_X12_found_p105 (E : dr_E p (dr_rm 7) s0 m args meth c 0 0 A s0.heap D cI cZ ad L cX12_found 9 RX12 (some .int)) (hap : dr_ap ad L) (hN : ∀ x ∈ nd_12, x ∈ L) : ∀ (n : Nat) (x1 : Int32) (x2 : Int32) (x3 : Int32) (x4 : Int32) (x5 : Int32) (x6 : Int32) (x7 : Int32) (x8 : Int32) (s : dr_S), dr_G p l e (dr_rm 7) s0 m args below meth c 0 0 A s0.heap D cI cZ ad ln L 9 (dr_Zi D cI cZ ad ln L A below args s0 0 0) 105 [(0, .ref (ad 12)), (1, .int x1), (2, .int x2), (3, .int x3), (4, .int x4), (5, .int x5), (6, .int x6), (7, .int x7), (8, .int x8)] [] s (f_X12_found_p105 ln n x1 x2 x3 x4 x5 x6 x7 x8 s) := by
  intro n
  induction n with
  | zero =>
    intro x1 x2 x3 x4 x5 x6 x7 x8 s
    rw [f_X12_found_p105]
    exact g_none
  | succ n hkb105 =>
    intro x1 x2 x3 x4 x5 x6 x7 x8 s
    rw [f_X12_found_p105]
    refine g_iload E dX12_found_105 8 rfl ?_
    refine g_iconst E (v := 1) dX12_found_107 (by decide) ?_
    refine g_iload_n E dX12_found_108 1 rfl ?_
    refine g_ishl E dX12_found_109 ?_
    refine g_icmp_ge E 174 dX12_found_110 (by decide) ?_ ?_
    · refine g_sub [0, 2, 7] rfl ?_
      exact w_X12_found_p174 E hap hN x2 x7 s
    · refine g_iload E dX12_found_113 7 rfl ?_
      refine g_if_ne E 174 dX12_found_115 (by decide) ?_ ?_
      · refine g_sub [0, 2, 7] rfl ?_
        exact w_X12_found_p174 E hap hN x2 x7 s
      · refine g_aload_n E dX12_found_118 0 rfl ?_
        refine g_iload E dX12_found_119 8 rfl ?_
        refine g_iload_n E dX12_found_121 1 rfl ?_
        refine g_iload_n E dX12_found_122 3 rfl ?_
        refine g_iload E dX12_found_123 4 rfl ?_
        refine g_cVi E [.int x8, .int x1, .int x3, .int x4] rfl (c_X12_goesBy hap hN x8 x1 x3 x4 s) (hN 12 (by decide)) (by decide) rfl rfl mi_X12_goesBy msl_X12_goesBy mw_X12_goesBy rfl ml_12_313 ⟨Nat.le_of_ble_eq_true rfl, Nat.le_of_ble_eq_true rfl⟩ (Nat.le_of_ble_eq_true rfl) dX12_found_125 (fun r16 s15 => ?_)
        refine g_if_eq E 161 dX12_found_128 (by decide) ?_ ?_
        · refine g_sub [0, 1, 2, 3, 4, 5, 6, 8] rfl ?_
          exact w_X12_found_p161 E hap hN hkb105 x1 x2 x3 x4 x5 x6 x8 s15
        · refine g_aload_n E dX12_found_131 0 rfl ?_
          refine g_cVi E [] rfl (c_X12_shape hap hN  s15) (hN 12 (by decide)) (by decide) rfl rfl mi_X12_shape msl_X12_shape mw_X12_shape rfl ml_12_317 ⟨Nat.le_of_ble_eq_true rfl, Nat.le_of_ble_eq_true rfl⟩ (Nat.le_of_ble_eq_true rfl) dX12_found_132 (fun r18 s17 => ?_)
          refine g_iconst E (v := (-1)) dX12_found_135 (by decide) ?_
          refine g_icmp_ne E 157 dX12_found_136 (by decide) ?_ ?_
          · refine g_sub [0, 1, 2, 3, 4, 5, 6, 8] rfl ?_
            exact w_X12_found_p157 E hap hN hkb105 x1 x2 x3 x4 x5 x6 x8 s17
          · refine g_aload_n E dX12_found_139 0 rfl ?_
            refine g_iload E dX12_found_140 5 rfl ?_
            refine g_cVi E [.int x5] rfl (c_X12_isBroken hap hN x5 s17) (hN 12 (by decide)) (by decide) rfl rfl mi_X12_isBroken msl_X12_isBroken mw_X12_isBroken rfl ml_12_320 ⟨Nat.le_of_ble_eq_true rfl, Nat.le_of_ble_eq_true rfl⟩ (Nat.le_of_ble_eq_true rfl) dX12_found_142 (fun r20 s19 => ?_)
            refine g_if_ne E 157 dX12_found_145 (by decide) ?_ ?_
            · refine g_sub [0, 1, 2, 3, 4, 5, 6, 8] rfl ?_
              exact w_X12_found_p157 E hap hN hkb105 x1 x2 x3 x4 x5 x6 x8 s19
            · refine g_aload_n E dX12_found_148 0 rfl ?_
              refine g_iload E dX12_found_149 6 rfl ?_
              refine g_cVi E [.int x6] rfl (c_X12_isBroken hap hN x6 s19) (hN 12 (by decide)) (by decide) rfl rfl mi_X12_isBroken msl_X12_isBroken mw_X12_isBroken rfl ml_12_320 ⟨Nat.le_of_ble_eq_true rfl, Nat.le_of_ble_eq_true rfl⟩ (Nat.le_of_ble_eq_true rfl) dX12_found_151 (fun r22 s21 => ?_)
              refine g_if_eq E 161 dX12_found_154 (by decide) ?_ ?_
              · refine g_sub [0, 1, 2, 3, 4, 5, 6, 8] rfl ?_
                exact w_X12_found_p161 E hap hN hkb105 x1 x2 x3 x4 x5 x6 x8 s21
              · refine g_sub [0, 1, 2, 3, 4, 5, 6, 8] rfl ?_
                exact w_X12_found_p157 E hap hN hkb105 x1 x2 x3 x4 x5 x6 x8 s21
set_option maxHeartbeats 4000000 in
set_option maxRecDepth 20000 in
theorem w_X12_found_p52 (E : dr_E p (dr_rm 7) s0 m args meth c 0 0 A s0.heap D cI cZ ad L cX12_found 9 RX12 (some .int)) (hap : dr_ap ad L) (hN : ∀ x ∈ nd_12, x ∈ L) : ∀ (n : Nat) (x1 : Int32) (x2 : Int32) (x3 : Int32) (x4 : Int32) (s : dr_S), dr_G p l e (dr_rm 7) s0 m args below meth c 0 0 A s0.heap D cI cZ ad ln L 9 (dr_Zi D cI cZ ad ln L A below args s0 0 0) 52 [(0, .ref (ad 12)), (1, .int x1), (2, .int x2), (3, .int x3), (4, .int x4)] [] s (f_X12_found_p52 ln n x1 x2 x3 x4 s) := by
  intro n
  induction n with
  | zero =>
    intro x1 x2 x3 x4 s
    rw [f_X12_found_p52]
    exact g_none
  | succ n hkb52 =>
    intro x1 x2 x3 x4 s
    rw [f_X12_found_p52]
    refine g_aload_n E dX12_found_52 0 rfl ?_
    refine gg_12_44 E (hN 12 (by decide)) dX12_found_53 ?_
    refine g_iload E dX12_found_56 4 rfl ?_
    refine g_iaload E (hN 39 (by decide)) (by decide) rfl dX12_found_58 (fun v8 => ?_)
    refine g_if_ne E 68 dX12_found_59 (by decide) ?_ ?_
    · refine g_aload_n E dX12_found_68 0 rfl ?_
      refine gg_12_80 E (hN 12 (by decide)) dX12_found_69 ?_
      refine g_aload_n E dX12_found_72 0 rfl ?_
      refine gg_12_50 E (hN 12 (by decide)) dX12_found_73 ?_
      refine g_iload_n E dX12_found_76 3 rfl ?_
      refine g_iaload E (hN 41 (by decide)) (by decide) rfl dX12_found_77 (fun v9 => ?_)
      refine g_iaload E (hN 51 (by decide)) (by decide) rfl dX12_found_78 (fun v10 => ?_)
      refine g_istore E (lv' := [(5, .int v10), (0, .ref (ad 12)), (1, .int x1), (2, .int x2), (3, .int x3), (4, .int x4)]) dX12_found_79 (by decide) rfl ?_
      refine g_aload_n E dX12_found_81 1 rfl ?_
      refine gg_12_80 E (hN 12 (by decide)) dX12_found_82 ?_
      refine g_aload_n E dX12_found_85 1 rfl ?_
      refine gg_12_50 E (hN 12 (by decide)) dX12_found_86 ?_
      refine g_iload E dX12_found_89 5 rfl ?_
      refine g_iaload E (hN 41 (by decide)) (by decide) rfl dX12_found_91 (fun v11 => ?_)
      refine g_iaload E (hN 51 (by decide)) (by decide) rfl dX12_found_92 (fun v12 => ?_)
      refine g_istore E (lv' := [(6, .int v12), (5, .int v10), (0, .ref (ad 12)), (1, .int x1), (2, .int x2), (3, .int x3), (4, .int x4)]) dX12_found_93 (by decide) rfl ?_
      refine g_iconst E (v := 0) dX12_found_95 (by decide) ?_
      refine g_istore E (lv' := [(7, .int 0), (6, .int v12), (5, .int v10), (0, .ref (ad 12)), (1, .int x1), (2, .int x2), (3, .int x3), (4, .int x4)]) dX12_found_96 (by decide) rfl ?_
      refine g_aload_n E dX12_found_98 3 rfl ?_
      refine g_cVv E [] rfl (c_X12_saves hap hN  s) (hN 12 (by decide)) (by decide) rfl rfl mi_X12_saves msl_X12_saves mw_X12_saves rfl ml_12_310 ⟨Nat.le_of_ble_eq_true rfl, Nat.le_of_ble_eq_true rfl⟩ (Nat.le_of_ble_eq_true rfl) dX12_found_99 (fun s13 => ?_)
      refine g_iconst E (v := 0) dX12_found_102 (by decide) ?_
      refine g_istore E (lv' := [(8, .int 0), (7, .int 0), (6, .int v12), (5, .int v10), (0, .ref (ad 12)), (1, .int x1), (2, .int x2), (3, .int x3), (4, .int x4)]) dX12_found_103 (by decide) rfl ?_
      refine g_sub [4, 5, 6, 7, 8, 3, 2, 1, 0] rfl ?_
      exact w_X12_found_p105 E hap hN dr_N x1 x2 x3 x4 v10 v12 0 0 s13
    · refine g_iinc E (lv' := []) (lv'' := fun y14 => [(4, .int y14), (0, .ref (ad 12)), (1, .int x1), (2, .int x2), (3, .int x3)]) (v := 1) dX12_found_62 4 rfl (by decide) (by decide) (fun _ => rfl) (fun y14 => ?_)
      refine g_goto E 52 dX12_found_65 (by decide) ?_
      refine g_sub [1, 2, 3, 4, 0] rfl ?_
      exact hkb52 x1 x2 x3 y14 s
set_option maxHeartbeats 4000000 in
set_option maxRecDepth 20000 in
theorem w_X12_found_p32 (E : dr_E p (dr_rm 7) s0 m args meth c 0 0 A s0.heap D cI cZ ad L cX12_found 9 RX12 (some .int)) (hap : dr_ap ad L) (hN : ∀ x ∈ nd_12, x ∈ L) : ∀ (n : Nat) (x1 : Int32) (x2 : Int32) (x3 : Int32) (s : dr_S), dr_G p l e (dr_rm 7) s0 m args below meth c 0 0 A s0.heap D cI cZ ad ln L 9 (dr_Zi D cI cZ ad ln L A below args s0 0 0) 32 [(0, .ref (ad 12)), (1, .int x1), (2, .int x2), (3, .int x3)] [] s (f_X12_found_p32 ln n x1 x2 x3 s) := by
  intro n
  induction n with
  | zero =>
    intro x1 x2 x3 s
    rw [f_X12_found_p32]
    exact g_none
  | succ n hkb32 =>
    intro x1 x2 x3 s
    rw [f_X12_found_p32]
    refine g_aload_n E dX12_found_32 0 rfl ?_
    refine gg_12_44 E (hN 12 (by decide)) dX12_found_33 ?_
    refine g_iload_n E dX12_found_36 3 rfl ?_
    refine g_iaload E (hN 39 (by decide)) (by decide) rfl dX12_found_37 (fun v5 => ?_)
    refine g_if_ne E 47 dX12_found_38 (by decide) ?_ ?_
    · refine g_iload_n E dX12_found_47 3 rfl ?_
      refine g_iconst E (v := 1) dX12_found_48 (by decide) ?_
      refine g_iadd E dX12_found_49 ?_
      refine g_let (fun y6 => ?_)
      refine g_istore E (lv' := [(4, .int y6), (0, .ref (ad 12)), (1, .int x1), (2, .int x2), (3, .int x3)]) dX12_found_50 (by decide) rfl ?_
      refine g_sub [1, 2, 3, 4, 0] rfl ?_
      exact w_X12_found_p52 E hap hN dr_N x1 x2 x3 y6 s
    · refine g_iinc E (lv' := []) (lv'' := fun y7 => [(3, .int y7), (0, .ref (ad 12)), (1, .int x1), (2, .int x2)]) (v := 1) dX12_found_41 3 rfl (by decide) (by decide) (fun _ => rfl) (fun y7 => ?_)
      refine g_goto E 32 dX12_found_44 (by decide) ?_
      refine g_sub [1, 2, 3, 0] rfl ?_
      exact hkb32 x1 x2 y7 s
set_option maxHeartbeats 4000000 in
set_option maxRecDepth 20000 in
theorem c_X12_found (hap : dr_ap ad L) (hN : ∀ x ∈ nd_12, x ∈ L) (x1 : Int32) (x2 : Int32) (s : dr_S) : dr_Mi l D cI cZ ad ln L yX12_found cX12_found 9 (some .int) 7 [.ref (ad 12), .int x1, .int x2] s (f_X12_found ln x1 x2 s) := by
  refine dr_meti (own := RX12) (by decide) rfl (Nat.le_of_ble_eq_true rfl) hap ?_
  intro p e s0 m args below meth c A E
  unfold f_X12_found
  refine g_eqL (lv' := [(0, .ref (ad 12)), (1, .int x1), (2, .int x2)]) rfl ?_
  refine g_iload_n E dX12_found_0 1 rfl ?_
  refine g_iconst E (v := 1) dX12_found_1 (by decide) ?_
  refine g_bipush E (v := 8) dX12_found_2 (by decide) ?_
  refine g_cSi E [.int x1, .int 1, .int 8] rfl (c_X12_in hap hN x1 1 8 s) ms_X12_in mw_X12_in rfl ml_12_160 ⟨Nat.le_of_ble_eq_true rfl, Nat.le_of_ble_eq_true rfl⟩ (Nat.le_of_ble_eq_true rfl) dX12_found_4 (fun r2 s1 => ?_)
  refine g_if_eq E 28 dX12_found_7 (by decide) ?_ ?_
  · refine g_iconst E (v := (-1)) dX12_found_28 (by decide) ?_
    exact g_iret E dX12_found_29
  · refine g_aload_n E dX12_found_10 0 rfl ?_
    refine g_cVi E [] rfl (c_X12_atJobs hap hN  s1) (hN 12 (by decide)) (by decide) rfl rfl mi_X12_atJobs msl_X12_atJobs mw_X12_atJobs rfl ml_12_307 ⟨Nat.le_of_ble_eq_true rfl, Nat.le_of_ble_eq_true rfl⟩ (Nat.le_of_ble_eq_true rfl) dX12_found_11 (fun r4 s3 => ?_)
    refine g_iconst E (v := 2) dX12_found_14 (by decide) ?_
    refine g_icmp_ne E 28 dX12_found_15 (by decide) ?_ ?_
    · refine g_iconst E (v := (-1)) dX12_found_28 (by decide) ?_
      exact g_iret E dX12_found_29
    · refine g_iload_n E dX12_found_18 2 rfl ?_
      refine g_iconst E (v := (-1)) dX12_found_19 (by decide) ?_
      refine g_icmp_lt E 28 dX12_found_20 (by decide) ?_ ?_
      · refine g_iconst E (v := (-1)) dX12_found_28 (by decide) ?_
        exact g_iret E dX12_found_29
      · refine g_iload_n E dX12_found_23 2 rfl ?_
        refine g_iload_n E dX12_found_24 1 rfl ?_
        refine g_icmp_lt E 30 dX12_found_25 (by decide) ?_ ?_
        · refine g_iconst E (v := 0) dX12_found_30 (by decide) ?_
          refine g_istore_n E (lv' := [(3, .int 0), (0, .ref (ad 12)), (1, .int x1), (2, .int x2)]) dX12_found_31 (by decide) rfl ?_
          refine g_sub [1, 2, 3, 0] rfl ?_
          exact w_X12_found_p32 E hap hN dr_N x1 x2 0 s3
        · refine g_iconst E (v := (-1)) dX12_found_28 (by decide) ?_
          exact g_iret E dX12_found_29
end
