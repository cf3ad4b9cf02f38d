theorem f0_0 : pm_f 0 0 = some (.aload_n 0, 1, 0, 0, 0, []) := by decide +kernel
theorem f0_1 : pm_f 0 1 = some (.invokespecial 3, 3, 0, 0, (-1), []) := by decide +kernel
theorem f0_4 : pm_f 0 4 = some (.aload_n 0, 1, 0, 0, 0, []) := by decide +kernel
theorem f0_5 : pm_f 0 5 = some (.bipush 20, 2, 0, 0, 20, []) := by decide +kernel
theorem f0_7 : pm_f 0 7 = some (.newarray .int, 2, 1, 0, 0, []) := by decide +kernel
theorem f0_9 : pm_f 0 9 = some (.putfield 11, 3, 0, 0, 2, []) := by decide +kernel
theorem f0_12 : pm_f 0 12 = some (.aload_n 0, 1, 0, 0, 0, []) := by decide +kernel
theorem f0_13 : pm_f 0 13 = some (.iconst 0, 1, 0, 0, 0, []) := by decide +kernel
theorem f0_14 : pm_f 0 14 = some (.putfield 15, 3, 0, 1, 0, []) := by decide +kernel
theorem f0_17 : pm_f 0 17 = some (.aload_n 0, 1, 0, 0, 0, []) := by decide +kernel
theorem f0_18 : pm_f 0 18 = some (.iconst 0, 1, 0, 0, 0, []) := by decide +kernel
theorem f0_19 : pm_f 0 19 = some (.putfield 19, 3, 0, 2, 0, []) := by decide +kernel
theorem f0_22 : pm_f 0 22 = some (.aload_n 0, 1, 0, 0, 0, []) := by decide +kernel
theorem f0_23 : pm_f 0 23 = some (.iconst 0, 1, 0, 0, 0, []) := by decide +kernel
theorem f0_24 : pm_f 0 24 = some (.putfield 22, 3, 0, 3, 0, []) := by decide +kernel
theorem f0_27 : pm_f 0 27 = some (.aload_n 0, 1, 0, 0, 0, []) := by decide +kernel
theorem f0_28 : pm_f 0 28 = some (.iconst 0, 1, 0, 0, 0, []) := by decide +kernel
theorem f0_29 : pm_f 0 29 = some (.putfield 25, 3, 0, 4, 0, []) := by decide +kernel
theorem f0_32 : pm_f 0 32 = some (.return_, 1, 0, 0, 0, []) := by decide +kernel
theorem f1_0 : pm_f 1 0 = some (.aload_n 0, 1, 0, 0, 0, []) := by decide +kernel
theorem f1_1 : pm_f 1 1 = some (.iconst 0, 1, 0, 0, 0, []) := by decide +kernel
theorem f1_2 : pm_f 1 2 = some (.putfield 15, 3, 0, 1, 0, []) := by decide +kernel
theorem f1_5 : pm_f 1 5 = some (.return_, 1, 0, 0, 0, []) := by decide +kernel
theorem f2_0 : pm_f 2 0 = some (.aload_n 0, 1, 0, 0, 0, []) := by decide +kernel
theorem f2_1 : pm_f 2 1 = some (.getfield 15, 3, 0, 1, 0, []) := by decide +kernel
theorem f2_4 : pm_f 2 4 = some (.bipush 20, 2, 0, 0, 20, []) := by decide +kernel
theorem f2_6 : pm_f 2 6 = some (.invokestatic 28, 3, 0, 0, 2, []) := by decide +kernel
theorem f2_9 : pm_f 2 9 = some (.ireturn, 1, 0, 0, 0, []) := by decide +kernel
theorem f3_0 : pm_f 3 0 = some (.aload_n 0, 1, 0, 0, 0, []) := by decide +kernel
theorem f3_1 : pm_f 3 1 = some (.iload_n 1, 1, 1, 0, 0, []) := by decide +kernel
theorem f3_2 : pm_f 3 2 = some (.putfield 19, 3, 0, 2, 0, []) := by decide +kernel
theorem f3_5 : pm_f 3 5 = some (.aload_n 0, 1, 0, 0, 0, []) := by decide +kernel
theorem f3_6 : pm_f 3 6 = some (.iload_n 2, 1, 2, 0, 0, []) := by decide +kernel
theorem f3_7 : pm_f 3 7 = some (.putfield 22, 3, 0, 3, 0, []) := by decide +kernel
theorem f3_10 : pm_f 3 10 = some (.aload_n 0, 1, 0, 0, 0, []) := by decide +kernel
theorem f3_11 : pm_f 3 11 = some (.iload_n 3, 1, 3, 0, 0, []) := by decide +kernel
theorem f3_12 : pm_f 3 12 = some (.putfield 25, 3, 0, 4, 0, []) := by decide +kernel
theorem f3_15 : pm_f 3 15 = some (.aload_n 0, 1, 0, 0, 0, []) := by decide +kernel
theorem f3_16 : pm_f 3 16 = some (.iload 4, 2, 4, 0, 0, []) := by decide +kernel
theorem f3_18 : pm_f 3 18 = some (.aload_n 0, 1, 0, 0, 0, []) := by decide +kernel
theorem f3_19 : pm_f 3 19 = some (.getfield 22, 3, 0, 3, 0, []) := by decide +kernel
theorem f3_22 : pm_f 3 22 = some (.iload 5, 2, 5, 0, 0, []) := by decide +kernel
theorem f3_24 : pm_f 3 24 = some (.iconst 0, 1, 0, 0, 0, []) := by decide +kernel
theorem f3_25 : pm_f 3 25 = some (.invokevirtual 34, 3, 4, 4, 0, []) := by decide +kernel
theorem f3_28 : pm_f 3 28 = some (.ireturn, 1, 0, 0, 0, []) := by decide +kernel
theorem f4_0 : pm_f 4 0 = some (.iload 4, 2, 4, 0, 0, []) := by decide +kernel
theorem f4_2 : pm_f 4 2 = some (.bipush 8, 2, 0, 0, 8, []) := by decide +kernel
theorem f4_4 : pm_f 4 4 = some (.if_icmp .lt 5, 3, 9, 0, 0, []) := by decide +kernel
theorem f4_7 : pm_f 4 7 = some (.iconst 0, 1, 0, 0, 0, []) := by decide +kernel
theorem f4_8 : pm_f 4 8 = some (.ireturn, 1, 0, 0, 0, []) := by decide +kernel
theorem f4_9 : pm_f 4 9 = some (.iload_n 1, 1, 1, 0, 0, []) := by decide +kernel
theorem f4_10 : pm_f 4 10 = some (.iload_n 2, 1, 2, 0, 0, []) := by decide +kernel
theorem f4_11 : pm_f 4 11 = some (.invokestatic 38, 3, 5, 2, 0, []) := by decide +kernel
theorem f4_14 : pm_f 4 14 = some (.istore 5, 2, 5, 0, 0, []) := by decide +kernel
theorem f4_16 : pm_f 4 16 = some (.aload_n 0, 1, 0, 0, 0, []) := by decide +kernel
theorem f4_17 : pm_f 4 17 = some (.iload 5, 2, 5, 0, 0, []) := by decide +kernel
theorem f4_19 : pm_f 4 19 = some (.invokevirtual 41, 3, 6, 1, 0, []) := by decide +kernel
theorem f4_22 : pm_f 4 22 = some (.iload 4, 2, 4, 0, 0, []) := by decide +kernel
theorem f4_24 : pm_f 4 24 = some (.iconst 1, 1, 0, 0, 1, []) := by decide +kernel
theorem f4_25 : pm_f 4 25 = some (.iadd, 1, 0, 0, 0, []) := by decide +kernel
theorem f4_26 : pm_f 4 26 = some (.istore 6, 2, 6, 0, 0, []) := by decide +kernel
theorem f4_28 : pm_f 4 28 = some (.iload 5, 2, 5, 0, 0, []) := by decide +kernel
theorem f4_30 : pm_f 4 30 = some (.lookupswitch 259 #[(10, 98), (11, 105), (12, 123), (20, 138), (30, 151), (40, 163), (50, 186), (51, 197), (60, 209), (70, 224), (71, 244)], 98, 289, 0, 0, [(10, 128), (11, 135), (12, 153), (20, 168), (30, 181), (40, 193), (50, 216), (51, 227), (60, 239), (70, 254), (71, 274)]) := by decide +kernel
theorem f4_128 : pm_f 4 128 = some (.iload_n 3, 1, 3, 0, 0, []) := by decide +kernel
theorem f4_129 : pm_f 4 129 = some (.aload_n 0, 1, 0, 0, 0, []) := by decide +kernel
theorem f4_130 : pm_f 4 130 = some (.getfield 19, 3, 0, 2, 0, []) := by decide +kernel
theorem f4_133 : pm_f 4 133 = some (.iadd, 1, 0, 0, 0, []) := by decide +kernel
theorem f4_134 : pm_f 4 134 = some (.ireturn, 1, 0, 0, 0, []) := by decide +kernel
theorem f4_135 : pm_f 4 135 = some (.aload_n 0, 1, 0, 0, 0, []) := by decide +kernel
theorem f4_136 : pm_f 4 136 = some (.iconst 0, 1, 0, 0, 0, []) := by decide +kernel
theorem f4_137 : pm_f 4 137 = some (.aload_n 0, 1, 0, 0, 0, []) := by decide +kernel
theorem f4_138 : pm_f 4 138 = some (.getfield 22, 3, 0, 3, 0, []) := by decide +kernel
theorem f4_141 : pm_f 4 141 = some (.iload_n 3, 1, 3, 0, 0, []) := by decide +kernel
theorem f4_142 : pm_f 4 142 = some (.iload 6, 2, 6, 0, 0, []) := by decide +kernel
theorem f4_144 : pm_f 4 144 = some (.invokevirtual 34, 3, 4, 4, 0, []) := by decide +kernel
theorem f4_147 : pm_f 4 147 = some (.aload_n 0, 1, 0, 0, 0, []) := by decide +kernel
theorem f4_148 : pm_f 4 148 = some (.getfield 25, 3, 0, 4, 0, []) := by decide +kernel
theorem f4_151 : pm_f 4 151 = some (.isub, 1, 0, 0, 0, []) := by decide +kernel
theorem f4_152 : pm_f 4 152 = some (.ireturn, 1, 0, 0, 0, []) := by decide +kernel
theorem f4_153 : pm_f 4 153 = some (.aload_n 0, 1, 0, 0, 0, []) := by decide +kernel
theorem f4_154 : pm_f 4 154 = some (.iconst 1, 1, 0, 0, 1, []) := by decide +kernel
theorem f4_155 : pm_f 4 155 = some (.aload_n 0, 1, 0, 0, 0, []) := by decide +kernel
theorem f4_156 : pm_f 4 156 = some (.getfield 22, 3, 0, 3, 0, []) := by decide +kernel
theorem f4_159 : pm_f 4 159 = some (.iload_n 3, 1, 3, 0, 0, []) := by decide +kernel
theorem f4_160 : pm_f 4 160 = some (.iload 6, 2, 6, 0, 0, []) := by decide +kernel
theorem f4_162 : pm_f 4 162 = some (.invokevirtual 34, 3, 4, 4, 0, []) := by decide +kernel
theorem f4_165 : pm_f 4 165 = some (.iconst 2, 1, 0, 0, 2, []) := by decide +kernel
theorem f4_166 : pm_f 4 166 = some (.imul, 1, 0, 0, 0, []) := by decide +kernel
theorem f4_167 : pm_f 4 167 = some (.ireturn, 1, 0, 0, 0, []) := by decide +kernel
theorem f4_168 : pm_f 4 168 = some (.aload_n 0, 1, 0, 0, 0, []) := by decide +kernel
theorem f4_169 : pm_f 4 169 = some (.iconst 1, 1, 0, 0, 1, []) := by decide +kernel
theorem f4_170 : pm_f 4 170 = some (.iconst 0, 1, 0, 0, 0, []) := by decide +kernel
theorem f4_171 : pm_f 4 171 = some (.iload_n 3, 1, 3, 0, 0, []) := by decide +kernel
theorem f4_172 : pm_f 4 172 = some (.iload 6, 2, 6, 0, 0, []) := by decide +kernel
theorem f4_174 : pm_f 4 174 = some (.invokevirtual 34, 3, 4, 4, 0, []) := by decide +kernel
theorem f4_177 : pm_f 4 177 = some (.bipush 6, 2, 0, 0, 6, []) := by decide +kernel
theorem f4_179 : pm_f 4 179 = some (.ixor, 1, 0, 0, 0, []) := by decide +kernel
theorem f4_180 : pm_f 4 180 = some (.ireturn, 1, 0, 0, 0, []) := by decide +kernel
theorem f4_181 : pm_f 4 181 = some (.aload_n 0, 1, 0, 0, 0, []) := by decide +kernel
theorem f4_182 : pm_f 4 182 = some (.iconst 0, 1, 0, 0, 0, []) := by decide +kernel
theorem f4_183 : pm_f 4 183 = some (.iconst 0, 1, 0, 0, 0, []) := by decide +kernel
theorem f4_184 : pm_f 4 184 = some (.iload_n 3, 1, 3, 0, 0, []) := by decide +kernel
theorem f4_185 : pm_f 4 185 = some (.iconst 3, 1, 0, 0, 3, []) := by decide +kernel
theorem f4_186 : pm_f 4 186 = some (.imul, 1, 0, 0, 0, []) := by decide +kernel
theorem f4_187 : pm_f 4 187 = some (.iload 6, 2, 6, 0, 0, []) := by decide +kernel
theorem f4_189 : pm_f 4 189 = some (.invokevirtual 34, 3, 4, 4, 0, []) := by decide +kernel
theorem f4_192 : pm_f 4 192 = some (.ireturn, 1, 0, 0, 0, []) := by decide +kernel
theorem f4_193 : pm_f 4 193 = some (.aload_n 0, 1, 0, 0, 0, []) := by decide +kernel
theorem f4_194 : pm_f 4 194 = some (.iconst 2, 1, 0, 0, 2, []) := by decide +kernel
theorem f4_195 : pm_f 4 195 = some (.iconst 0, 1, 0, 0, 0, []) := by decide +kernel
theorem f4_196 : pm_f 4 196 = some (.iload_n 3, 1, 3, 0, 0, []) := by decide +kernel
theorem f4_197 : pm_f 4 197 = some (.iload 6, 2, 6, 0, 0, []) := by decide +kernel
theorem f4_199 : pm_f 4 199 = some (.invokevirtual 34, 3, 4, 4, 0, []) := by decide +kernel
theorem f4_202 : pm_f 4 202 = some (.aload_n 0, 1, 0, 0, 0, []) := by decide +kernel
theorem f4_203 : pm_f 4 203 = some (.iconst 1, 1, 0, 0, 1, []) := by decide +kernel
theorem f4_204 : pm_f 4 204 = some (.aload_n 0, 1, 0, 0, 0, []) := by decide +kernel
theorem f4_205 : pm_f 4 205 = some (.getfield 22, 3, 0, 3, 0, []) := by decide +kernel
theorem f4_208 : pm_f 4 208 = some (.iconst 1, 1, 0, 0, 1, []) := by decide +kernel
theorem f4_209 : pm_f 4 209 = some (.iload 6, 2, 6, 0, 0, []) := by decide +kernel
theorem f4_211 : pm_f 4 211 = some (.invokevirtual 34, 3, 4, 4, 0, []) := by decide +kernel
theorem f4_214 : pm_f 4 214 = some (.iadd, 1, 0, 0, 0, []) := by decide +kernel
theorem f4_215 : pm_f 4 215 = some (.ireturn, 1, 0, 0, 0, []) := by decide +kernel
theorem f4_216 : pm_f 4 216 = some (.aload_n 0, 1, 0, 0, 0, []) := by decide +kernel
theorem f4_217 : pm_f 4 217 = some (.iconst 0, 1, 0, 0, 0, []) := by decide +kernel
theorem f4_218 : pm_f 4 218 = some (.iconst 1, 1, 0, 0, 1, []) := by decide +kernel
theorem f4_219 : pm_f 4 219 = some (.iload_n 3, 1, 3, 0, 0, []) := by decide +kernel
theorem f4_220 : pm_f 4 220 = some (.iload 6, 2, 6, 0, 0, []) := by decide +kernel
theorem f4_222 : pm_f 4 222 = some (.invokevirtual 34, 3, 4, 4, 0, []) := by decide +kernel
theorem f4_225 : pm_f 4 225 = some (.ineg, 1, 0, 0, 0, []) := by decide +kernel
theorem f4_226 : pm_f 4 226 = some (.ireturn, 1, 0, 0, 0, []) := by decide +kernel
theorem f4_227 : pm_f 4 227 = some (.aload_n 0, 1, 0, 0, 0, []) := by decide +kernel
theorem f4_228 : pm_f 4 228 = some (.iconst 1, 1, 0, 0, 1, []) := by decide +kernel
theorem f4_229 : pm_f 4 229 = some (.iconst 1, 1, 0, 0, 1, []) := by decide +kernel
theorem f4_230 : pm_f 4 230 = some (.iload_n 3, 1, 3, 0, 0, []) := by decide +kernel
theorem f4_231 : pm_f 4 231 = some (.iconst 1, 1, 0, 0, 1, []) := by decide +kernel
theorem f4_232 : pm_f 4 232 = some (.iadd, 1, 0, 0, 0, []) := by decide +kernel
theorem f4_233 : pm_f 4 233 = some (.iload 6, 2, 6, 0, 0, []) := by decide +kernel
theorem f4_235 : pm_f 4 235 = some (.invokevirtual 34, 3, 4, 4, 0, []) := by decide +kernel
theorem f4_238 : pm_f 4 238 = some (.ireturn, 1, 0, 0, 0, []) := by decide +kernel
theorem f4_239 : pm_f 4 239 = some (.aload_n 0, 1, 0, 0, 0, []) := by decide +kernel
theorem f4_240 : pm_f 4 240 = some (.iconst 2, 1, 0, 0, 2, []) := by decide +kernel
theorem f4_241 : pm_f 4 241 = some (.iconst 2, 1, 0, 0, 2, []) := by decide +kernel
theorem f4_242 : pm_f 4 242 = some (.iload_n 3, 1, 3, 0, 0, []) := by decide +kernel
theorem f4_243 : pm_f 4 243 = some (.aload_n 0, 1, 0, 0, 0, []) := by decide +kernel
theorem f4_244 : pm_f 4 244 = some (.getfield 19, 3, 0, 2, 0, []) := by decide +kernel
theorem f4_247 : pm_f 4 247 = some (.isub, 1, 0, 0, 0, []) := by decide +kernel
theorem f4_248 : pm_f 4 248 = some (.iload 6, 2, 6, 0, 0, []) := by decide +kernel
theorem f4_250 : pm_f 4 250 = some (.invokevirtual 34, 3, 4, 4, 0, []) := by decide +kernel
theorem f4_253 : pm_f 4 253 = some (.ireturn, 1, 0, 0, 0, []) := by decide +kernel
theorem f4_254 : pm_f 4 254 = some (.aload_n 0, 1, 0, 0, 0, []) := by decide +kernel
theorem f4_255 : pm_f 4 255 = some (.iconst 1, 1, 0, 0, 1, []) := by decide +kernel
theorem f4_256 : pm_f 4 256 = some (.iconst 3, 1, 0, 0, 3, []) := by decide +kernel
theorem f4_257 : pm_f 4 257 = some (.iload_n 3, 1, 3, 0, 0, []) := by decide +kernel
theorem f4_258 : pm_f 4 258 = some (.iload 6, 2, 6, 0, 0, []) := by decide +kernel
theorem f4_260 : pm_f 4 260 = some (.invokevirtual 34, 3, 4, 4, 0, []) := by decide +kernel
theorem f4_263 : pm_f 4 263 = some (.aload_n 0, 1, 0, 0, 0, []) := by decide +kernel
theorem f4_264 : pm_f 4 264 = some (.iconst 0, 1, 0, 0, 0, []) := by decide +kernel
theorem f4_265 : pm_f 4 265 = some (.iconst 3, 1, 0, 0, 3, []) := by decide +kernel
theorem f4_266 : pm_f 4 266 = some (.iconst 2, 1, 0, 0, 2, []) := by decide +kernel
theorem f4_267 : pm_f 4 267 = some (.iload 6, 2, 6, 0, 0, []) := by decide +kernel
theorem f4_269 : pm_f 4 269 = some (.invokevirtual 34, 3, 4, 4, 0, []) := by decide +kernel
theorem f4_272 : pm_f 4 272 = some (.iadd, 1, 0, 0, 0, []) := by decide +kernel
theorem f4_273 : pm_f 4 273 = some (.ireturn, 1, 0, 0, 0, []) := by decide +kernel
theorem f4_274 : pm_f 4 274 = some (.aload_n 0, 1, 0, 0, 0, []) := by decide +kernel
theorem f4_275 : pm_f 4 275 = some (.iconst 0, 1, 0, 0, 0, []) := by decide +kernel
theorem f4_276 : pm_f 4 276 = some (.iconst 3, 1, 0, 0, 3, []) := by decide +kernel
theorem f4_277 : pm_f 4 277 = some (.iload_n 3, 1, 3, 0, 0, []) := by decide +kernel
theorem f4_278 : pm_f 4 278 = some (.iload 6, 2, 6, 0, 0, []) := by decide +kernel
theorem f4_280 : pm_f 4 280 = some (.invokevirtual 34, 3, 4, 4, 0, []) := by decide +kernel
theorem f4_283 : pm_f 4 283 = some (.aload_n 0, 1, 0, 0, 0, []) := by decide +kernel
theorem f4_284 : pm_f 4 284 = some (.getfield 25, 3, 0, 4, 0, []) := by decide +kernel
theorem f4_287 : pm_f 4 287 = some (.ixor, 1, 0, 0, 0, []) := by decide +kernel
theorem f4_288 : pm_f 4 288 = some (.ireturn, 1, 0, 0, 0, []) := by decide +kernel
theorem f4_289 : pm_f 4 289 = some (.iconst 0, 1, 0, 0, 0, []) := by decide +kernel
theorem f4_290 : pm_f 4 290 = some (.ireturn, 1, 0, 0, 0, []) := by decide +kernel
theorem f5_0 : pm_f 5 0 = some (.iload_n 1, 1, 1, 0, 0, []) := by decide +kernel
theorem f5_1 : pm_f 5 1 = some (.istore_n 2, 1, 2, 0, 0, []) := by decide +kernel
theorem f5_2 : pm_f 5 2 = some (.iconst 0, 1, 0, 0, 0, []) := by decide +kernel
theorem f5_3 : pm_f 5 3 = some (.istore_n 3, 1, 3, 0, 0, []) := by decide +kernel
theorem f5_4 : pm_f 5 4 = some (.iload_n 3, 1, 3, 0, 0, []) := by decide +kernel
theorem f5_5 : pm_f 5 5 = some (.bipush 7, 2, 0, 0, 7, []) := by decide +kernel
theorem f5_7 : pm_f 5 7 = some (.if_icmp .ge 63, 3, 70, 0, 0, []) := by decide +kernel
theorem f5_10 : pm_f 5 10 = some (.iload_n 2, 1, 2, 0, 0, []) := by decide +kernel
theorem f5_11 : pm_f 5 11 = some (.iconst 0, 1, 0, 0, 0, []) := by decide +kernel
theorem f5_12 : pm_f 5 12 = some (.bipush 6, 2, 0, 0, 6, []) := by decide +kernel
theorem f5_14 : pm_f 5 14 = some (.invokestatic 45, 3, 112, 3, 0, []) := by decide +kernel
theorem f5_17 : pm_f 5 17 = some (.ifCond .eq 53, 3, 70, 0, 0, []) := by decide +kernel
theorem f5_20 : pm_f 5 20 = some (.iload_n 2, 1, 2, 0, 0, []) := by decide +kernel
theorem f5_21 : pm_f 5 21 = some (.iconst 3, 1, 0, 0, 3, []) := by decide +kernel
theorem f5_22 : pm_f 5 22 = some (.imul, 1, 0, 0, 0, []) := by decide +kernel
theorem f5_23 : pm_f 5 23 = some (.iload_n 0, 1, 0, 0, 0, []) := by decide +kernel
theorem f5_24 : pm_f 5 24 = some (.iadd, 1, 0, 0, 0, []) := by decide +kernel
theorem f5_25 : pm_f 5 25 = some (.istore 4, 2, 4, 0, 0, []) := by decide +kernel
theorem f5_27 : pm_f 5 27 = some (.iload 4, 2, 4, 0, 0, []) := by decide +kernel
theorem f5_29 : pm_f 5 29 = some (.iconst 0, 1, 0, 0, 0, []) := by decide +kernel
theorem f5_30 : pm_f 5 30 = some (.getstatic 49, 3, 1000002, 0, 1, []) := by decide +kernel
theorem f5_33 : pm_f 5 33 = some (.arraylength, 1, 1, 0, 0, []) := by decide +kernel
theorem f5_34 : pm_f 5 34 = some (.iconst 1, 1, 0, 0, 1, []) := by decide +kernel
theorem f5_35 : pm_f 5 35 = some (.isub, 1, 0, 0, 0, []) := by decide +kernel
theorem f5_36 : pm_f 5 36 = some (.invokestatic 45, 3, 112, 3, 0, []) := by decide +kernel
theorem f5_39 : pm_f 5 39 = some (.ifCond .eq 19, 3, 58, 0, 0, []) := by decide +kernel
theorem f5_42 : pm_f 5 42 = some (.getstatic 49, 3, 1000002, 0, 1, []) := by decide +kernel
theorem f5_45 : pm_f 5 45 = some (.iload 4, 2, 4, 0, 0, []) := by decide +kernel
theorem f5_47 : pm_f 5 47 = some (.iaload, 1, 1, 0, 0, []) := by decide +kernel
theorem f5_48 : pm_f 5 48 = some (.ifCond .eq 10, 3, 58, 0, 0, []) := by decide +kernel
theorem f5_51 : pm_f 5 51 = some (.getstatic 49, 3, 1000002, 0, 1, []) := by decide +kernel
theorem f5_54 : pm_f 5 54 = some (.iload 4, 2, 4, 0, 0, []) := by decide +kernel
theorem f5_56 : pm_f 5 56 = some (.iaload, 1, 1, 0, 0, []) := by decide +kernel
theorem f5_57 : pm_f 5 57 = some (.ireturn, 1, 0, 0, 0, []) := by decide +kernel
theorem f5_58 : pm_f 5 58 = some (.getstatic 52, 3, 1000001, 0, 1, []) := by decide +kernel
theorem f5_61 : pm_f 5 61 = some (.iload_n 2, 1, 2, 0, 0, []) := by decide +kernel
theorem f5_62 : pm_f 5 62 = some (.iaload, 1, 1, 0, 0, []) := by decide +kernel
theorem f5_63 : pm_f 5 63 = some (.istore_n 2, 1, 2, 0, 0, []) := by decide +kernel
theorem f5_64 : pm_f 5 64 = some (.iinc 3 1, 3, 3, 0, 1, []) := by decide +kernel
theorem f5_67 : pm_f 5 67 = some (.goto (-63), 3, 4, 0, 0, []) := by decide +kernel
theorem f5_70 : pm_f 5 70 = some (.iconst 0, 1, 0, 0, 0, []) := by decide +kernel
theorem f5_71 : pm_f 5 71 = some (.ireturn, 1, 0, 0, 0, []) := by decide +kernel
theorem f6_0 : pm_f 6 0 = some (.aload_n 0, 1, 0, 0, 0, []) := by decide +kernel
theorem f6_1 : pm_f 6 1 = some (.getfield 15, 3, 0, 1, 0, []) := by decide +kernel
theorem f6_4 : pm_f 6 4 = some (.iconst 0, 1, 0, 0, 0, []) := by decide +kernel
theorem f6_5 : pm_f 6 5 = some (.bipush 19, 2, 0, 0, 19, []) := by decide +kernel
theorem f6_7 : pm_f 6 7 = some (.invokestatic 45, 3, 112, 3, 0, []) := by decide +kernel
theorem f6_10 : pm_f 6 10 = some (.ifCond .eq 13, 3, 23, 0, 0, []) := by decide +kernel
theorem f6_13 : pm_f 6 13 = some (.aload_n 0, 1, 0, 0, 0, []) := by decide +kernel
theorem f6_14 : pm_f 6 14 = some (.getfield 11, 3, 0, 0, 2, []) := by decide +kernel
theorem f6_17 : pm_f 6 17 = some (.aload_n 0, 1, 0, 0, 0, []) := by decide +kernel
theorem f6_18 : pm_f 6 18 = some (.getfield 15, 3, 0, 1, 0, []) := by decide +kernel
theorem f6_21 : pm_f 6 21 = some (.iload_n 1, 1, 1, 0, 0, []) := by decide +kernel
theorem f6_22 : pm_f 6 22 = some (.iastore, 1, 0, 0, 0, []) := by decide +kernel
theorem f6_23 : pm_f 6 23 = some (.aload_n 0, 1, 0, 0, 0, []) := by decide +kernel
theorem f6_24 : pm_f 6 24 = some (.dup, 1, 0, 0, 0, []) := by decide +kernel
theorem f6_25 : pm_f 6 25 = some (.getfield 15, 3, 0, 1, 0, []) := by decide +kernel
theorem f6_28 : pm_f 6 28 = some (.iconst 1, 1, 0, 0, 1, []) := by decide +kernel
theorem f6_29 : pm_f 6 29 = some (.iadd, 1, 0, 0, 0, []) := by decide +kernel
theorem f6_30 : pm_f 6 30 = some (.putfield 15, 3, 0, 1, 0, []) := by decide +kernel
theorem f6_33 : pm_f 6 33 = some (.return_, 1, 0, 0, 0, []) := by decide +kernel
theorem f7_0 : pm_f 7 0 = some (.aload_n 0, 1, 0, 0, 0, []) := by decide +kernel
theorem f7_1 : pm_f 7 1 = some (.invokespecial 3, 3, 0, 0, (-1), []) := by decide +kernel
theorem f7_4 : pm_f 7 4 = some (.aload_n 0, 1, 0, 0, 0, []) := by decide +kernel
theorem f7_5 : pm_f 7 5 = some (.aload_n 1, 1, 1, 0, 0, []) := by decide +kernel
theorem f7_6 : pm_f 7 6 = some (.putfield 9, 3, 1, 0, 2, []) := by decide +kernel
theorem f7_9 : pm_f 7 9 = some (.aload_n 0, 1, 0, 0, 0, []) := by decide +kernel
theorem f7_10 : pm_f 7 10 = some (.aload_n 2, 1, 2, 0, 0, []) := by decide +kernel
theorem f7_11 : pm_f 7 11 = some (.putfield 15, 3, 1, 1, 2, []) := by decide +kernel
theorem f7_14 : pm_f 7 14 = some (.return_, 1, 0, 0, 0, []) := by decide +kernel
theorem f8_0 : pm_f 8 0 = some (.aload_n 0, 1, 0, 0, 0, []) := by decide +kernel
theorem f8_1 : pm_f 8 1 = some (.getfield 15, 3, 1, 1, 2, []) := by decide +kernel
theorem f8_4 : pm_f 8 4 = some (.aload_n 0, 1, 0, 0, 0, []) := by decide +kernel
theorem f8_5 : pm_f 8 5 = some (.getfield 9, 3, 1, 0, 2, []) := by decide +kernel
theorem f8_8 : pm_f 8 8 = some (.invokevirtual 18, 3, 49, 1, 5, []) := by decide +kernel
theorem f8_11 : pm_f 8 11 = some (.return_, 1, 0, 0, 0, []) := by decide +kernel
theorem f9_0 : pm_f 9 0 = some (.aload_n 0, 1, 0, 0, 0, []) := by decide +kernel
theorem f9_1 : pm_f 9 1 = some (.invokevirtual 24, 3, 8, 0, 1, []) := by decide +kernel
theorem f9_4 : pm_f 9 4 = some (.aload_n 0, 1, 0, 0, 0, []) := by decide +kernel
theorem f9_5 : pm_f 9 5 = some (.getfield 15, 3, 1, 1, 2, []) := by decide +kernel
theorem f9_8 : pm_f 9 8 = some (.iload_n 1, 1, 1, 0, 0, []) := by decide +kernel
theorem f9_9 : pm_f 9 9 = some (.invokevirtual 27, 3, 61, 1, 5, []) := by decide +kernel
theorem f9_12 : pm_f 9 12 = some (.aload_n 0, 1, 0, 0, 0, []) := by decide +kernel
theorem f9_13 : pm_f 9 13 = some (.getfield 15, 3, 1, 1, 2, []) := by decide +kernel
theorem f9_16 : pm_f 9 16 = some (.areturn, 1, 0, 0, 0, []) := by decide +kernel
theorem f10_0 : pm_f 10 0 = some (.iconst 0, 1, 0, 0, 0, []) := by decide +kernel
theorem f10_1 : pm_f 10 1 = some (.istore_n 3, 1, 3, 0, 0, []) := by decide +kernel
theorem f10_2 : pm_f 10 2 = some (.iload_n 3, 1, 3, 0, 0, []) := by decide +kernel
theorem f10_3 : pm_f 10 3 = some (.iload_n 1, 1, 1, 0, 0, []) := by decide +kernel
theorem f10_4 : pm_f 10 4 = some (.if_icmp .gt 32, 3, 36, 0, 0, []) := by decide +kernel
theorem f10_7 : pm_f 10 7 = some (.iload_n 3, 1, 3, 0, 0, []) := by decide +kernel
theorem f10_8 : pm_f 10 8 = some (.ifCond .le 10, 3, 18, 0, 0, []) := by decide +kernel
theorem f10_11 : pm_f 10 11 = some (.aload_n 0, 1, 0, 0, 0, []) := by decide +kernel
theorem f10_12 : pm_f 10 12 = some (.getfield 15, 3, 1, 1, 2, []) := by decide +kernel
theorem f10_15 : pm_f 10 15 = some (.invokevirtual 31, 3, 62, 0, 5, []) := by decide +kernel
theorem f10_18 : pm_f 10 18 = some (.aload_n 0, 1, 0, 0, 0, []) := by decide +kernel
theorem f10_19 : pm_f 10 19 = some (.getfield 15, 3, 1, 1, 2, []) := by decide +kernel
theorem f10_22 : pm_f 10 22 = some (.invokevirtual 34, 3, 65, 0, 5, []) := by decide +kernel
theorem f10_25 : pm_f 10 25 = some (.ifCond .eq 5, 3, 30, 0, 0, []) := by decide +kernel
theorem f10_28 : pm_f 10 28 = some (.iload_n 3, 1, 3, 0, 0, []) := by decide +kernel
theorem f10_29 : pm_f 10 29 = some (.ireturn, 1, 0, 0, 0, []) := by decide +kernel
theorem f10_30 : pm_f 10 30 = some (.iinc 3 1, 3, 3, 0, 1, []) := by decide +kernel
theorem f10_33 : pm_f 10 33 = some (.goto (-31), 3, 2, 0, 0, []) := by decide +kernel
theorem f10_36 : pm_f 10 36 = some (.iload_n 2, 1, 2, 0, 0, []) := by decide +kernel
theorem f10_37 : pm_f 10 37 = some (.ireturn, 1, 0, 0, 0, []) := by decide +kernel
theorem f11_0 : pm_f 11 0 = some (.iconst 0, 1, 0, 0, 0, []) := by decide +kernel
theorem f11_1 : pm_f 11 1 = some (.istore_n 3, 1, 3, 0, 0, []) := by decide +kernel
theorem f11_2 : pm_f 11 2 = some (.iload_n 3, 1, 3, 0, 0, []) := by decide +kernel
theorem f11_3 : pm_f 11 3 = some (.iload_n 1, 1, 1, 0, 0, []) := by decide +kernel
theorem f11_4 : pm_f 11 4 = some (.if_icmp .gt 32, 3, 36, 0, 0, []) := by decide +kernel
theorem f11_7 : pm_f 11 7 = some (.iload_n 3, 1, 3, 0, 0, []) := by decide +kernel
theorem f11_8 : pm_f 11 8 = some (.ifCond .le 10, 3, 18, 0, 0, []) := by decide +kernel
theorem f11_11 : pm_f 11 11 = some (.aload_n 0, 1, 0, 0, 0, []) := by decide +kernel
theorem f11_12 : pm_f 11 12 = some (.getfield 15, 3, 1, 1, 2, []) := by decide +kernel
theorem f11_15 : pm_f 11 15 = some (.invokevirtual 31, 3, 62, 0, 5, []) := by decide +kernel
theorem f11_18 : pm_f 11 18 = some (.aload_n 0, 1, 0, 0, 0, []) := by decide +kernel
theorem f11_19 : pm_f 11 19 = some (.getfield 15, 3, 1, 1, 2, []) := by decide +kernel
theorem f11_22 : pm_f 11 22 = some (.invokevirtual 38, 3, 64, 0, 5, []) := by decide +kernel
theorem f11_25 : pm_f 11 25 = some (.ifCond .eq 5, 3, 30, 0, 0, []) := by decide +kernel
theorem f11_28 : pm_f 11 28 = some (.iload_n 3, 1, 3, 0, 0, []) := by decide +kernel
theorem f11_29 : pm_f 11 29 = some (.ireturn, 1, 0, 0, 0, []) := by decide +kernel
theorem f11_30 : pm_f 11 30 = some (.iinc 3 1, 3, 3, 0, 1, []) := by decide +kernel
theorem f11_33 : pm_f 11 33 = some (.goto (-31), 3, 2, 0, 0, []) := by decide +kernel
theorem f11_36 : pm_f 11 36 = some (.iload_n 2, 1, 2, 0, 0, []) := by decide +kernel
theorem f11_37 : pm_f 11 37 = some (.ireturn, 1, 0, 0, 0, []) := by decide +kernel
theorem f12_0 : pm_f 12 0 = some (.aload_n 0, 1, 0, 0, 0, []) := by decide +kernel
theorem f12_1 : pm_f 12 1 = some (.invokevirtual 24, 3, 8, 0, 1, []) := by decide +kernel
theorem f12_4 : pm_f 12 4 = some (.aload_n 0, 1, 0, 0, 0, []) := by decide +kernel
theorem f12_5 : pm_f 12 5 = some (.bipush 60, 2, 0, 0, 60, []) := by decide +kernel
theorem f12_7 : pm_f 12 7 = some (.bipush 61, 2, 0, 0, 61, []) := by decide +kernel
theorem f12_9 : pm_f 12 9 = some (.invokevirtual 41, 3, 10, 2, 1, []) := by decide +kernel
theorem f12_12 : pm_f 12 12 = some (.istore_n 1, 1, 1, 0, 0, []) := by decide +kernel
theorem f12_13 : pm_f 12 13 = some (.bipush (-5), 2, 0, 0, (-5), []) := by decide +kernel
theorem f12_15 : pm_f 12 15 = some (.istore_n 2, 1, 2, 0, 0, []) := by decide +kernel
theorem f12_16 : pm_f 12 16 = some (.iconst 0, 1, 0, 0, 0, []) := by decide +kernel
theorem f12_17 : pm_f 12 17 = some (.istore_n 3, 1, 3, 0, 0, []) := by decide +kernel
theorem f12_18 : pm_f 12 18 = some (.iload_n 3, 1, 3, 0, 0, []) := by decide +kernel
theorem f12_19 : pm_f 12 19 = some (.aload_n 0, 1, 0, 0, 0, []) := by decide +kernel
theorem f12_20 : pm_f 12 20 = some (.getfield 9, 3, 1, 0, 2, []) := by decide +kernel
theorem f12_23 : pm_f 12 23 = some (.getfield 45, 3, 5, 0, 0, []) := by decide +kernel
theorem f12_26 : pm_f 12 26 = some (.if_icmp .ge 102, 3, 128, 0, 0, []) := by decide +kernel
theorem f12_29 : pm_f 12 29 = some (.iload_n 3, 1, 3, 0, 0, []) := by decide +kernel
theorem f12_30 : pm_f 12 30 = some (.iconst 1, 1, 0, 0, 1, []) := by decide +kernel
theorem f12_31 : pm_f 12 31 = some (.iadd, 1, 0, 0, 0, []) := by decide +kernel
theorem f12_32 : pm_f 12 32 = some (.istore 4, 2, 4, 0, 0, []) := by decide +kernel
theorem f12_34 : pm_f 12 34 = some (.iload 4, 2, 4, 0, 0, []) := by decide +kernel
theorem f12_36 : pm_f 12 36 = some (.aload_n 0, 1, 0, 0, 0, []) := by decide +kernel
theorem f12_37 : pm_f 12 37 = some (.getfield 9, 3, 1, 0, 2, []) := by decide +kernel
theorem f12_40 : pm_f 12 40 = some (.getfield 45, 3, 5, 0, 0, []) := by decide +kernel
theorem f12_43 : pm_f 12 43 = some (.if_icmp .ge 79, 3, 122, 0, 0, []) := by decide +kernel
theorem f12_46 : pm_f 12 46 = some (.aload_n 0, 1, 0, 0, 0, []) := by decide +kernel
theorem f12_47 : pm_f 12 47 = some (.invokevirtual 24, 3, 8, 0, 1, []) := by decide +kernel
theorem f12_50 : pm_f 12 50 = some (.aload_n 0, 1, 0, 0, 0, []) := by decide +kernel
theorem f12_51 : pm_f 12 51 = some (.getfield 15, 3, 1, 1, 2, []) := by decide +kernel
theorem f12_54 : pm_f 12 54 = some (.getfield 49, 3, 5, 3, 2, []) := by decide +kernel
theorem f12_57 : pm_f 12 57 = some (.iload_n 3, 1, 3, 0, 0, []) := by decide +kernel
theorem f12_58 : pm_f 12 58 = some (.aload_n 0, 1, 0, 0, 0, []) := by decide +kernel
theorem f12_59 : pm_f 12 59 = some (.getfield 9, 3, 1, 0, 2, []) := by decide +kernel
theorem f12_62 : pm_f 12 62 = some (.getfield 49, 3, 5, 3, 2, []) := by decide +kernel
theorem f12_65 : pm_f 12 65 = some (.iload 4, 2, 4, 0, 0, []) := by decide +kernel
theorem f12_67 : pm_f 12 67 = some (.iaload, 1, 0, 0, 0, []) := by decide +kernel
theorem f12_68 : pm_f 12 68 = some (.iastore, 1, 0, 0, 0, []) := by decide +kernel
theorem f12_69 : pm_f 12 69 = some (.aload_n 0, 1, 0, 0, 0, []) := by decide +kernel
theorem f12_70 : pm_f 12 70 = some (.getfield 15, 3, 1, 1, 2, []) := by decide +kernel
theorem f12_73 : pm_f 12 73 = some (.getfield 49, 3, 5, 3, 2, []) := by decide +kernel
theorem f12_76 : pm_f 12 76 = some (.iload 4, 2, 4, 0, 0, []) := by decide +kernel
theorem f12_78 : pm_f 12 78 = some (.aload_n 0, 1, 0, 0, 0, []) := by decide +kernel
theorem f12_79 : pm_f 12 79 = some (.getfield 9, 3, 1, 0, 2, []) := by decide +kernel
theorem f12_82 : pm_f 12 82 = some (.getfield 49, 3, 5, 3, 2, []) := by decide +kernel
theorem f12_85 : pm_f 12 85 = some (.iload_n 3, 1, 3, 0, 0, []) := by decide +kernel
theorem f12_86 : pm_f 12 86 = some (.iaload, 1, 0, 0, 0, []) := by decide +kernel
theorem f12_87 : pm_f 12 87 = some (.iastore, 1, 0, 0, 0, []) := by decide +kernel
theorem f12_88 : pm_f 12 88 = some (.aload_n 0, 1, 0, 0, 0, []) := by decide +kernel
theorem f12_89 : pm_f 12 89 = some (.iload_n 1, 1, 1, 0, 0, []) := by decide +kernel
theorem f12_90 : pm_f 12 90 = some (.iconst 1, 1, 0, 0, 1, []) := by decide +kernel
theorem f12_91 : pm_f 12 91 = some (.isub, 1, 0, 0, 0, []) := by decide +kernel
theorem f12_92 : pm_f 12 92 = some (.bipush 61, 2, 0, 0, 61, []) := by decide +kernel
theorem f12_94 : pm_f 12 94 = some (.invokevirtual 41, 3, 10, 2, 1, []) := by decide +kernel
theorem f12_97 : pm_f 12 97 = some (.istore 5, 2, 5, 0, 0, []) := by decide +kernel
theorem f12_99 : pm_f 12 99 = some (.iload 5, 2, 5, 0, 0, []) := by decide +kernel
theorem f12_101 : pm_f 12 101 = some (.iload_n 1, 1, 1, 0, 0, []) := by decide +kernel
theorem f12_102 : pm_f 12 102 = some (.if_icmp .ge 14, 3, 116, 0, 0, []) := by decide +kernel
theorem f12_105 : pm_f 12 105 = some (.iload 5, 2, 5, 0, 0, []) := by decide +kernel
theorem f12_107 : pm_f 12 107 = some (.istore_n 1, 1, 1, 0, 0, []) := by decide +kernel
theorem f12_108 : pm_f 12 108 = some (.bipush 10, 2, 0, 0, 10, []) := by decide +kernel
theorem f12_110 : pm_f 12 110 = some (.iload_n 3, 1, 3, 0, 0, []) := by decide +kernel
theorem f12_111 : pm_f 12 111 = some (.imul, 1, 0, 0, 0, []) := by decide +kernel
theorem f12_112 : pm_f 12 112 = some (.iload 4, 2, 4, 0, 0, []) := by decide +kernel
theorem f12_114 : pm_f 12 114 = some (.iadd, 1, 0, 0, 0, []) := by decide +kernel
theorem f12_115 : pm_f 12 115 = some (.istore_n 2, 1, 2, 0, 0, []) := by decide +kernel
theorem f12_116 : pm_f 12 116 = some (.iinc 4 1, 3, 4, 0, 1, []) := by decide +kernel
theorem f12_119 : pm_f 12 119 = some (.goto (-85), 3, 34, 0, 0, []) := by decide +kernel
theorem f12_122 : pm_f 12 122 = some (.iinc 3 1, 3, 3, 0, 1, []) := by decide +kernel
theorem f12_125 : pm_f 12 125 = some (.goto (-107), 3, 18, 0, 0, []) := by decide +kernel
theorem f12_128 : pm_f 12 128 = some (.iload_n 2, 1, 2, 0, 0, []) := by decide +kernel
theorem f12_129 : pm_f 12 129 = some (.ireturn, 1, 0, 0, 0, []) := by decide +kernel
theorem f13_0 : pm_f 13 0 = some (.aload_n 0, 1, 0, 0, 0, []) := by decide +kernel
theorem f13_1 : pm_f 13 1 = some (.invokevirtual 24, 3, 8, 0, 1, []) := by decide +kernel
theorem f13_4 : pm_f 13 4 = some (.aload_n 0, 1, 0, 0, 0, []) := by decide +kernel
theorem f13_5 : pm_f 13 5 = some (.bipush 60, 2, 0, 0, 60, []) := by decide +kernel
theorem f13_7 : pm_f 13 7 = some (.bipush 61, 2, 0, 0, 61, []) := by decide +kernel
theorem f13_9 : pm_f 13 9 = some (.invokevirtual 53, 3, 11, 2, 1, []) := by decide +kernel
theorem f13_12 : pm_f 13 12 = some (.istore_n 1, 1, 1, 0, 0, []) := by decide +kernel
theorem f13_13 : pm_f 13 13 = some (.bipush (-5), 2, 0, 0, (-5), []) := by decide +kernel
theorem f13_15 : pm_f 13 15 = some (.istore_n 2, 1, 2, 0, 0, []) := by decide +kernel
theorem f13_16 : pm_f 13 16 = some (.iconst 0, 1, 0, 0, 0, []) := by decide +kernel
theorem f13_17 : pm_f 13 17 = some (.istore_n 3, 1, 3, 0, 0, []) := by decide +kernel
theorem f13_18 : pm_f 13 18 = some (.iload_n 3, 1, 3, 0, 0, []) := by decide +kernel
theorem f13_19 : pm_f 13 19 = some (.aload_n 0, 1, 0, 0, 0, []) := by decide +kernel
theorem f13_20 : pm_f 13 20 = some (.getfield 9, 3, 1, 0, 2, []) := by decide +kernel
theorem f13_23 : pm_f 13 23 = some (.getfield 45, 3, 5, 0, 0, []) := by decide +kernel
theorem f13_26 : pm_f 13 26 = some (.if_icmp .ge 57, 3, 83, 0, 0, []) := by decide +kernel
theorem f13_29 : pm_f 13 29 = some (.aload_n 0, 1, 0, 0, 0, []) := by decide +kernel
theorem f13_30 : pm_f 13 30 = some (.getfield 9, 3, 1, 0, 2, []) := by decide +kernel
theorem f13_33 : pm_f 13 33 = some (.iload_n 3, 1, 3, 0, 0, []) := by decide +kernel
theorem f13_34 : pm_f 13 34 = some (.invokevirtual 56, 3, 52, 1, 5, []) := by decide +kernel
theorem f13_37 : pm_f 13 37 = some (.ifCond .eq 6, 3, 43, 0, 0, []) := by decide +kernel
theorem f13_40 : pm_f 13 40 = some (.goto 37, 3, 77, 0, 0, []) := by decide +kernel
theorem f13_43 : pm_f 13 43 = some (.aload_n 0, 1, 0, 0, 0, []) := by decide +kernel
theorem f13_44 : pm_f 13 44 = some (.invokevirtual 24, 3, 8, 0, 1, []) := by decide +kernel
theorem f13_47 : pm_f 13 47 = some (.aload_n 0, 1, 0, 0, 0, []) := by decide +kernel
theorem f13_48 : pm_f 13 48 = some (.getfield 15, 3, 1, 1, 2, []) := by decide +kernel
theorem f13_51 : pm_f 13 51 = some (.iload_n 3, 1, 3, 0, 0, []) := by decide +kernel
theorem f13_52 : pm_f 13 52 = some (.iconst 1, 1, 0, 0, 1, []) := by decide +kernel
theorem f13_53 : pm_f 13 53 = some (.invokevirtual 60, 3, 53, 2, 5, []) := by decide +kernel
theorem f13_56 : pm_f 13 56 = some (.aload_n 0, 1, 0, 0, 0, []) := by decide +kernel
theorem f13_57 : pm_f 13 57 = some (.bipush 60, 2, 0, 0, 60, []) := by decide +kernel
theorem f13_59 : pm_f 13 59 = some (.bipush 61, 2, 0, 0, 61, []) := by decide +kernel
theorem f13_61 : pm_f 13 61 = some (.invokevirtual 53, 3, 11, 2, 1, []) := by decide +kernel
theorem f13_64 : pm_f 13 64 = some (.istore 4, 2, 4, 0, 0, []) := by decide +kernel
theorem f13_66 : pm_f 13 66 = some (.iload 4, 2, 4, 0, 0, []) := by decide +kernel
theorem f13_68 : pm_f 13 68 = some (.iload_n 1, 1, 1, 0, 0, []) := by decide +kernel
theorem f13_69 : pm_f 13 69 = some (.if_icmp .le 8, 3, 77, 0, 0, []) := by decide +kernel
theorem f13_72 : pm_f 13 72 = some (.iload 4, 2, 4, 0, 0, []) := by decide +kernel
theorem f13_74 : pm_f 13 74 = some (.istore_n 1, 1, 1, 0, 0, []) := by decide +kernel
theorem f13_75 : pm_f 13 75 = some (.iload_n 3, 1, 3, 0, 0, []) := by decide +kernel
theorem f13_76 : pm_f 13 76 = some (.istore_n 2, 1, 2, 0, 0, []) := by decide +kernel
theorem f13_77 : pm_f 13 77 = some (.iinc 3 1, 3, 3, 0, 1, []) := by decide +kernel
theorem f13_80 : pm_f 13 80 = some (.goto (-62), 3, 18, 0, 0, []) := by decide +kernel
theorem f13_83 : pm_f 13 83 = some (.iload_n 2, 1, 2, 0, 0, []) := by decide +kernel
theorem f13_84 : pm_f 13 84 = some (.ireturn, 1, 0, 0, 0, []) := by decide +kernel
theorem f14_0 : pm_f 14 0 = some (.bipush 10, 2, 0, 0, 10, []) := by decide +kernel
theorem f14_2 : pm_f 14 2 = some (.istore_n 2, 1, 2, 0, 0, []) := by decide +kernel
theorem f14_3 : pm_f 14 3 = some (.iload_n 2, 1, 2, 0, 0, []) := by decide +kernel
theorem f14_4 : pm_f 14 4 = some (.sipush 200, 3, 0, 0, 200, []) := by decide +kernel
theorem f14_7 : pm_f 14 7 = some (.if_icmp .gt 38, 3, 45, 0, 0, []) := by decide +kernel
theorem f14_10 : pm_f 14 10 = some (.aload_n 0, 1, 0, 0, 0, []) := by decide +kernel
theorem f14_11 : pm_f 14 11 = some (.invokevirtual 24, 3, 8, 0, 1, []) := by decide +kernel
theorem f14_14 : pm_f 14 14 = some (.aload_n 0, 1, 0, 0, 0, []) := by decide +kernel
theorem f14_15 : pm_f 14 15 = some (.getfield 15, 3, 1, 1, 2, []) := by decide +kernel
theorem f14_18 : pm_f 14 18 = some (.getfield 64, 3, 5, 5, 2, []) := by decide +kernel
theorem f14_21 : pm_f 14 21 = some (.iload_n 1, 1, 1, 0, 0, []) := by decide +kernel
theorem f14_22 : pm_f 14 22 = some (.iload_n 2, 1, 2, 0, 0, []) := by decide +kernel
theorem f14_23 : pm_f 14 23 = some (.iastore, 1, 0, 0, 0, []) := by decide +kernel
theorem f14_24 : pm_f 14 24 = some (.aload_n 0, 1, 0, 0, 0, []) := by decide +kernel
theorem f14_25 : pm_f 14 25 = some (.bipush 30, 2, 0, 0, 30, []) := by decide +kernel
theorem f14_27 : pm_f 14 27 = some (.bipush (-5), 2, 0, 0, (-5), []) := by decide +kernel
theorem f14_29 : pm_f 14 29 = some (.invokevirtual 41, 3, 10, 2, 1, []) := by decide +kernel
theorem f14_32 : pm_f 14 32 = some (.bipush (-5), 2, 0, 0, (-5), []) := by decide +kernel
theorem f14_34 : pm_f 14 34 = some (.if_icmp .eq 5, 3, 39, 0, 0, []) := by decide +kernel
theorem f14_37 : pm_f 14 37 = some (.iload_n 2, 1, 2, 0, 0, []) := by decide +kernel
theorem f14_38 : pm_f 14 38 = some (.ireturn, 1, 0, 0, 0, []) := by decide +kernel
theorem f14_39 : pm_f 14 39 = some (.iinc 2 10, 3, 2, 0, 10, []) := by decide +kernel
theorem f14_42 : pm_f 14 42 = some (.goto (-39), 3, 3, 0, 0, []) := by decide +kernel
theorem f14_45 : pm_f 14 45 = some (.bipush (-5), 2, 0, 0, (-5), []) := by decide +kernel
theorem f14_47 : pm_f 14 47 = some (.ireturn, 1, 0, 0, 0, []) := by decide +kernel
theorem f15_0 : pm_f 15 0 = some (.aload_n 0, 1, 0, 0, 0, []) := by decide +kernel
theorem f15_1 : pm_f 15 1 = some (.invokevirtual 24, 3, 8, 0, 1, []) := by decide +kernel
theorem f15_4 : pm_f 15 4 = some (.aload_n 0, 1, 0, 0, 0, []) := by decide +kernel
theorem f15_5 : pm_f 15 5 = some (.getfield 15, 3, 1, 1, 2, []) := by decide +kernel
theorem f15_8 : pm_f 15 8 = some (.getfield 67, 3, 5, 9, 0, []) := by decide +kernel
theorem f15_11 : pm_f 15 11 = some (.istore_n 2, 1, 2, 0, 0, []) := by decide +kernel
theorem f15_12 : pm_f 15 12 = some (.iconst 0, 1, 0, 0, 0, []) := by decide +kernel
theorem f15_13 : pm_f 15 13 = some (.istore_n 3, 1, 3, 0, 0, []) := by decide +kernel
theorem f15_14 : pm_f 15 14 = some (.iconst 1, 1, 0, 0, 1, []) := by decide +kernel
theorem f15_15 : pm_f 15 15 = some (.istore 4, 2, 4, 0, 0, []) := by decide +kernel
theorem f15_17 : pm_f 15 17 = some (.iload 4, 2, 4, 0, 0, []) := by decide +kernel
theorem f15_19 : pm_f 15 19 = some (.iload_n 1, 1, 1, 0, 0, []) := by decide +kernel
theorem f15_20 : pm_f 15 20 = some (.if_icmp .gt 38, 3, 58, 0, 0, []) := by decide +kernel
theorem f15_23 : pm_f 15 23 = some (.aload_n 0, 1, 0, 0, 0, []) := by decide +kernel
theorem f15_24 : pm_f 15 24 = some (.getfield 15, 3, 1, 1, 2, []) := by decide +kernel
theorem f15_27 : pm_f 15 27 = some (.invokevirtual 31, 3, 62, 0, 5, []) := by decide +kernel
theorem f15_30 : pm_f 15 30 = some (.aload_n 0, 1, 0, 0, 0, []) := by decide +kernel
theorem f15_31 : pm_f 15 31 = some (.getfield 15, 3, 1, 1, 2, []) := by decide +kernel
theorem f15_34 : pm_f 15 34 = some (.getfield 67, 3, 5, 9, 0, []) := by decide +kernel
theorem f15_37 : pm_f 15 37 = some (.iload_n 2, 1, 2, 0, 0, []) := by decide +kernel
theorem f15_38 : pm_f 15 38 = some (.if_icmp .le 14, 3, 52, 0, 0, []) := by decide +kernel
theorem f15_41 : pm_f 15 41 = some (.aload_n 0, 1, 0, 0, 0, []) := by decide +kernel
theorem f15_42 : pm_f 15 42 = some (.getfield 15, 3, 1, 1, 2, []) := by decide +kernel
theorem f15_45 : pm_f 15 45 = some (.getfield 67, 3, 5, 9, 0, []) := by decide +kernel
theorem f15_48 : pm_f 15 48 = some (.istore_n 2, 1, 2, 0, 0, []) := by decide +kernel
theorem f15_49 : pm_f 15 49 = some (.iload 4, 2, 4, 0, 0, []) := by decide +kernel
theorem f15_51 : pm_f 15 51 = some (.istore_n 3, 1, 3, 0, 0, []) := by decide +kernel
theorem f15_52 : pm_f 15 52 = some (.iinc 4 1, 3, 4, 0, 1, []) := by decide +kernel
theorem f15_55 : pm_f 15 55 = some (.goto (-38), 3, 17, 0, 0, []) := by decide +kernel
theorem f15_58 : pm_f 15 58 = some (.iload_n 3, 1, 3, 0, 0, []) := by decide +kernel
theorem f15_59 : pm_f 15 59 = some (.ireturn, 1, 0, 0, 0, []) := by decide +kernel
theorem f16_0 : pm_f 16 0 = some (.iconst 0, 1, 0, 0, 0, []) := by decide +kernel
theorem f16_1 : pm_f 16 1 = some (.istore_n 2, 1, 2, 0, 0, []) := by decide +kernel
theorem f16_2 : pm_f 16 2 = some (.iconst 0, 1, 0, 0, 0, []) := by decide +kernel
theorem f16_3 : pm_f 16 3 = some (.istore_n 3, 1, 3, 0, 0, []) := by decide +kernel
theorem f16_4 : pm_f 16 4 = some (.iload_n 3, 1, 3, 0, 0, []) := by decide +kernel
theorem f16_5 : pm_f 16 5 = some (.aload_n 0, 1, 0, 0, 0, []) := by decide +kernel
theorem f16_6 : pm_f 16 6 = some (.getfield 9, 3, 1, 0, 2, []) := by decide +kernel
theorem f16_9 : pm_f 16 9 = some (.getfield 45, 3, 5, 0, 0, []) := by decide +kernel
theorem f16_12 : pm_f 16 12 = some (.if_icmp .ge 36, 3, 48, 0, 0, []) := by decide +kernel
theorem f16_15 : pm_f 16 15 = some (.aload_n 0, 1, 0, 0, 0, []) := by decide +kernel
theorem f16_16 : pm_f 16 16 = some (.invokevirtual 24, 3, 8, 0, 1, []) := by decide +kernel
theorem f16_19 : pm_f 16 19 = some (.aload_n 0, 1, 0, 0, 0, []) := by decide +kernel
theorem f16_20 : pm_f 16 20 = some (.getfield 15, 3, 1, 1, 2, []) := by decide +kernel
theorem f16_23 : pm_f 16 23 = some (.iload_n 3, 1, 3, 0, 0, []) := by decide +kernel
theorem f16_24 : pm_f 16 24 = some (.iconst 1, 1, 0, 0, 1, []) := by decide +kernel
theorem f16_25 : pm_f 16 25 = some (.invokevirtual 60, 3, 53, 2, 5, []) := by decide +kernel
theorem f16_28 : pm_f 16 28 = some (.aload_n 0, 1, 0, 0, 0, []) := by decide +kernel
theorem f16_29 : pm_f 16 29 = some (.aload_n 1, 1, 1, 0, 0, []) := by decide +kernel
theorem f16_30 : pm_f 16 30 = some (.invokevirtual 70, 3, 18, 1, 1, []) := by decide +kernel
theorem f16_33 : pm_f 16 33 = some (.ifCond .eq 9, 3, 42, 0, 0, []) := by decide +kernel
theorem f16_36 : pm_f 16 36 = some (.iload_n 2, 1, 2, 0, 0, []) := by decide +kernel
theorem f16_37 : pm_f 16 37 = some (.iconst 1, 1, 0, 0, 1, []) := by decide +kernel
theorem f16_38 : pm_f 16 38 = some (.iload_n 3, 1, 3, 0, 0, []) := by decide +kernel
theorem f16_39 : pm_f 16 39 = some (.ishl, 1, 0, 0, 0, []) := by decide +kernel
theorem f16_40 : pm_f 16 40 = some (.ior, 1, 0, 0, 0, []) := by decide +kernel
theorem f16_41 : pm_f 16 41 = some (.istore_n 2, 1, 2, 0, 0, []) := by decide +kernel
theorem f16_42 : pm_f 16 42 = some (.iinc 3 1, 3, 3, 0, 1, []) := by decide +kernel
theorem f16_45 : pm_f 16 45 = some (.goto (-41), 3, 4, 0, 0, []) := by decide +kernel
theorem f16_48 : pm_f 16 48 = some (.iload_n 2, 1, 2, 0, 0, []) := by decide +kernel
theorem f16_49 : pm_f 16 49 = some (.ireturn, 1, 0, 0, 0, []) := by decide +kernel
theorem f17_0 : pm_f 17 0 = some (.iconst 0, 1, 0, 0, 0, []) := by decide +kernel
theorem f17_1 : pm_f 17 1 = some (.istore 4, 2, 4, 0, 0, []) := by decide +kernel
theorem f17_3 : pm_f 17 3 = some (.iconst 0, 1, 0, 0, 0, []) := by decide +kernel
theorem f17_4 : pm_f 17 4 = some (.istore 5, 2, 5, 0, 0, []) := by decide +kernel
theorem f17_6 : pm_f 17 6 = some (.iload 5, 2, 5, 0, 0, []) := by decide +kernel
theorem f17_8 : pm_f 17 8 = some (.bipush 99, 2, 0, 0, 99, []) := by decide +kernel
theorem f17_10 : pm_f 17 10 = some (.if_icmp .gt 42, 3, 52, 0, 0, []) := by decide +kernel
theorem f17_13 : pm_f 17 13 = some (.aload_n 0, 1, 0, 0, 0, []) := by decide +kernel
theorem f17_14 : pm_f 17 14 = some (.invokevirtual 24, 3, 8, 0, 1, []) := by decide +kernel
theorem f17_17 : pm_f 17 17 = some (.aload_n 0, 1, 0, 0, 0, []) := by decide +kernel
theorem f17_18 : pm_f 17 18 = some (.getfield 15, 3, 1, 1, 2, []) := by decide +kernel
theorem f17_21 : pm_f 17 21 = some (.getfield 74, 3, 5, 4, 2, []) := by decide +kernel
theorem f17_24 : pm_f 17 24 = some (.iload_n 1, 1, 1, 0, 0, []) := by decide +kernel
theorem f17_25 : pm_f 17 25 = some (.iload 5, 2, 5, 0, 0, []) := by decide +kernel
theorem f17_27 : pm_f 17 27 = some (.iastore, 1, 0, 0, 0, []) := by decide +kernel
theorem f17_28 : pm_f 17 28 = some (.aload_n 0, 1, 0, 0, 0, []) := by decide +kernel
theorem f17_29 : pm_f 17 29 = some (.aload_n 2, 1, 2, 0, 0, []) := by decide +kernel
theorem f17_30 : pm_f 17 30 = some (.invokevirtual 70, 3, 18, 1, 1, []) := by decide +kernel
theorem f17_33 : pm_f 17 33 = some (.ifCond .eq 13, 3, 46, 0, 0, []) := by decide +kernel
theorem f17_36 : pm_f 17 36 = some (.iload_n 3, 1, 3, 0, 0, []) := by decide +kernel
theorem f17_37 : pm_f 17 37 = some (.ifCond .eq 6, 3, 43, 0, 0, []) := by decide +kernel
theorem f17_40 : pm_f 17 40 = some (.iload 5, 2, 5, 0, 0, []) := by decide +kernel
theorem f17_42 : pm_f 17 42 = some (.ireturn, 1, 0, 0, 0, []) := by decide +kernel
theorem f17_43 : pm_f 17 43 = some (.iinc 4 1, 3, 4, 0, 1, []) := by decide +kernel
theorem f17_46 : pm_f 17 46 = some (.iinc 5 1, 3, 5, 0, 1, []) := by decide +kernel
theorem f17_49 : pm_f 17 49 = some (.goto (-43), 3, 6, 0, 0, []) := by decide +kernel
theorem f17_52 : pm_f 17 52 = some (.iload_n 3, 1, 3, 0, 0, []) := by decide +kernel
theorem f17_53 : pm_f 17 53 = some (.ifCond .eq 8, 3, 61, 0, 0, []) := by decide +kernel
theorem f17_56 : pm_f 17 56 = some (.bipush (-5), 2, 0, 0, (-5), []) := by decide +kernel
theorem f17_58 : pm_f 17 58 = some (.goto 5, 3, 63, 0, 0, []) := by decide +kernel
theorem f17_61 : pm_f 17 61 = some (.iload 4, 2, 4, 0, 0, []) := by decide +kernel
theorem f17_63 : pm_f 17 63 = some (.ireturn, 1, 0, 0, 0, []) := by decide +kernel
theorem f18_0 : pm_f 18 0 = some (.iconst 0, 1, 0, 0, 0, []) := by decide +kernel
theorem f18_1 : pm_f 18 1 = some (.istore_n 2, 1, 2, 0, 0, []) := by decide +kernel
theorem f18_2 : pm_f 18 2 = some (.iconst 0, 1, 0, 0, 0, []) := by decide +kernel
theorem f18_3 : pm_f 18 3 = some (.istore_n 3, 1, 3, 0, 0, []) := by decide +kernel
theorem f18_4 : pm_f 18 4 = some (.iload_n 3, 1, 3, 0, 0, []) := by decide +kernel
theorem f18_5 : pm_f 18 5 = some (.aload_n 1, 1, 1, 0, 0, []) := by decide +kernel
theorem f18_6 : pm_f 18 6 = some (.getfield 77, 3, 4, 0, 0, []) := by decide +kernel
theorem f18_9 : pm_f 18 9 = some (.if_icmp .ge 20, 3, 29, 0, 0, []) := by decide +kernel
theorem f18_12 : pm_f 18 12 = some (.iload_n 2, 1, 2, 0, 0, []) := by decide +kernel
theorem f18_13 : pm_f 18 13 = some (.aload_n 1, 1, 1, 0, 0, []) := by decide +kernel
theorem f18_14 : pm_f 18 14 = some (.getfield 82, 3, 4, 3, 2, []) := by decide +kernel
theorem f18_17 : pm_f 18 17 = some (.iload_n 3, 1, 3, 0, 0, []) := by decide +kernel
theorem f18_18 : pm_f 18 18 = some (.iaload, 1, 0, 0, 0, []) := by decide +kernel
theorem f18_19 : pm_f 18 19 = some (.invokestatic 85, 3, 0, 0, 1, []) := by decide +kernel
theorem f18_22 : pm_f 18 22 = some (.istore_n 2, 1, 2, 0, 0, []) := by decide +kernel
theorem f18_23 : pm_f 18 23 = some (.iinc 3 1, 3, 3, 0, 1, []) := by decide +kernel
theorem f18_26 : pm_f 18 26 = some (.goto (-22), 3, 4, 0, 0, []) := by decide +kernel
theorem f18_29 : pm_f 18 29 = some (.iconst 0, 1, 0, 0, 0, []) := by decide +kernel
theorem f18_30 : pm_f 18 30 = some (.istore_n 3, 1, 3, 0, 0, []) := by decide +kernel
theorem f18_31 : pm_f 18 31 = some (.iload_n 3, 1, 3, 0, 0, []) := by decide +kernel
theorem f18_32 : pm_f 18 32 = some (.iload_n 2, 1, 2, 0, 0, []) := by decide +kernel
theorem f18_33 : pm_f 18 33 = some (.if_icmp .gt 31, 3, 64, 0, 0, []) := by decide +kernel
theorem f18_36 : pm_f 18 36 = some (.iload_n 3, 1, 3, 0, 0, []) := by decide +kernel
theorem f18_37 : pm_f 18 37 = some (.ifCond .le 10, 3, 47, 0, 0, []) := by decide +kernel
theorem f18_40 : pm_f 18 40 = some (.aload_n 0, 1, 0, 0, 0, []) := by decide +kernel
theorem f18_41 : pm_f 18 41 = some (.getfield 15, 3, 1, 1, 2, []) := by decide +kernel
theorem f18_44 : pm_f 18 44 = some (.invokevirtual 31, 3, 62, 0, 5, []) := by decide +kernel
theorem f18_47 : pm_f 18 47 = some (.aload_n 0, 1, 0, 0, 0, []) := by decide +kernel
theorem f18_48 : pm_f 18 48 = some (.iload_n 3, 1, 3, 0, 0, []) := by decide +kernel
theorem f18_49 : pm_f 18 49 = some (.aload_n 1, 1, 1, 0, 0, []) := by decide +kernel
theorem f18_50 : pm_f 18 50 = some (.invokevirtual 90, 3, 19, 2, 1, []) := by decide +kernel
theorem f18_53 : pm_f 18 53 = some (.ifCond .ne 5, 3, 58, 0, 0, []) := by decide +kernel
theorem f18_56 : pm_f 18 56 = some (.iconst 0, 1, 0, 0, 0, []) := by decide +kernel
theorem f18_57 : pm_f 18 57 = some (.ireturn, 1, 0, 0, 1, []) := by decide +kernel
theorem f18_58 : pm_f 18 58 = some (.iinc 3 1, 3, 3, 0, 1, []) := by decide +kernel
theorem f18_61 : pm_f 18 61 = some (.goto (-30), 3, 31, 0, 0, []) := by decide +kernel
theorem f18_64 : pm_f 18 64 = some (.iconst 1, 1, 0, 0, 1, []) := by decide +kernel
theorem f18_65 : pm_f 18 65 = some (.ireturn, 1, 0, 0, 1, []) := by decide +kernel
theorem f19_0 : pm_f 19 0 = some (.iconst 0, 1, 0, 0, 0, []) := by decide +kernel
theorem f19_1 : pm_f 19 1 = some (.istore_n 3, 1, 3, 0, 0, []) := by decide +kernel
theorem f19_2 : pm_f 19 2 = some (.iload_n 3, 1, 3, 0, 0, []) := by decide +kernel
theorem f19_3 : pm_f 19 3 = some (.aload_n 2, 1, 2, 0, 0, []) := by decide +kernel
theorem f19_4 : pm_f 19 4 = some (.getfield 77, 3, 4, 0, 0, []) := by decide +kernel
theorem f19_7 : pm_f 19 7 = some (.if_icmp .ge 60, 3, 67, 0, 0, []) := by decide +kernel
theorem f19_10 : pm_f 19 10 = some (.aload_n 2, 1, 2, 0, 0, []) := by decide +kernel
theorem f19_11 : pm_f 19 11 = some (.getfield 94, 3, 4, 1, 2, []) := by decide +kernel
theorem f19_14 : pm_f 19 14 = some (.iload_n 3, 1, 3, 0, 0, []) := by decide +kernel
theorem f19_15 : pm_f 19 15 = some (.iaload, 1, 0, 0, 0, []) := by decide +kernel
theorem f19_16 : pm_f 19 16 = some (.istore 4, 2, 4, 0, 0, []) := by decide +kernel
theorem f19_18 : pm_f 19 18 = some (.aload_n 2, 1, 2, 0, 0, []) := by decide +kernel
theorem f19_19 : pm_f 19 19 = some (.getfield 82, 3, 4, 3, 2, []) := by decide +kernel
theorem f19_22 : pm_f 19 22 = some (.iload_n 3, 1, 3, 0, 0, []) := by decide +kernel
theorem f19_23 : pm_f 19 23 = some (.iaload, 1, 0, 0, 0, []) := by decide +kernel
theorem f19_24 : pm_f 19 24 = some (.iload_n 1, 1, 1, 0, 0, []) := by decide +kernel
theorem f19_25 : pm_f 19 25 = some (.if_icmp .ne 36, 3, 61, 0, 0, []) := by decide +kernel
theorem f19_28 : pm_f 19 28 = some (.aload_n 0, 1, 0, 0, 0, []) := by decide +kernel
theorem f19_29 : pm_f 19 29 = some (.getfield 15, 3, 1, 1, 2, []) := by decide +kernel
theorem f19_32 : pm_f 19 32 = some (.iload 4, 2, 4, 0, 0, []) := by decide +kernel
theorem f19_34 : pm_f 19 34 = some (.invokevirtual 97, 3, 50, 1, 5, []) := by decide +kernel
theorem f19_37 : pm_f 19 37 = some (.ifCond .eq 24, 3, 61, 0, 0, []) := by decide +kernel
theorem f19_40 : pm_f 19 40 = some (.aload_n 0, 1, 0, 0, 0, []) := by decide +kernel
theorem f19_41 : pm_f 19 41 = some (.getfield 15, 3, 1, 1, 2, []) := by decide +kernel
theorem f19_44 : pm_f 19 44 = some (.getfield 64, 3, 5, 5, 2, []) := by decide +kernel
theorem f19_47 : pm_f 19 47 = some (.iload 4, 2, 4, 0, 0, []) := by decide +kernel
theorem f19_49 : pm_f 19 49 = some (.iaload, 1, 0, 0, 0, []) := by decide +kernel
theorem f19_50 : pm_f 19 50 = some (.aload_n 2, 1, 2, 0, 0, []) := by decide +kernel
theorem f19_51 : pm_f 19 51 = some (.getfield 100, 3, 4, 2, 2, []) := by decide +kernel
theorem f19_54 : pm_f 19 54 = some (.iload_n 3, 1, 3, 0, 0, []) := by decide +kernel
theorem f19_55 : pm_f 19 55 = some (.iaload, 1, 0, 0, 0, []) := by decide +kernel
theorem f19_56 : pm_f 19 56 = some (.if_icmp .eq 5, 3, 61, 0, 0, []) := by decide +kernel
theorem f19_59 : pm_f 19 59 = some (.iconst 0, 1, 0, 0, 0, []) := by decide +kernel
theorem f19_60 : pm_f 19 60 = some (.ireturn, 1, 0, 0, 1, []) := by decide +kernel
theorem f19_61 : pm_f 19 61 = some (.iinc 3 1, 3, 3, 0, 1, []) := by decide +kernel
theorem f19_64 : pm_f 19 64 = some (.goto (-62), 3, 2, 0, 0, []) := by decide +kernel
theorem f19_67 : pm_f 19 67 = some (.iconst 1, 1, 0, 0, 1, []) := by decide +kernel
theorem f19_68 : pm_f 19 68 = some (.ireturn, 1, 0, 0, 1, []) := by decide +kernel
theorem f20_0 : pm_f 20 0 = some (.iconst 0, 1, 0, 0, 0, []) := by decide +kernel
theorem f20_1 : pm_f 20 1 = some (.istore_n 2, 1, 2, 0, 0, []) := by decide +kernel
theorem f20_2 : pm_f 20 2 = some (.iconst 0, 1, 0, 0, 0, []) := by decide +kernel
theorem f20_3 : pm_f 20 3 = some (.istore_n 3, 1, 3, 0, 0, []) := by decide +kernel
theorem f20_4 : pm_f 20 4 = some (.iload_n 3, 1, 3, 0, 0, []) := by decide +kernel
theorem f20_5 : pm_f 20 5 = some (.aload_n 0, 1, 0, 0, 0, []) := by decide +kernel
theorem f20_6 : pm_f 20 6 = some (.getfield 9, 3, 1, 0, 2, []) := by decide +kernel
theorem f20_9 : pm_f 20 9 = some (.getfield 45, 3, 5, 0, 0, []) := by decide +kernel
theorem f20_12 : pm_f 20 12 = some (.if_icmp .ge 42, 3, 54, 0, 0, []) := by decide +kernel
theorem f20_15 : pm_f 20 15 = some (.aload_n 0, 1, 0, 0, 0, []) := by decide +kernel
theorem f20_16 : pm_f 20 16 = some (.invokevirtual 24, 3, 8, 0, 1, []) := by decide +kernel
theorem f20_19 : pm_f 20 19 = some (.aload_n 0, 1, 0, 0, 0, []) := by decide +kernel
theorem f20_20 : pm_f 20 20 = some (.getfield 15, 3, 1, 1, 2, []) := by decide +kernel
theorem f20_23 : pm_f 20 23 = some (.iload_n 3, 1, 3, 0, 0, []) := by decide +kernel
theorem f20_24 : pm_f 20 24 = some (.iconst 1, 1, 0, 0, 1, []) := by decide +kernel
theorem f20_25 : pm_f 20 25 = some (.invokevirtual 60, 3, 53, 2, 5, []) := by decide +kernel
theorem f20_28 : pm_f 20 28 = some (.iload_n 2, 1, 2, 0, 0, []) := by decide +kernel
theorem f20_29 : pm_f 20 29 = some (.aload_n 0, 1, 0, 0, 0, []) := by decide +kernel
theorem f20_30 : pm_f 20 30 = some (.iload_n 1, 1, 1, 0, 0, []) := by decide +kernel
theorem f20_31 : pm_f 20 31 = some (.bipush (-5), 2, 0, 0, (-5), []) := by decide +kernel
theorem f20_33 : pm_f 20 33 = some (.invokevirtual 41, 3, 10, 2, 1, []) := by decide +kernel
theorem f20_36 : pm_f 20 36 = some (.bipush (-5), 2, 0, 0, (-5), []) := by decide +kernel
theorem f20_38 : pm_f 20 38 = some (.if_icmp .eq 7, 3, 45, 0, 0, []) := by decide +kernel
theorem f20_41 : pm_f 20 41 = some (.iconst 1, 1, 0, 0, 1, []) := by decide +kernel
theorem f20_42 : pm_f 20 42 = some (.goto 4, 3, 46, 0, 0, []) := by decide +kernel
theorem f20_45 : pm_f 20 45 = some (.iconst 0, 1, 0, 0, 0, []) := by decide +kernel
theorem f20_46 : pm_f 20 46 = some (.iadd, 1, 0, 0, 0, []) := by decide +kernel
theorem f20_47 : pm_f 20 47 = some (.istore_n 2, 1, 2, 0, 0, []) := by decide +kernel
theorem f20_48 : pm_f 20 48 = some (.iinc 3 1, 3, 3, 0, 1, []) := by decide +kernel
theorem f20_51 : pm_f 20 51 = some (.goto (-47), 3, 4, 0, 0, []) := by decide +kernel
theorem f20_54 : pm_f 20 54 = some (.iload_n 2, 1, 2, 0, 0, []) := by decide +kernel
theorem f20_55 : pm_f 20 55 = some (.ireturn, 1, 0, 0, 0, []) := by decide +kernel
theorem f21_0 : pm_f 21 0 = some (.aload_n 0, 1, 0, 0, 0, []) := by decide +kernel
theorem f21_1 : pm_f 21 1 = some (.invokevirtual 24, 3, 8, 0, 1, []) := by decide +kernel
theorem f21_4 : pm_f 21 4 = some (.iconst 0, 1, 0, 0, 0, []) := by decide +kernel
theorem f21_5 : pm_f 21 5 = some (.istore_n 2, 1, 2, 0, 0, []) := by decide +kernel
theorem f21_6 : pm_f 21 6 = some (.iload_n 2, 1, 2, 0, 0, []) := by decide +kernel
theorem f21_7 : pm_f 21 7 = some (.aload_n 1, 1, 1, 0, 0, []) := by decide +kernel
theorem f21_8 : pm_f 21 8 = some (.getfield 77, 3, 4, 0, 0, []) := by decide +kernel
theorem f21_11 : pm_f 21 11 = some (.if_icmp .ge 56, 3, 67, 0, 0, []) := by decide +kernel
theorem f21_14 : pm_f 21 14 = some (.aload_n 1, 1, 1, 0, 0, []) := by decide +kernel
theorem f21_15 : pm_f 21 15 = some (.getfield 94, 3, 4, 1, 2, []) := by decide +kernel
theorem f21_18 : pm_f 21 18 = some (.iload_n 2, 1, 2, 0, 0, []) := by decide +kernel
theorem f21_19 : pm_f 21 19 = some (.iaload, 1, 0, 0, 0, []) := by decide +kernel
theorem f21_20 : pm_f 21 20 = some (.ifCond .ne 13, 3, 33, 0, 0, []) := by decide +kernel
theorem f21_23 : pm_f 21 23 = some (.aload_n 0, 1, 0, 0, 0, []) := by decide +kernel
theorem f21_24 : pm_f 21 24 = some (.getfield 15, 3, 1, 1, 2, []) := by decide +kernel
theorem f21_27 : pm_f 21 27 = some (.invokevirtual 31, 3, 62, 0, 5, []) := by decide +kernel
theorem f21_30 : pm_f 21 30 = some (.goto 31, 3, 61, 0, 0, []) := by decide +kernel
theorem f21_33 : pm_f 21 33 = some (.aload_n 0, 1, 0, 0, 0, []) := by decide +kernel
theorem f21_34 : pm_f 21 34 = some (.getfield 15, 3, 1, 1, 2, []) := by decide +kernel
theorem f21_37 : pm_f 21 37 = some (.aload_n 1, 1, 1, 0, 0, []) := by decide +kernel
theorem f21_38 : pm_f 21 38 = some (.getfield 100, 3, 4, 2, 2, []) := by decide +kernel
theorem f21_41 : pm_f 21 41 = some (.iload_n 2, 1, 2, 0, 0, []) := by decide +kernel
theorem f21_42 : pm_f 21 42 = some (.iaload, 1, 0, 0, 0, []) := by decide +kernel
theorem f21_43 : pm_f 21 43 = some (.aload_n 1, 1, 1, 0, 0, []) := by decide +kernel
theorem f21_44 : pm_f 21 44 = some (.getfield 94, 3, 4, 1, 2, []) := by decide +kernel
theorem f21_47 : pm_f 21 47 = some (.iload_n 2, 1, 2, 0, 0, []) := by decide +kernel
theorem f21_48 : pm_f 21 48 = some (.iaload, 1, 0, 0, 0, []) := by decide +kernel
theorem f21_49 : pm_f 21 49 = some (.iconst 1, 1, 0, 0, 1, []) := by decide +kernel
theorem f21_50 : pm_f 21 50 = some (.if_icmp .ne 7, 3, 57, 0, 0, []) := by decide +kernel
theorem f21_53 : pm_f 21 53 = some (.iconst 1, 1, 0, 0, 1, []) := by decide +kernel
theorem f21_54 : pm_f 21 54 = some (.goto 4, 3, 58, 0, 0, []) := by decide +kernel
theorem f21_57 : pm_f 21 57 = some (.iconst 0, 1, 0, 0, 0, []) := by decide +kernel
theorem f21_58 : pm_f 21 58 = some (.invokevirtual 60, 3, 53, 2, 5, []) := by decide +kernel
theorem f21_61 : pm_f 21 61 = some (.iinc 2 1, 3, 2, 0, 1, []) := by decide +kernel
theorem f21_64 : pm_f 21 64 = some (.goto (-58), 3, 6, 0, 0, []) := by decide +kernel
theorem f21_67 : pm_f 21 67 = some (.aload_n 0, 1, 0, 0, 0, []) := by decide +kernel
theorem f21_68 : pm_f 21 68 = some (.getfield 15, 3, 1, 1, 2, []) := by decide +kernel
theorem f21_71 : pm_f 21 71 = some (.areturn, 1, 0, 0, 0, []) := by decide +kernel
theorem f22_0 : pm_f 22 0 = some (.aload_n 0, 1, 0, 0, 0, []) := by decide +kernel
theorem f22_1 : pm_f 22 1 = some (.invokespecial 3, 3, 0, 0, (-1), []) := by decide +kernel
theorem f22_4 : pm_f 22 4 = some (.aload_n 0, 1, 0, 0, 0, []) := by decide +kernel
theorem f22_5 : pm_f 22 5 = some (.bipush 10, 2, 0, 0, 10, []) := by decide +kernel
theorem f22_7 : pm_f 22 7 = some (.newarray .int, 2, 1, 0, 0, []) := by decide +kernel
theorem f22_9 : pm_f 22 9 = some (.putfield 9, 3, 2, 4, 2, []) := by decide +kernel
theorem f22_12 : pm_f 22 12 = some (.aload_n 0, 1, 0, 0, 0, []) := by decide +kernel
theorem f22_13 : pm_f 22 13 = some (.bipush 10, 2, 0, 0, 10, []) := by decide +kernel
theorem f22_15 : pm_f 22 15 = some (.newarray .int, 2, 1, 0, 0, []) := by decide +kernel
theorem f22_17 : pm_f 22 17 = some (.putfield 15, 3, 2, 5, 2, []) := by decide +kernel
theorem f22_20 : pm_f 22 20 = some (.aload_n 0, 1, 0, 0, 0, []) := by decide +kernel
theorem f22_21 : pm_f 22 21 = some (.bipush 100, 2, 0, 0, 100, []) := by decide +kernel
theorem f22_23 : pm_f 22 23 = some (.newarray .int, 2, 1, 0, 0, []) := by decide +kernel
theorem f22_25 : pm_f 22 25 = some (.putfield 18, 3, 2, 7, 2, []) := by decide +kernel
theorem f22_28 : pm_f 22 28 = some (.aload_n 0, 1, 0, 0, 0, []) := by decide +kernel
theorem f22_29 : pm_f 22 29 = some (.bipush 100, 2, 0, 0, 100, []) := by decide +kernel
theorem f22_31 : pm_f 22 31 = some (.newarray .int, 2, 1, 0, 0, []) := by decide +kernel
theorem f22_33 : pm_f 22 33 = some (.putfield 21, 3, 2, 8, 2, []) := by decide +kernel
theorem f22_36 : pm_f 22 36 = some (.aload_n 0, 1, 0, 0, 0, []) := by decide +kernel
theorem f22_37 : pm_f 22 37 = some (.bipush 100, 2, 0, 0, 100, []) := by decide +kernel
theorem f22_39 : pm_f 22 39 = some (.newarray .int, 2, 1, 0, 0, []) := by decide +kernel
theorem f22_41 : pm_f 22 41 = some (.putfield 24, 3, 2, 9, 2, []) := by decide +kernel
theorem f22_44 : pm_f 22 44 = some (.aload_n 0, 1, 0, 0, 0, []) := by decide +kernel
theorem f22_45 : pm_f 22 45 = some (.invokevirtual 27, 3, 23, 0, 2, []) := by decide +kernel
theorem f22_48 : pm_f 22 48 = some (.return_, 1, 0, 0, 0, []) := by decide +kernel
theorem f23_0 : pm_f 23 0 = some (.aload_n 0, 1, 0, 0, 0, []) := by decide +kernel
theorem f23_1 : pm_f 23 1 = some (.iconst 2, 1, 0, 0, 2, []) := by decide +kernel
theorem f23_2 : pm_f 23 2 = some (.putfield 30, 3, 2, 0, 0, []) := by decide +kernel
theorem f23_5 : pm_f 23 5 = some (.aload_n 0, 1, 0, 0, 0, []) := by decide +kernel
theorem f23_6 : pm_f 23 6 = some (.bipush 60, 2, 0, 0, 60, []) := by decide +kernel
theorem f23_8 : pm_f 23 8 = some (.putfield 34, 3, 2, 1, 0, []) := by decide +kernel
theorem f23_11 : pm_f 23 11 = some (.aload_n 0, 1, 0, 0, 0, []) := by decide +kernel
theorem f23_12 : pm_f 23 12 = some (.iconst 5, 1, 0, 0, 5, []) := by decide +kernel
theorem f23_13 : pm_f 23 13 = some (.putfield 37, 3, 2, 2, 0, []) := by decide +kernel
theorem f23_16 : pm_f 23 16 = some (.aload_n 0, 1, 0, 0, 0, []) := by decide +kernel
theorem f23_17 : pm_f 23 17 = some (.iconst 0, 1, 0, 0, 0, []) := by decide +kernel
theorem f23_18 : pm_f 23 18 = some (.putfield 40, 3, 2, 3, 0, []) := by decide +kernel
theorem f23_21 : pm_f 23 21 = some (.aload_n 0, 1, 0, 0, 0, []) := by decide +kernel
theorem f23_22 : pm_f 23 22 = some (.iconst 0, 1, 0, 0, 0, []) := by decide +kernel
theorem f23_23 : pm_f 23 23 = some (.putfield 43, 3, 2, 6, 0, []) := by decide +kernel
theorem f23_26 : pm_f 23 26 = some (.return_, 1, 0, 0, 0, []) := by decide +kernel
theorem f24_0 : pm_f 24 0 = some (.aload_n 0, 1, 0, 0, 0, []) := by decide +kernel
theorem f24_1 : pm_f 24 1 = some (.getfield 43, 3, 2, 6, 0, []) := by decide +kernel
theorem f24_4 : pm_f 24 4 = some (.bipush 100, 2, 0, 0, 100, []) := by decide +kernel
theorem f24_6 : pm_f 24 6 = some (.if_icmp .ge 43, 3, 49, 0, 0, []) := by decide +kernel
theorem f24_9 : pm_f 24 9 = some (.aload_n 0, 1, 0, 0, 0, []) := by decide +kernel
theorem f24_10 : pm_f 24 10 = some (.getfield 18, 3, 2, 7, 2, []) := by decide +kernel
theorem f24_13 : pm_f 24 13 = some (.aload_n 0, 1, 0, 0, 0, []) := by decide +kernel
theorem f24_14 : pm_f 24 14 = some (.getfield 43, 3, 2, 6, 0, []) := by decide +kernel
theorem f24_17 : pm_f 24 17 = some (.iload_n 1, 1, 1, 0, 0, []) := by decide +kernel
theorem f24_18 : pm_f 24 18 = some (.iastore, 1, 0, 0, 0, []) := by decide +kernel
theorem f24_19 : pm_f 24 19 = some (.aload_n 0, 1, 0, 0, 0, []) := by decide +kernel
theorem f24_20 : pm_f 24 20 = some (.getfield 21, 3, 2, 8, 2, []) := by decide +kernel
theorem f24_23 : pm_f 24 23 = some (.aload_n 0, 1, 0, 0, 0, []) := by decide +kernel
theorem f24_24 : pm_f 24 24 = some (.getfield 43, 3, 2, 6, 0, []) := by decide +kernel
theorem f24_27 : pm_f 24 27 = some (.iload_n 2, 1, 2, 0, 0, []) := by decide +kernel
theorem f24_28 : pm_f 24 28 = some (.iastore, 1, 0, 0, 0, []) := by decide +kernel
theorem f24_29 : pm_f 24 29 = some (.aload_n 0, 1, 0, 0, 0, []) := by decide +kernel
theorem f24_30 : pm_f 24 30 = some (.getfield 24, 3, 2, 9, 2, []) := by decide +kernel
theorem f24_33 : pm_f 24 33 = some (.aload_n 0, 1, 0, 0, 0, []) := by decide +kernel
theorem f24_34 : pm_f 24 34 = some (.getfield 43, 3, 2, 6, 0, []) := by decide +kernel
theorem f24_37 : pm_f 24 37 = some (.iload_n 3, 1, 3, 0, 0, []) := by decide +kernel
theorem f24_38 : pm_f 24 38 = some (.iastore, 1, 0, 0, 0, []) := by decide +kernel
theorem f24_39 : pm_f 24 39 = some (.aload_n 0, 1, 0, 0, 0, []) := by decide +kernel
theorem f24_40 : pm_f 24 40 = some (.dup, 1, 0, 0, 0, []) := by decide +kernel
theorem f24_41 : pm_f 24 41 = some (.getfield 43, 3, 2, 6, 0, []) := by decide +kernel
theorem f24_44 : pm_f 24 44 = some (.iconst 1, 1, 0, 0, 1, []) := by decide +kernel
theorem f24_45 : pm_f 24 45 = some (.iadd, 1, 0, 0, 0, []) := by decide +kernel
theorem f24_46 : pm_f 24 46 = some (.putfield 43, 3, 2, 6, 0, []) := by decide +kernel
theorem f24_49 : pm_f 24 49 = some (.return_, 1, 0, 0, 0, []) := by decide +kernel
theorem f25_0 : pm_f 25 0 = some (.aload_n 0, 1, 0, 0, 0, []) := by decide +kernel
theorem f25_1 : pm_f 25 1 = some (.getfield 40, 3, 2, 3, 0, []) := by decide +kernel
theorem f25_4 : pm_f 25 4 = some (.bipush 10, 2, 0, 0, 10, []) := by decide +kernel
theorem f25_6 : pm_f 25 6 = some (.if_icmp .ge 36, 3, 42, 0, 0, []) := by decide +kernel
theorem f25_9 : pm_f 25 9 = some (.aload_n 0, 1, 0, 0, 0, []) := by decide +kernel
theorem f25_10 : pm_f 25 10 = some (.getfield 9, 3, 2, 4, 2, []) := by decide +kernel
theorem f25_13 : pm_f 25 13 = some (.aload_n 0, 1, 0, 0, 0, []) := by decide +kernel
theorem f25_14 : pm_f 25 14 = some (.getfield 40, 3, 2, 3, 0, []) := by decide +kernel
theorem f25_17 : pm_f 25 17 = some (.iload_n 1, 1, 1, 0, 0, []) := by decide +kernel
theorem f25_18 : pm_f 25 18 = some (.iastore, 1, 0, 0, 0, []) := by decide +kernel
theorem f25_19 : pm_f 25 19 = some (.aload_n 0, 1, 0, 0, 0, []) := by decide +kernel
theorem f25_20 : pm_f 25 20 = some (.getfield 15, 3, 2, 5, 2, []) := by decide +kernel
theorem f25_23 : pm_f 25 23 = some (.aload_n 0, 1, 0, 0, 0, []) := by decide +kernel
theorem f25_24 : pm_f 25 24 = some (.getfield 40, 3, 2, 3, 0, []) := by decide +kernel
theorem f25_27 : pm_f 25 27 = some (.aload_n 0, 1, 0, 0, 0, []) := by decide +kernel
theorem f25_28 : pm_f 25 28 = some (.getfield 43, 3, 2, 6, 0, []) := by decide +kernel
theorem f25_31 : pm_f 25 31 = some (.iastore, 1, 0, 0, 0, []) := by decide +kernel
theorem f25_32 : pm_f 25 32 = some (.aload_n 0, 1, 0, 0, 0, []) := by decide +kernel
theorem f25_33 : pm_f 25 33 = some (.dup, 1, 0, 0, 0, []) := by decide +kernel
theorem f25_34 : pm_f 25 34 = some (.getfield 40, 3, 2, 3, 0, []) := by decide +kernel
theorem f25_37 : pm_f 25 37 = some (.iconst 1, 1, 0, 0, 1, []) := by decide +kernel
theorem f25_38 : pm_f 25 38 = some (.iadd, 1, 0, 0, 0, []) := by decide +kernel
theorem f25_39 : pm_f 25 39 = some (.putfield 40, 3, 2, 3, 0, []) := by decide +kernel
theorem f25_42 : pm_f 25 42 = some (.return_, 1, 0, 0, 0, []) := by decide +kernel
theorem f26_0 : pm_f 26 0 = some (.iconst 0, 1, 0, 0, 0, []) := by decide +kernel
theorem f26_1 : pm_f 26 1 = some (.istore_n 3, 1, 3, 0, 0, []) := by decide +kernel
theorem f26_2 : pm_f 26 2 = some (.iconst 0, 1, 0, 0, 0, []) := by decide +kernel
theorem f26_3 : pm_f 26 3 = some (.istore 4, 2, 4, 0, 0, []) := by decide +kernel
theorem f26_5 : pm_f 26 5 = some (.iconst 0, 1, 0, 0, 0, []) := by decide +kernel
theorem f26_6 : pm_f 26 6 = some (.istore 5, 2, 5, 0, 0, []) := by decide +kernel
theorem f26_8 : pm_f 26 8 = some (.iload 5, 2, 5, 0, 0, []) := by decide +kernel
theorem f26_10 : pm_f 26 10 = some (.aload_n 0, 1, 0, 0, 0, []) := by decide +kernel
theorem f26_11 : pm_f 26 11 = some (.getfield 40, 3, 2, 3, 0, []) := by decide +kernel
theorem f26_14 : pm_f 26 14 = some (.if_icmp .ge 46, 3, 60, 0, 0, []) := by decide +kernel
theorem f26_17 : pm_f 26 17 = some (.aload_n 0, 1, 0, 0, 0, []) := by decide +kernel
theorem f26_18 : pm_f 26 18 = some (.aload_n 1, 1, 1, 0, 0, []) := by decide +kernel
theorem f26_19 : pm_f 26 19 = some (.iload_n 2, 1, 2, 0, 0, []) := by decide +kernel
theorem f26_20 : pm_f 26 20 = some (.iload 4, 2, 4, 0, 0, []) := by decide +kernel
theorem f26_22 : pm_f 26 22 = some (.aload_n 0, 1, 0, 0, 0, []) := by decide +kernel
theorem f26_23 : pm_f 26 23 = some (.getfield 15, 3, 2, 5, 2, []) := by decide +kernel
theorem f26_26 : pm_f 26 26 = some (.iload 5, 2, 5, 0, 0, []) := by decide +kernel
theorem f26_28 : pm_f 26 28 = some (.iaload, 1, 0, 0, 0, []) := by decide +kernel
theorem f26_29 : pm_f 26 29 = some (.invokevirtual 46, 3, 27, 4, 2, []) := by decide +kernel
theorem f26_32 : pm_f 26 32 = some (.ifCond .eq 13, 3, 45, 0, 0, []) := by decide +kernel
theorem f26_35 : pm_f 26 35 = some (.iload_n 3, 1, 3, 0, 0, []) := by decide +kernel
theorem f26_36 : pm_f 26 36 = some (.aload_n 0, 1, 0, 0, 0, []) := by decide +kernel
theorem f26_37 : pm_f 26 37 = some (.getfield 9, 3, 2, 4, 2, []) := by decide +kernel
theorem f26_40 : pm_f 26 40 = some (.iload 5, 2, 5, 0, 0, []) := by decide +kernel
theorem f26_42 : pm_f 26 42 = some (.iaload, 1, 0, 0, 0, []) := by decide +kernel
theorem f26_43 : pm_f 26 43 = some (.iadd, 1, 0, 0, 0, []) := by decide +kernel
theorem f26_44 : pm_f 26 44 = some (.istore_n 3, 1, 3, 0, 0, []) := by decide +kernel
theorem f26_45 : pm_f 26 45 = some (.aload_n 0, 1, 0, 0, 0, []) := by decide +kernel
theorem f26_46 : pm_f 26 46 = some (.getfield 15, 3, 2, 5, 2, []) := by decide +kernel
theorem f26_49 : pm_f 26 49 = some (.iload 5, 2, 5, 0, 0, []) := by decide +kernel
theorem f26_51 : pm_f 26 51 = some (.iaload, 1, 0, 0, 0, []) := by decide +kernel
theorem f26_52 : pm_f 26 52 = some (.istore 4, 2, 4, 0, 0, []) := by decide +kernel
theorem f26_54 : pm_f 26 54 = some (.iinc 5 1, 3, 5, 0, 1, []) := by decide +kernel
theorem f26_57 : pm_f 26 57 = some (.goto (-49), 3, 8, 0, 0, []) := by decide +kernel
theorem f26_60 : pm_f 26 60 = some (.iload_n 3, 1, 3, 0, 0, []) := by decide +kernel
theorem f26_61 : pm_f 26 61 = some (.ireturn, 1, 0, 0, 0, []) := by decide +kernel
theorem f27_0 : pm_f 27 0 = some (.iconst 0, 1, 0, 0, 0, []) := by decide +kernel
theorem f27_1 : pm_f 27 1 = some (.istore 5, 2, 5, 0, 0, []) := by decide +kernel
theorem f27_3 : pm_f 27 3 = some (.iload_n 3, 1, 3, 0, 0, []) := by decide +kernel
theorem f27_4 : pm_f 27 4 = some (.istore 6, 2, 6, 0, 0, []) := by decide +kernel
theorem f27_6 : pm_f 27 6 = some (.iload 6, 2, 6, 0, 0, []) := by decide +kernel
theorem f27_8 : pm_f 27 8 = some (.iload 4, 2, 4, 0, 0, []) := by decide +kernel
theorem f27_10 : pm_f 27 10 = some (.if_icmp .ge 150, 3, 160, 0, 0, []) := by decide +kernel
theorem f27_13 : pm_f 27 13 = some (.iload 5, 2, 5, 0, 0, []) := by decide +kernel
theorem f27_15 : pm_f 27 15 = some (.iconst 1, 1, 0, 0, 1, []) := by decide +kernel
theorem f27_16 : pm_f 27 16 = some (.iand, 1, 0, 0, 0, []) := by decide +kernel
theorem f27_17 : pm_f 27 17 = some (.istore 7, 2, 7, 0, 0, []) := by decide +kernel
theorem f27_19 : pm_f 27 19 = some (.aload_n 0, 1, 0, 0, 0, []) := by decide +kernel
theorem f27_20 : pm_f 27 20 = some (.getfield 18, 3, 2, 7, 2, []) := by decide +kernel
theorem f27_23 : pm_f 27 23 = some (.iload 6, 2, 6, 0, 0, []) := by decide +kernel
theorem f27_25 : pm_f 27 25 = some (.iaload, 1, 0, 0, 0, []) := by decide +kernel
theorem f27_26 : pm_f 27 26 = some (.lookupswitch 80 #[(33, 34), (38, 43), (124, 68)], 34, 106, 0, 0, [(33, 60), (38, 69), (124, 94)]) := by decide +kernel
theorem f27_60 : pm_f 27 60 = some (.iload 5, 2, 5, 0, 0, []) := by decide +kernel
theorem f27_62 : pm_f 27 62 = some (.iconst 1, 1, 0, 0, 1, []) := by decide +kernel
theorem f27_63 : pm_f 27 63 = some (.ixor, 1, 0, 0, 0, []) := by decide +kernel
theorem f27_64 : pm_f 27 64 = some (.istore 5, 2, 5, 0, 0, []) := by decide +kernel
theorem f27_66 : pm_f 27 66 = some (.goto 88, 3, 154, 0, 0, []) := by decide +kernel
theorem f27_69 : pm_f 27 69 = some (.iload 7, 2, 7, 0, 0, []) := by decide +kernel
theorem f27_71 : pm_f 27 71 = some (.iconst 1, 1, 0, 0, 1, []) := by decide +kernel
theorem f27_72 : pm_f 27 72 = some (.if_icmp .ne 10, 3, 82, 0, 0, []) := by decide +kernel
theorem f27_75 : pm_f 27 75 = some (.iload 5, 2, 5, 0, 0, []) := by decide +kernel
theorem f27_77 : pm_f 27 77 = some (.iconst 1, 1, 0, 0, 1, []) := by decide +kernel
theorem f27_78 : pm_f 27 78 = some (.ishr, 1, 0, 0, 0, []) := by decide +kernel
theorem f27_79 : pm_f 27 79 = some (.goto 10, 3, 89, 0, 0, []) := by decide +kernel
theorem f27_82 : pm_f 27 82 = some (.iload 5, 2, 5, 0, 0, []) := by decide +kernel
theorem f27_84 : pm_f 27 84 = some (.iconst 1, 1, 0, 0, 1, []) := by decide +kernel
theorem f27_85 : pm_f 27 85 = some (.ishr, 1, 0, 0, 0, []) := by decide +kernel
theorem f27_86 : pm_f 27 86 = some (.bipush (-2), 2, 0, 0, (-2), []) := by decide +kernel
theorem f27_88 : pm_f 27 88 = some (.iand, 1, 0, 0, 0, []) := by decide +kernel
theorem f27_89 : pm_f 27 89 = some (.istore 5, 2, 5, 0, 0, []) := by decide +kernel
theorem f27_91 : pm_f 27 91 = some (.goto 63, 3, 154, 0, 0, []) := by decide +kernel
theorem f27_94 : pm_f 27 94 = some (.iload 5, 2, 5, 0, 0, []) := by decide +kernel
theorem f27_96 : pm_f 27 96 = some (.iconst 1, 1, 0, 0, 1, []) := by decide +kernel
theorem f27_97 : pm_f 27 97 = some (.ishr, 1, 0, 0, 0, []) := by decide +kernel
theorem f27_98 : pm_f 27 98 = some (.iload 7, 2, 7, 0, 0, []) := by decide +kernel
theorem f27_100 : pm_f 27 100 = some (.ior, 1, 0, 0, 0, []) := by decide +kernel
theorem f27_101 : pm_f 27 101 = some (.istore 5, 2, 5, 0, 0, []) := by decide +kernel
theorem f27_103 : pm_f 27 103 = some (.goto 51, 3, 154, 0, 0, []) := by decide +kernel
theorem f27_106 : pm_f 27 106 = some (.aload_n 1, 1, 1, 0, 0, []) := by decide +kernel
theorem f27_107 : pm_f 27 107 = some (.aload_n 0, 1, 0, 0, 0, []) := by decide +kernel
theorem f27_108 : pm_f 27 108 = some (.getfield 18, 3, 2, 7, 2, []) := by decide +kernel
theorem f27_111 : pm_f 27 111 = some (.iload 6, 2, 6, 0, 0, []) := by decide +kernel
theorem f27_113 : pm_f 27 113 = some (.iaload, 1, 0, 0, 0, []) := by decide +kernel
theorem f27_114 : pm_f 27 114 = some (.iload_n 2, 1, 2, 0, 0, []) := by decide +kernel
theorem f27_115 : pm_f 27 115 = some (.invokevirtual 50, 3, 68, 2, 5, []) := by decide +kernel
theorem f27_118 : pm_f 27 118 = some (.aload_n 0, 1, 0, 0, 0, []) := by decide +kernel
theorem f27_119 : pm_f 27 119 = some (.getfield 21, 3, 2, 8, 2, []) := by decide +kernel
theorem f27_122 : pm_f 27 122 = some (.iload 6, 2, 6, 0, 0, []) := by decide +kernel
theorem f27_124 : pm_f 27 124 = some (.iaload, 1, 0, 0, 0, []) := by decide +kernel
theorem f27_125 : pm_f 27 125 = some (.aload_n 0, 1, 0, 0, 0, []) := by decide +kernel
theorem f27_126 : pm_f 27 126 = some (.getfield 24, 3, 2, 9, 2, []) := by decide +kernel
theorem f27_129 : pm_f 27 129 = some (.iload 6, 2, 6, 0, 0, []) := by decide +kernel
theorem f27_131 : pm_f 27 131 = some (.iaload, 1, 0, 0, 0, []) := by decide +kernel
theorem f27_132 : pm_f 27 132 = some (.invokestatic 56, 3, 28, 3, 0, []) := by decide +kernel
theorem f27_135 : pm_f 27 135 = some (.istore 8, 2, 8, 0, 0, []) := by decide +kernel
theorem f27_137 : pm_f 27 137 = some (.iload 5, 2, 5, 0, 0, []) := by decide +kernel
theorem f27_139 : pm_f 27 139 = some (.iconst 1, 1, 0, 0, 1, []) := by decide +kernel
theorem f27_140 : pm_f 27 140 = some (.ishl, 1, 0, 0, 0, []) := by decide +kernel
theorem f27_141 : pm_f 27 141 = some (.iload 8, 2, 8, 0, 0, []) := by decide +kernel
theorem f27_143 : pm_f 27 143 = some (.ifCond .eq 7, 3, 150, 0, 0, []) := by decide +kernel
theorem f27_146 : pm_f 27 146 = some (.iconst 1, 1, 0, 0, 1, []) := by decide +kernel
theorem f27_147 : pm_f 27 147 = some (.goto 4, 3, 151, 0, 0, []) := by decide +kernel
theorem f27_150 : pm_f 27 150 = some (.iconst 0, 1, 0, 0, 0, []) := by decide +kernel
theorem f27_151 : pm_f 27 151 = some (.ior, 1, 0, 0, 0, []) := by decide +kernel
theorem f27_152 : pm_f 27 152 = some (.istore 5, 2, 5, 0, 0, []) := by decide +kernel
theorem f27_154 : pm_f 27 154 = some (.iinc 6 1, 3, 6, 0, 1, []) := by decide +kernel
theorem f27_157 : pm_f 27 157 = some (.goto (-151), 3, 6, 0, 0, []) := by decide +kernel
theorem f27_160 : pm_f 27 160 = some (.iload 5, 2, 5, 0, 0, []) := by decide +kernel
theorem f27_162 : pm_f 27 162 = some (.iconst 1, 1, 0, 0, 1, []) := by decide +kernel
theorem f27_163 : pm_f 27 163 = some (.iand, 1, 0, 0, 0, []) := by decide +kernel
theorem f27_164 : pm_f 27 164 = some (.iconst 1, 1, 0, 0, 1, []) := by decide +kernel
theorem f27_165 : pm_f 27 165 = some (.if_icmp .ne 7, 3, 172, 0, 0, []) := by decide +kernel
theorem f27_168 : pm_f 27 168 = some (.iconst 1, 1, 0, 0, 1, []) := by decide +kernel
theorem f27_169 : pm_f 27 169 = some (.goto 4, 3, 173, 0, 0, []) := by decide +kernel
theorem f27_172 : pm_f 27 172 = some (.iconst 0, 1, 0, 0, 0, []) := by decide +kernel
theorem f27_173 : pm_f 27 173 = some (.ireturn, 1, 0, 0, 1, []) := by decide +kernel
theorem f28_0 : pm_f 28 0 = some (.iload_n 1, 1, 1, 0, 0, []) := by decide +kernel
theorem f28_1 : pm_f 28 1 = some (.bipush 60, 2, 0, 0, 60, []) := by decide +kernel
theorem f28_3 : pm_f 28 3 = some (.if_icmp .ne 16, 3, 19, 0, 0, []) := by decide +kernel
theorem f28_6 : pm_f 28 6 = some (.iload_n 0, 1, 0, 0, 0, []) := by decide +kernel
theorem f28_7 : pm_f 28 7 = some (.iload_n 2, 1, 2, 0, 0, []) := by decide +kernel
theorem f28_8 : pm_f 28 8 = some (.if_icmp .ge 7, 3, 15, 0, 0, []) := by decide +kernel
theorem f28_11 : pm_f 28 11 = some (.iconst 1, 1, 0, 0, 1, []) := by decide +kernel
theorem f28_12 : pm_f 28 12 = some (.goto 36, 3, 48, 0, 0, []) := by decide +kernel
theorem f28_15 : pm_f 28 15 = some (.iconst 0, 1, 0, 0, 0, []) := by decide +kernel
theorem f28_16 : pm_f 28 16 = some (.goto 32, 3, 48, 0, 0, []) := by decide +kernel
theorem f28_19 : pm_f 28 19 = some (.iload_n 1, 1, 1, 0, 0, []) := by decide +kernel
theorem f28_20 : pm_f 28 20 = some (.bipush 62, 2, 0, 0, 62, []) := by decide +kernel
theorem f28_22 : pm_f 28 22 = some (.if_icmp .ne 16, 3, 38, 0, 0, []) := by decide +kernel
theorem f28_25 : pm_f 28 25 = some (.iload_n 0, 1, 0, 0, 0, []) := by decide +kernel
theorem f28_26 : pm_f 28 26 = some (.iload_n 2, 1, 2, 0, 0, []) := by decide +kernel
theorem f28_27 : pm_f 28 27 = some (.if_icmp .le 7, 3, 34, 0, 0, []) := by decide +kernel
theorem f28_30 : pm_f 28 30 = some (.iconst 1, 1, 0, 0, 1, []) := by decide +kernel
theorem f28_31 : pm_f 28 31 = some (.goto 17, 3, 48, 0, 0, []) := by decide +kernel
theorem f28_34 : pm_f 28 34 = some (.iconst 0, 1, 0, 0, 0, []) := by decide +kernel
theorem f28_35 : pm_f 28 35 = some (.goto 13, 3, 48, 0, 0, []) := by decide +kernel
theorem f28_38 : pm_f 28 38 = some (.iload_n 0, 1, 0, 0, 0, []) := by decide +kernel
theorem f28_39 : pm_f 28 39 = some (.iload_n 2, 1, 2, 0, 0, []) := by decide +kernel
theorem f28_40 : pm_f 28 40 = some (.if_icmp .ne 7, 3, 47, 0, 0, []) := by decide +kernel
theorem f28_43 : pm_f 28 43 = some (.iconst 1, 1, 0, 0, 1, []) := by decide +kernel
theorem f28_44 : pm_f 28 44 = some (.goto 4, 3, 48, 0, 0, []) := by decide +kernel
theorem f28_47 : pm_f 28 47 = some (.iconst 0, 1, 0, 0, 0, []) := by decide +kernel
theorem f28_48 : pm_f 28 48 = some (.ireturn, 1, 0, 0, 1, []) := by decide +kernel
theorem f29_0 : pm_f 29 0 = some (.aload_n 0, 1, 0, 0, 0, []) := by decide +kernel
theorem f29_1 : pm_f 29 1 = some (.invokespecial 3, 3, 0, 0, (-1), []) := by decide +kernel
theorem f29_4 : pm_f 29 4 = some (.aload_n 0, 1, 0, 0, 0, []) := by decide +kernel
theorem f29_5 : pm_f 29 5 = some (.iconst 0, 1, 0, 0, 0, []) := by decide +kernel
theorem f29_6 : pm_f 29 6 = some (.putfield 9, 3, 3, 0, 0, []) := by decide +kernel
theorem f29_9 : pm_f 29 9 = some (.aload_n 0, 1, 0, 0, 0, []) := by decide +kernel
theorem f29_10 : pm_f 29 10 = some (.iconst 0, 1, 0, 0, 0, []) := by decide +kernel
theorem f29_11 : pm_f 29 11 = some (.putfield 15, 3, 3, 1, 0, []) := by decide +kernel
theorem f29_14 : pm_f 29 14 = some (.aload_n 0, 1, 0, 0, 0, []) := by decide +kernel
theorem f29_15 : pm_f 29 15 = some (.bipush 100, 2, 0, 0, 100, []) := by decide +kernel
theorem f29_17 : pm_f 29 17 = some (.newarray .int, 2, 1, 0, 0, []) := by decide +kernel
theorem f29_19 : pm_f 29 19 = some (.putfield 18, 3, 3, 2, 2, []) := by decide +kernel
theorem f29_22 : pm_f 29 22 = some (.aload_n 0, 1, 0, 0, 0, []) := by decide +kernel
theorem f29_23 : pm_f 29 23 = some (.iconst 0, 1, 0, 0, 0, []) := by decide +kernel
theorem f29_24 : pm_f 29 24 = some (.putfield 22, 3, 3, 3, 0, []) := by decide +kernel
theorem f29_27 : pm_f 29 27 = some (.return_, 1, 0, 0, 0, []) := by decide +kernel
theorem f30_0 : pm_f 30 0 = some (.aload_n 0, 1, 0, 0, 0, []) := by decide +kernel
theorem f30_1 : pm_f 30 1 = some (.getfield 9, 3, 3, 0, 0, []) := by decide +kernel
theorem f30_4 : pm_f 30 4 = some (.bipush 100, 2, 0, 0, 100, []) := by decide +kernel
theorem f30_6 : pm_f 30 6 = some (.if_icmp .lt 6, 3, 12, 0, 0, []) := by decide +kernel
theorem f30_9 : pm_f 30 9 = some (.bipush (-4), 2, 0, 0, (-4), []) := by decide +kernel
theorem f30_11 : pm_f 30 11 = some (.ireturn, 1, 0, 0, 0, []) := by decide +kernel
theorem f30_12 : pm_f 30 12 = some (.aload_n 0, 1, 0, 0, 0, []) := by decide +kernel
theorem f30_13 : pm_f 30 13 = some (.getfield 18, 3, 3, 2, 2, []) := by decide +kernel
theorem f30_16 : pm_f 30 16 = some (.aload_n 0, 1, 0, 0, 0, []) := by decide +kernel
theorem f30_17 : pm_f 30 17 = some (.getfield 9, 3, 3, 0, 0, []) := by decide +kernel
theorem f30_20 : pm_f 30 20 = some (.iload_n 1, 1, 1, 0, 0, []) := by decide +kernel
theorem f30_21 : pm_f 30 21 = some (.iastore, 1, 0, 0, 0, []) := by decide +kernel
theorem f30_22 : pm_f 30 22 = some (.aload_n 0, 1, 0, 0, 0, []) := by decide +kernel
theorem f30_23 : pm_f 30 23 = some (.dup, 1, 0, 0, 0, []) := by decide +kernel
theorem f30_24 : pm_f 30 24 = some (.getfield 9, 3, 3, 0, 0, []) := by decide +kernel
theorem f30_27 : pm_f 30 27 = some (.iconst 1, 1, 0, 0, 1, []) := by decide +kernel
theorem f30_28 : pm_f 30 28 = some (.iadd, 1, 0, 0, 0, []) := by decide +kernel
theorem f30_29 : pm_f 30 29 = some (.putfield 9, 3, 3, 0, 0, []) := by decide +kernel
theorem f30_32 : pm_f 30 32 = some (.aload_n 0, 1, 0, 0, 0, []) := by decide +kernel
theorem f30_33 : pm_f 30 33 = some (.getfield 9, 3, 3, 0, 0, []) := by decide +kernel
theorem f30_36 : pm_f 30 36 = some (.ireturn, 1, 0, 0, 0, []) := by decide +kernel
theorem f31_0 : pm_f 31 0 = some (.aload_n 1, 1, 1, 0, 0, []) := by decide +kernel
theorem f31_1 : pm_f 31 1 = some (.invokevirtual 25, 3, 23, 0, 2, []) := by decide +kernel
theorem f31_4 : pm_f 31 4 = some (.aload_n 0, 1, 0, 0, 0, []) := by decide +kernel
theorem f31_5 : pm_f 31 5 = some (.iconst 0, 1, 0, 0, 0, []) := by decide +kernel
theorem f31_6 : pm_f 31 6 = some (.putfield 15, 3, 3, 1, 0, []) := by decide +kernel
theorem f31_9 : pm_f 31 9 = some (.iconst 0, 1, 0, 0, 0, []) := by decide +kernel
theorem f31_10 : pm_f 31 10 = some (.istore_n 2, 1, 2, 0, 0, []) := by decide +kernel
theorem f31_11 : pm_f 31 11 = some (.iload_n 2, 1, 2, 0, 0, []) := by decide +kernel
theorem f31_12 : pm_f 31 12 = some (.bipush 10, 2, 0, 0, 10, []) := by decide +kernel
theorem f31_14 : pm_f 31 14 = some (.if_icmp .ge 35, 3, 49, 0, 0, []) := by decide +kernel
theorem f31_17 : pm_f 31 17 = some (.iload_n 2, 1, 2, 0, 0, []) := by decide +kernel
theorem f31_18 : pm_f 31 18 = some (.ifCond .le 15, 3, 33, 0, 0, []) := by decide +kernel
theorem f31_21 : pm_f 31 21 = some (.aload_n 0, 1, 0, 0, 0, []) := by decide +kernel
theorem f31_22 : pm_f 31 22 = some (.bipush 59, 2, 0, 0, 59, []) := by decide +kernel
theorem f31_24 : pm_f 31 24 = some (.invokevirtual 30, 3, 33, 1, 3, []) := by decide +kernel
theorem f31_27 : pm_f 31 27 = some (.ifCond .ne 6, 3, 33, 0, 0, []) := by decide +kernel
theorem f31_30 : pm_f 31 30 = some (.goto 19, 3, 49, 0, 0, []) := by decide +kernel
theorem f31_33 : pm_f 31 33 = some (.aload_n 0, 1, 0, 0, 0, []) := by decide +kernel
theorem f31_34 : pm_f 31 34 = some (.aload_n 1, 1, 1, 0, 0, []) := by decide +kernel
theorem f31_35 : pm_f 31 35 = some (.invokevirtual 34, 3, 34, 1, 3, []) := by decide +kernel
theorem f31_38 : pm_f 31 38 = some (.ifCond .ne 5, 3, 43, 0, 0, []) := by decide +kernel
theorem f31_41 : pm_f 31 41 = some (.iconst 0, 1, 0, 0, 0, []) := by decide +kernel
theorem f31_42 : pm_f 31 42 = some (.ireturn, 1, 0, 0, 1, []) := by decide +kernel
theorem f31_43 : pm_f 31 43 = some (.iinc 2 1, 3, 2, 0, 1, []) := by decide +kernel
theorem f31_46 : pm_f 31 46 = some (.goto (-35), 3, 11, 0, 0, []) := by decide +kernel
theorem f31_49 : pm_f 31 49 = some (.aload_n 0, 1, 0, 0, 0, []) := by decide +kernel
theorem f31_50 : pm_f 31 50 = some (.getfield 15, 3, 3, 1, 0, []) := by decide +kernel
theorem f31_53 : pm_f 31 53 = some (.aload_n 0, 1, 0, 0, 0, []) := by decide +kernel
theorem f31_54 : pm_f 31 54 = some (.getfield 9, 3, 3, 0, 0, []) := by decide +kernel
theorem f31_57 : pm_f 31 57 = some (.if_icmp .ne 7, 3, 64, 0, 0, []) := by decide +kernel
theorem f31_60 : pm_f 31 60 = some (.iconst 1, 1, 0, 0, 1, []) := by decide +kernel
theorem f31_61 : pm_f 31 61 = some (.goto 4, 3, 65, 0, 0, []) := by decide +kernel
theorem f31_64 : pm_f 31 64 = some (.iconst 0, 1, 0, 0, 0, []) := by decide +kernel
theorem f31_65 : pm_f 31 65 = some (.ireturn, 1, 0, 0, 1, []) := by decide +kernel
theorem f32_0 : pm_f 32 0 = some (.iload_n 1, 1, 1, 0, 0, []) := by decide +kernel
theorem f32_1 : pm_f 32 1 = some (.ifCond .lt 26, 3, 27, 0, 0, []) := by decide +kernel
theorem f32_4 : pm_f 32 4 = some (.iload_n 1, 1, 1, 0, 0, []) := by decide +kernel
theorem f32_5 : pm_f 32 5 = some (.aload_n 0, 1, 0, 0, 0, []) := by decide +kernel
theorem f32_6 : pm_f 32 6 = some (.getfield 9, 3, 3, 0, 0, []) := by decide +kernel
theorem f32_9 : pm_f 32 9 = some (.if_icmp .ge 18, 3, 27, 0, 0, []) := by decide +kernel
theorem f32_12 : pm_f 32 12 = some (.iload_n 1, 1, 1, 0, 0, []) := by decide +kernel
theorem f32_13 : pm_f 32 13 = some (.bipush 100, 2, 0, 0, 100, []) := by decide +kernel
theorem f32_15 : pm_f 32 15 = some (.if_icmp .ge 12, 3, 27, 0, 0, []) := by decide +kernel
theorem f32_18 : pm_f 32 18 = some (.aload_n 0, 1, 0, 0, 0, []) := by decide +kernel
theorem f32_19 : pm_f 32 19 = some (.getfield 18, 3, 3, 2, 2, []) := by decide +kernel
theorem f32_22 : pm_f 32 22 = some (.iload_n 1, 1, 1, 0, 0, []) := by decide +kernel
theorem f32_23 : pm_f 32 23 = some (.iaload, 1, 0, 0, 0, []) := by decide +kernel
theorem f32_24 : pm_f 32 24 = some (.goto 4, 3, 28, 0, 0, []) := by decide +kernel
theorem f32_27 : pm_f 32 27 = some (.iconst (-1), 1, 0, 0, (-1), []) := by decide +kernel
theorem f32_28 : pm_f 32 28 = some (.ireturn, 1, 0, 0, 0, []) := by decide +kernel
theorem f33_0 : pm_f 33 0 = some (.aload_n 0, 1, 0, 0, 0, []) := by decide +kernel
theorem f33_1 : pm_f 33 1 = some (.aload_n 0, 1, 0, 0, 0, []) := by decide +kernel
theorem f33_2 : pm_f 33 2 = some (.getfield 15, 3, 3, 1, 0, []) := by decide +kernel
theorem f33_5 : pm_f 33 5 = some (.invokevirtual 38, 3, 32, 1, 3, []) := by decide +kernel
theorem f33_8 : pm_f 33 8 = some (.iload_n 1, 1, 1, 0, 0, []) := by decide +kernel
theorem f33_9 : pm_f 33 9 = some (.if_icmp .eq 5, 3, 14, 0, 0, []) := by decide +kernel
theorem f33_12 : pm_f 33 12 = some (.iconst 0, 1, 0, 0, 0, []) := by decide +kernel
theorem f33_13 : pm_f 33 13 = some (.ireturn, 1, 0, 0, 1, []) := by decide +kernel
theorem f33_14 : pm_f 33 14 = some (.aload_n 0, 1, 0, 0, 0, []) := by decide +kernel
theorem f33_15 : pm_f 33 15 = some (.dup, 1, 0, 0, 0, []) := by decide +kernel
theorem f33_16 : pm_f 33 16 = some (.getfield 15, 3, 3, 1, 0, []) := by decide +kernel
theorem f33_19 : pm_f 33 19 = some (.iconst 1, 1, 0, 0, 1, []) := by decide +kernel
theorem f33_20 : pm_f 33 20 = some (.iadd, 1, 0, 0, 0, []) := by decide +kernel
theorem f33_21 : pm_f 33 21 = some (.putfield 15, 3, 3, 1, 0, []) := by decide +kernel
theorem f33_24 : pm_f 33 24 = some (.iconst 1, 1, 0, 0, 1, []) := by decide +kernel
theorem f33_25 : pm_f 33 25 = some (.ireturn, 1, 0, 0, 1, []) := by decide +kernel
theorem f34_0 : pm_f 34 0 = some (.aload_n 0, 1, 0, 0, 0, []) := by decide +kernel
theorem f34_1 : pm_f 34 1 = some (.invokevirtual 42, 3, 35, 0, 3, []) := by decide +kernel
theorem f34_4 : pm_f 34 4 = some (.istore_n 2, 1, 2, 0, 0, []) := by decide +kernel
theorem f34_5 : pm_f 34 5 = some (.aload_n 0, 1, 0, 0, 0, []) := by decide +kernel
theorem f34_6 : pm_f 34 6 = some (.iload_n 2, 1, 2, 0, 0, []) := by decide +kernel
theorem f34_7 : pm_f 34 7 = some (.invokevirtual 46, 3, 37, 1, 3, []) := by decide +kernel
theorem f34_10 : pm_f 34 10 = some (.ifCond .eq 19, 3, 29, 0, 0, []) := by decide +kernel
theorem f34_13 : pm_f 34 13 = some (.aload_n 0, 1, 0, 0, 0, []) := by decide +kernel
theorem f34_14 : pm_f 34 14 = some (.bipush 32, 2, 0, 0, 32, []) := by decide +kernel
theorem f34_16 : pm_f 34 16 = some (.invokevirtual 30, 3, 33, 1, 3, []) := by decide +kernel
theorem f34_19 : pm_f 34 19 = some (.ifCond .eq 10, 3, 29, 0, 0, []) := by decide +kernel
theorem f34_22 : pm_f 34 22 = some (.aload_n 0, 1, 0, 0, 0, []) := by decide +kernel
theorem f34_23 : pm_f 34 23 = some (.invokevirtual 49, 3, 38, 0, 3, []) := by decide +kernel
theorem f34_26 : pm_f 34 26 = some (.ifCond .ne 5, 3, 31, 0, 0, []) := by decide +kernel
theorem f34_29 : pm_f 34 29 = some (.iconst 0, 1, 0, 0, 0, []) := by decide +kernel
theorem f34_30 : pm_f 34 30 = some (.ireturn, 1, 0, 0, 1, []) := by decide +kernel
theorem f34_31 : pm_f 34 31 = some (.aload_n 0, 1, 0, 0, 0, []) := by decide +kernel
theorem f34_32 : pm_f 34 32 = some (.getfield 22, 3, 3, 3, 0, []) := by decide +kernel
theorem f34_35 : pm_f 34 35 = some (.istore_n 3, 1, 3, 0, 0, []) := by decide +kernel
theorem f34_36 : pm_f 34 36 = some (.iload_n 2, 1, 2, 0, 0, []) := by decide +kernel
theorem f34_37 : pm_f 34 37 = some (.tableswitch 52 2 4 #[27, 34, 41], 27, 89, 0, 0, [(2, 64), (3, 71), (4, 78)]) := by decide +kernel
theorem f34_64 : pm_f 34 64 = some (.aload_n 1, 1, 1, 0, 0, []) := by decide +kernel
theorem f34_65 : pm_f 34 65 = some (.iload_n 3, 1, 3, 0, 0, []) := by decide +kernel
theorem f34_66 : pm_f 34 66 = some (.putfield 53, 3, 2, 0, 0, []) := by decide +kernel
theorem f34_69 : pm_f 34 69 = some (.iconst 1, 1, 0, 0, 1, []) := by decide +kernel
theorem f34_70 : pm_f 34 70 = some (.ireturn, 1, 0, 0, 1, []) := by decide +kernel
theorem f34_71 : pm_f 34 71 = some (.aload_n 1, 1, 1, 0, 0, []) := by decide +kernel
theorem f34_72 : pm_f 34 72 = some (.iload_n 3, 1, 3, 0, 0, []) := by decide +kernel
theorem f34_73 : pm_f 34 73 = some (.putfield 56, 3, 2, 1, 0, []) := by decide +kernel
theorem f34_76 : pm_f 34 76 = some (.iconst 1, 1, 0, 0, 1, []) := by decide +kernel
theorem f34_77 : pm_f 34 77 = some (.ireturn, 1, 0, 0, 1, []) := by decide +kernel
theorem f34_78 : pm_f 34 78 = some (.aload_n 1, 1, 1, 0, 0, []) := by decide +kernel
theorem f34_79 : pm_f 34 79 = some (.iconst 1, 1, 0, 0, 1, []) := by decide +kernel
theorem f34_80 : pm_f 34 80 = some (.iload_n 3, 1, 3, 0, 0, []) := by decide +kernel
theorem f34_81 : pm_f 34 81 = some (.invokestatic 59, 3, 0, 0, 1, []) := by decide +kernel
theorem f34_84 : pm_f 34 84 = some (.putfield 65, 3, 2, 2, 0, []) := by decide +kernel
theorem f34_87 : pm_f 34 87 = some (.iconst 1, 1, 0, 0, 1, []) := by decide +kernel
theorem f34_88 : pm_f 34 88 = some (.ireturn, 1, 0, 0, 1, []) := by decide +kernel
theorem f34_89 : pm_f 34 89 = some (.aload_n 0, 1, 0, 0, 0, []) := by decide +kernel
theorem f34_90 : pm_f 34 90 = some (.bipush 32, 2, 0, 0, 32, []) := by decide +kernel
theorem f34_92 : pm_f 34 92 = some (.invokevirtual 30, 3, 33, 1, 3, []) := by decide +kernel
theorem f34_95 : pm_f 34 95 = some (.ifCond .eq 14, 3, 109, 0, 0, []) := by decide +kernel
theorem f34_98 : pm_f 34 98 = some (.aload_n 0, 1, 0, 0, 0, []) := by decide +kernel
theorem f34_99 : pm_f 34 99 = some (.aload_n 1, 1, 1, 0, 0, []) := by decide +kernel
theorem f34_100 : pm_f 34 100 = some (.bipush 124, 2, 0, 0, 124, []) := by decide +kernel
theorem f34_102 : pm_f 34 102 = some (.iconst 0, 1, 0, 0, 0, []) := by decide +kernel
theorem f34_103 : pm_f 34 103 = some (.invokevirtual 68, 3, 40, 3, 3, []) := by decide +kernel
theorem f34_106 : pm_f 34 106 = some (.ifCond .ne 5, 3, 111, 0, 0, []) := by decide +kernel
theorem f34_109 : pm_f 34 109 = some (.iconst 0, 1, 0, 0, 0, []) := by decide +kernel
theorem f34_110 : pm_f 34 110 = some (.ireturn, 1, 0, 0, 1, []) := by decide +kernel
theorem f34_111 : pm_f 34 111 = some (.aload_n 1, 1, 1, 0, 0, []) := by decide +kernel
theorem f34_112 : pm_f 34 112 = some (.iload_n 2, 1, 2, 0, 0, []) := by decide +kernel
theorem f34_113 : pm_f 34 113 = some (.ifCond .ne 7, 3, 120, 0, 0, []) := by decide +kernel
theorem f34_116 : pm_f 34 116 = some (.iload_n 3, 1, 3, 0, 0, []) := by decide +kernel
theorem f34_117 : pm_f 34 117 = some (.goto 5, 3, 122, 0, 0, []) := by decide +kernel
theorem f34_120 : pm_f 34 120 = some (.iload_n 3, 1, 3, 0, 0, []) := by decide +kernel
theorem f34_121 : pm_f 34 121 = some (.ineg, 1, 0, 0, 0, []) := by decide +kernel
theorem f34_122 : pm_f 34 122 = some (.invokevirtual 72, 3, 25, 1, 2, []) := by decide +kernel
theorem f34_125 : pm_f 34 125 = some (.iconst 1, 1, 0, 0, 1, []) := by decide +kernel
theorem f34_126 : pm_f 34 126 = some (.ireturn, 1, 0, 0, 1, []) := by decide +kernel
theorem f35_0 : pm_f 35 0 = some (.aload_n 0, 1, 0, 0, 0, []) := by decide +kernel
theorem f35_1 : pm_f 35 1 = some (.aload_n 0, 1, 0, 0, 0, []) := by decide +kernel
theorem f35_2 : pm_f 35 2 = some (.getfield 15, 3, 3, 1, 0, []) := by decide +kernel
theorem f35_5 : pm_f 35 5 = some (.invokevirtual 38, 3, 32, 1, 3, []) := by decide +kernel
theorem f35_8 : pm_f 35 8 = some (.lookupswitch 71 #[(108, 44), (112, 69), (115, 46), (119, 67)], 44, 79, 0, 0, [(108, 52), (112, 77), (115, 54), (119, 75)]) := by decide +kernel
theorem f35_52 : pm_f 35 52 = some (.iconst 0, 1, 0, 0, 0, []) := by decide +kernel
theorem f35_53 : pm_f 35 53 = some (.ireturn, 1, 0, 0, 0, []) := by decide +kernel
theorem f35_54 : pm_f 35 54 = some (.aload_n 0, 1, 0, 0, 0, []) := by decide +kernel
theorem f35_55 : pm_f 35 55 = some (.aload_n 0, 1, 0, 0, 0, []) := by decide +kernel
theorem f35_56 : pm_f 35 56 = some (.getfield 15, 3, 3, 1, 0, []) := by decide +kernel
theorem f35_59 : pm_f 35 59 = some (.iconst 1, 1, 0, 0, 1, []) := by decide +kernel
theorem f35_60 : pm_f 35 60 = some (.iadd, 1, 0, 0, 0, []) := by decide +kernel
theorem f35_61 : pm_f 35 61 = some (.invokevirtual 38, 3, 32, 1, 3, []) := by decide +kernel
theorem f35_64 : pm_f 35 64 = some (.bipush 116, 2, 0, 0, 116, []) := by decide +kernel
theorem f35_66 : pm_f 35 66 = some (.if_icmp .ne 7, 3, 73, 0, 0, []) := by decide +kernel
theorem f35_69 : pm_f 35 69 = some (.iconst 2, 1, 0, 0, 2, []) := by decide +kernel
theorem f35_70 : pm_f 35 70 = some (.goto 4, 3, 74, 0, 0, []) := by decide +kernel
theorem f35_73 : pm_f 35 73 = some (.iconst 1, 1, 0, 0, 1, []) := by decide +kernel
theorem f35_74 : pm_f 35 74 = some (.ireturn, 1, 0, 0, 0, []) := by decide +kernel
theorem f35_75 : pm_f 35 75 = some (.iconst 3, 1, 0, 0, 3, []) := by decide +kernel
theorem f35_76 : pm_f 35 76 = some (.ireturn, 1, 0, 0, 0, []) := by decide +kernel
theorem f35_77 : pm_f 35 77 = some (.iconst 4, 1, 0, 0, 4, []) := by decide +kernel
theorem f35_78 : pm_f 35 78 = some (.ireturn, 1, 0, 0, 0, []) := by decide +kernel
theorem f35_79 : pm_f 35 79 = some (.iconst (-1), 1, 0, 0, (-1), []) := by decide +kernel
theorem f35_80 : pm_f 35 80 = some (.ireturn, 1, 0, 0, 0, []) := by decide +kernel
theorem f36_0 : pm_f 36 0 = some (.iload_n 0, 1, 0, 0, 0, []) := by decide +kernel
theorem f36_1 : pm_f 36 1 = some (.tableswitch 43 0 3 #[31, 34, 37, 40], 31, 44, 0, 0, [(0, 32), (1, 35), (2, 38), (3, 41)]) := by decide +kernel
theorem f36_32 : pm_f 36 32 = some (.ldc 76, 2, 1, 0, 0, []) := by decide +kernel
theorem f36_34 : pm_f 36 34 = some (.areturn, 1, 0, 0, 0, []) := by decide +kernel
theorem f36_35 : pm_f 36 35 = some (.ldc 78, 2, 1, 1, 0, []) := by decide +kernel
theorem f36_37 : pm_f 36 37 = some (.areturn, 1, 0, 0, 0, []) := by decide +kernel
theorem f36_38 : pm_f 36 38 = some (.ldc 80, 2, 1, 2, 0, []) := by decide +kernel
theorem f36_40 : pm_f 36 40 = some (.areturn, 1, 0, 0, 0, []) := by decide +kernel
theorem f36_41 : pm_f 36 41 = some (.ldc 81, 2, 1, 3, 0, []) := by decide +kernel
theorem f36_43 : pm_f 36 43 = some (.areturn, 1, 0, 0, 0, []) := by decide +kernel
theorem f36_44 : pm_f 36 44 = some (.ldc 82, 2, 1, 4, 0, []) := by decide +kernel
theorem f36_46 : pm_f 36 46 = some (.areturn, 1, 0, 0, 0, []) := by decide +kernel
theorem f37_0 : pm_f 37 0 = some (.iload_n 1, 1, 1, 0, 0, []) := by decide +kernel
theorem f37_1 : pm_f 37 1 = some (.iconst (-1), 1, 0, 0, (-1), []) := by decide +kernel
theorem f37_2 : pm_f 37 2 = some (.if_icmp .ne 5, 3, 7, 0, 0, []) := by decide +kernel
theorem f37_5 : pm_f 37 5 = some (.iconst 0, 1, 0, 0, 0, []) := by decide +kernel
theorem f37_6 : pm_f 37 6 = some (.ireturn, 1, 0, 0, 1, []) := by decide +kernel
theorem f37_7 : pm_f 37 7 = some (.iload_n 1, 1, 1, 0, 0, []) := by decide +kernel
theorem f37_8 : pm_f 37 8 = some (.invokestatic 83, 3, 36, 1, 0, []) := by decide +kernel
theorem f37_11 : pm_f 37 11 = some (.astore_n 2, 1, 2, 0, 0, []) := by decide +kernel
theorem f37_12 : pm_f 37 12 = some (.iconst 0, 1, 0, 0, 0, []) := by decide +kernel
theorem f37_13 : pm_f 37 13 = some (.istore_n 3, 1, 3, 0, 0, []) := by decide +kernel
theorem f37_14 : pm_f 37 14 = some (.iload_n 3, 1, 3, 0, 0, []) := by decide +kernel
theorem f37_15 : pm_f 37 15 = some (.aload_n 2, 1, 2, 0, 0, []) := by decide +kernel
theorem f37_16 : pm_f 37 16 = some (.invokevirtual 87, 3, 224, 0, (-1), []) := by decide +kernel
theorem f37_19 : pm_f 37 19 = some (.if_icmp .ge 23, 3, 42, 0, 0, []) := by decide +kernel
theorem f37_22 : pm_f 37 22 = some (.aload_n 0, 1, 0, 0, 0, []) := by decide +kernel
theorem f37_23 : pm_f 37 23 = some (.aload_n 2, 1, 2, 0, 0, []) := by decide +kernel
theorem f37_24 : pm_f 37 24 = some (.iload_n 3, 1, 3, 0, 0, []) := by decide +kernel
theorem f37_25 : pm_f 37 25 = some (.invokevirtual 92, 3, 220, 1, (-1), []) := by decide +kernel
theorem f37_28 : pm_f 37 28 = some (.invokevirtual 30, 3, 33, 1, 3, []) := by decide +kernel
theorem f37_31 : pm_f 37 31 = some (.ifCond .ne 5, 3, 36, 0, 0, []) := by decide +kernel
theorem f37_34 : pm_f 37 34 = some (.iconst 0, 1, 0, 0, 0, []) := by decide +kernel
theorem f37_35 : pm_f 37 35 = some (.ireturn, 1, 0, 0, 1, []) := by decide +kernel
theorem f37_36 : pm_f 37 36 = some (.iinc 3 1, 3, 3, 0, 1, []) := by decide +kernel
theorem f37_39 : pm_f 37 39 = some (.goto (-25), 3, 14, 0, 0, []) := by decide +kernel
theorem f37_42 : pm_f 37 42 = some (.iconst 1, 1, 0, 0, 1, []) := by decide +kernel
theorem f37_43 : pm_f 37 43 = some (.ireturn, 1, 0, 0, 1, []) := by decide +kernel
theorem f38_0 : pm_f 38 0 = some (.aload_n 0, 1, 0, 0, 0, []) := by decide +kernel
theorem f38_1 : pm_f 38 1 = some (.aload_n 0, 1, 0, 0, 0, []) := by decide +kernel
theorem f38_2 : pm_f 38 2 = some (.getfield 15, 3, 3, 1, 0, []) := by decide +kernel
theorem f38_5 : pm_f 38 5 = some (.invokevirtual 38, 3, 32, 1, 3, []) := by decide +kernel
theorem f38_8 : pm_f 38 8 = some (.invokestatic 96, 3, 39, 1, 0, []) := by decide +kernel
theorem f38_11 : pm_f 38 11 = some (.ifCond .ne 5, 3, 16, 0, 0, []) := by decide +kernel
theorem f38_14 : pm_f 38 14 = some (.iconst 0, 1, 0, 0, 0, []) := by decide +kernel
theorem f38_15 : pm_f 38 15 = some (.ireturn, 1, 0, 0, 1, []) := by decide +kernel
theorem f38_16 : pm_f 38 16 = some (.aload_n 0, 1, 0, 0, 0, []) := by decide +kernel
theorem f38_17 : pm_f 38 17 = some (.aload_n 0, 1, 0, 0, 0, []) := by decide +kernel
theorem f38_18 : pm_f 38 18 = some (.aload_n 0, 1, 0, 0, 0, []) := by decide +kernel
theorem f38_19 : pm_f 38 19 = some (.getfield 15, 3, 3, 1, 0, []) := by decide +kernel
theorem f38_22 : pm_f 38 22 = some (.invokevirtual 38, 3, 32, 1, 3, []) := by decide +kernel
theorem f38_25 : pm_f 38 25 = some (.bipush 48, 2, 0, 0, 48, []) := by decide +kernel
theorem f38_27 : pm_f 38 27 = some (.isub, 1, 0, 0, 0, []) := by decide +kernel
theorem f38_28 : pm_f 38 28 = some (.putfield 22, 3, 3, 3, 0, []) := by decide +kernel
theorem f38_31 : pm_f 38 31 = some (.aload_n 0, 1, 0, 0, 0, []) := by decide +kernel
theorem f38_32 : pm_f 38 32 = some (.dup, 1, 0, 0, 0, []) := by decide +kernel
theorem f38_33 : pm_f 38 33 = some (.getfield 15, 3, 3, 1, 0, []) := by decide +kernel
theorem f38_36 : pm_f 38 36 = some (.iconst 1, 1, 0, 0, 1, []) := by decide +kernel
theorem f38_37 : pm_f 38 37 = some (.iadd, 1, 0, 0, 0, []) := by decide +kernel
theorem f38_38 : pm_f 38 38 = some (.putfield 15, 3, 3, 1, 0, []) := by decide +kernel
theorem f38_41 : pm_f 38 41 = some (.aload_n 0, 1, 0, 0, 0, []) := by decide +kernel
theorem f38_42 : pm_f 38 42 = some (.aload_n 0, 1, 0, 0, 0, []) := by decide +kernel
theorem f38_43 : pm_f 38 43 = some (.getfield 15, 3, 3, 1, 0, []) := by decide +kernel
theorem f38_46 : pm_f 38 46 = some (.invokevirtual 38, 3, 32, 1, 3, []) := by decide +kernel
theorem f38_49 : pm_f 38 49 = some (.invokestatic 96, 3, 39, 1, 0, []) := by decide +kernel
theorem f38_52 : pm_f 38 52 = some (.ifCond .eq 36, 3, 88, 0, 0, []) := by decide +kernel
theorem f38_55 : pm_f 38 55 = some (.aload_n 0, 1, 0, 0, 0, []) := by decide +kernel
theorem f38_56 : pm_f 38 56 = some (.aload_n 0, 1, 0, 0, 0, []) := by decide +kernel
theorem f38_57 : pm_f 38 57 = some (.getfield 22, 3, 3, 3, 0, []) := by decide +kernel
theorem f38_60 : pm_f 38 60 = some (.bipush 10, 2, 0, 0, 10, []) := by decide +kernel
theorem f38_62 : pm_f 38 62 = some (.imul, 1, 0, 0, 0, []) := by decide +kernel
theorem f38_63 : pm_f 38 63 = some (.aload_n 0, 1, 0, 0, 0, []) := by decide +kernel
theorem f38_64 : pm_f 38 64 = some (.aload_n 0, 1, 0, 0, 0, []) := by decide +kernel
theorem f38_65 : pm_f 38 65 = some (.getfield 15, 3, 3, 1, 0, []) := by decide +kernel
theorem f38_68 : pm_f 38 68 = some (.invokevirtual 38, 3, 32, 1, 3, []) := by decide +kernel
theorem f38_71 : pm_f 38 71 = some (.iadd, 1, 0, 0, 0, []) := by decide +kernel
theorem f38_72 : pm_f 38 72 = some (.bipush 48, 2, 0, 0, 48, []) := by decide +kernel
theorem f38_74 : pm_f 38 74 = some (.isub, 1, 0, 0, 0, []) := by decide +kernel
theorem f38_75 : pm_f 38 75 = some (.putfield 22, 3, 3, 3, 0, []) := by decide +kernel
theorem f38_78 : pm_f 38 78 = some (.aload_n 0, 1, 0, 0, 0, []) := by decide +kernel
theorem f38_79 : pm_f 38 79 = some (.dup, 1, 0, 0, 0, []) := by decide +kernel
theorem f38_80 : pm_f 38 80 = some (.getfield 15, 3, 3, 1, 0, []) := by decide +kernel
theorem f38_83 : pm_f 38 83 = some (.iconst 1, 1, 0, 0, 1, []) := by decide +kernel
theorem f38_84 : pm_f 38 84 = some (.iadd, 1, 0, 0, 0, []) := by decide +kernel
theorem f38_85 : pm_f 38 85 = some (.putfield 15, 3, 3, 1, 0, []) := by decide +kernel
theorem f38_88 : pm_f 38 88 = some (.iconst 1, 1, 0, 0, 1, []) := by decide +kernel
theorem f38_89 : pm_f 38 89 = some (.ireturn, 1, 0, 0, 1, []) := by decide +kernel
theorem f39_0 : pm_f 39 0 = some (.iload_n 0, 1, 0, 0, 0, []) := by decide +kernel
theorem f39_1 : pm_f 39 1 = some (.bipush 48, 2, 0, 0, 48, []) := by decide +kernel
theorem f39_3 : pm_f 39 3 = some (.if_icmp .lt 13, 3, 16, 0, 0, []) := by decide +kernel
theorem f39_6 : pm_f 39 6 = some (.iload_n 0, 1, 0, 0, 0, []) := by decide +kernel
theorem f39_7 : pm_f 39 7 = some (.bipush 57, 2, 0, 0, 57, []) := by decide +kernel
theorem f39_9 : pm_f 39 9 = some (.if_icmp .gt 7, 3, 16, 0, 0, []) := by decide +kernel
theorem f39_12 : pm_f 39 12 = some (.iconst 1, 1, 0, 0, 1, []) := by decide +kernel
theorem f39_13 : pm_f 39 13 = some (.goto 4, 3, 17, 0, 0, []) := by decide +kernel
theorem f39_16 : pm_f 39 16 = some (.iconst 0, 1, 0, 0, 0, []) := by decide +kernel
theorem f39_17 : pm_f 39 17 = some (.ireturn, 1, 0, 0, 1, []) := by decide +kernel
theorem f40_0 : pm_f 40 0 = some (.iconst 0, 1, 0, 0, 0, []) := by decide +kernel
theorem f40_1 : pm_f 40 1 = some (.istore 4, 2, 4, 0, 0, []) := by decide +kernel
theorem f40_3 : pm_f 40 3 = some (.iload 4, 2, 4, 0, 0, []) := by decide +kernel
theorem f40_5 : pm_f 40 5 = some (.bipush 100, 2, 0, 0, 100, []) := by decide +kernel
theorem f40_7 : pm_f 40 7 = some (.if_icmp .ge 66, 3, 73, 0, 0, []) := by decide +kernel
theorem f40_10 : pm_f 40 10 = some (.iload 4, 2, 4, 0, 0, []) := by decide +kernel
theorem f40_12 : pm_f 40 12 = some (.ifCond .eq 11, 3, 23, 0, 0, []) := by decide +kernel
theorem f40_15 : pm_f 40 15 = some (.aload_n 0, 1, 0, 0, 0, []) := by decide +kernel
theorem f40_16 : pm_f 40 16 = some (.iload_n 2, 1, 2, 0, 0, []) := by decide +kernel
theorem f40_17 : pm_f 40 17 = some (.invokevirtual 30, 3, 33, 1, 3, []) := by decide +kernel
theorem f40_20 : pm_f 40 20 = some (.ifCond .eq 53, 3, 73, 0, 0, []) := by decide +kernel
theorem f40_23 : pm_f 40 23 = some (.iload_n 2, 1, 2, 0, 0, []) := by decide +kernel
theorem f40_24 : pm_f 40 24 = some (.bipush 124, 2, 0, 0, 124, []) := by decide +kernel
theorem f40_26 : pm_f 40 26 = some (.if_icmp .ne 14, 3, 40, 0, 0, []) := by decide +kernel
theorem f40_29 : pm_f 40 29 = some (.aload_n 0, 1, 0, 0, 0, []) := by decide +kernel
theorem f40_30 : pm_f 40 30 = some (.aload_n 1, 1, 1, 0, 0, []) := by decide +kernel
theorem f40_31 : pm_f 40 31 = some (.bipush 38, 2, 0, 0, 38, []) := by decide +kernel
theorem f40_33 : pm_f 40 33 = some (.iload_n 3, 1, 3, 0, 0, []) := by decide +kernel
theorem f40_34 : pm_f 40 34 = some (.invokevirtual 68, 3, 40, 3, 3, []) := by decide +kernel
theorem f40_37 : pm_f 40 37 = some (.goto 9, 3, 46, 0, 0, []) := by decide +kernel
theorem f40_40 : pm_f 40 40 = some (.aload_n 0, 1, 0, 0, 0, []) := by decide +kernel
theorem f40_41 : pm_f 40 41 = some (.aload_n 1, 1, 1, 0, 0, []) := by decide +kernel
theorem f40_42 : pm_f 40 42 = some (.iload_n 3, 1, 3, 0, 0, []) := by decide +kernel
theorem f40_43 : pm_f 40 43 = some (.invokevirtual 99, 3, 41, 2, 3, []) := by decide +kernel
theorem f40_46 : pm_f 40 46 = some (.istore 5, 2, 5, 0, 0, []) := by decide +kernel
theorem f40_48 : pm_f 40 48 = some (.iload 5, 2, 5, 0, 0, []) := by decide +kernel
theorem f40_50 : pm_f 40 50 = some (.ifCond .ne 5, 3, 55, 0, 0, []) := by decide +kernel
theorem f40_53 : pm_f 40 53 = some (.iconst 0, 1, 0, 0, 0, []) := by decide +kernel
theorem f40_54 : pm_f 40 54 = some (.ireturn, 1, 0, 0, 1, []) := by decide +kernel
theorem f40_55 : pm_f 40 55 = some (.iload 4, 2, 4, 0, 0, []) := by decide +kernel
theorem f40_57 : pm_f 40 57 = some (.ifCond .le 10, 3, 67, 0, 0, []) := by decide +kernel
theorem f40_60 : pm_f 40 60 = some (.aload_n 1, 1, 1, 0, 0, []) := by decide +kernel
theorem f40_61 : pm_f 40 61 = some (.iload_n 2, 1, 2, 0, 0, []) := by decide +kernel
theorem f40_62 : pm_f 40 62 = some (.iconst 0, 1, 0, 0, 0, []) := by decide +kernel
theorem f40_63 : pm_f 40 63 = some (.iconst 0, 1, 0, 0, 0, []) := by decide +kernel
theorem f40_64 : pm_f 40 64 = some (.invokevirtual 103, 3, 24, 3, 2, []) := by decide +kernel
theorem f40_67 : pm_f 40 67 = some (.iinc 4 1, 3, 4, 0, 1, []) := by decide +kernel
theorem f40_70 : pm_f 40 70 = some (.goto (-67), 3, 3, 0, 0, []) := by decide +kernel
theorem f40_73 : pm_f 40 73 = some (.iconst 1, 1, 0, 0, 1, []) := by decide +kernel
theorem f40_74 : pm_f 40 74 = some (.ireturn, 1, 0, 0, 1, []) := by decide +kernel
theorem f41_0 : pm_f 41 0 = some (.aload_n 0, 1, 0, 0, 0, []) := by decide +kernel
theorem f41_1 : pm_f 41 1 = some (.aload_n 0, 1, 0, 0, 0, []) := by decide +kernel
theorem f41_2 : pm_f 41 2 = some (.getfield 15, 3, 3, 1, 0, []) := by decide +kernel
theorem f41_5 : pm_f 41 5 = some (.invokevirtual 38, 3, 32, 1, 3, []) := by decide +kernel
theorem f41_8 : pm_f 41 8 = some (.bipush 33, 2, 0, 0, 33, []) := by decide +kernel
theorem f41_10 : pm_f 41 10 = some (.if_icmp .eq 16, 3, 26, 0, 0, []) := by decide +kernel
theorem f41_13 : pm_f 41 13 = some (.aload_n 0, 1, 0, 0, 0, []) := by decide +kernel
theorem f41_14 : pm_f 41 14 = some (.aload_n 0, 1, 0, 0, 0, []) := by decide +kernel
theorem f41_15 : pm_f 41 15 = some (.getfield 15, 3, 3, 1, 0, []) := by decide +kernel
theorem f41_18 : pm_f 41 18 = some (.invokevirtual 38, 3, 32, 1, 3, []) := by decide +kernel
theorem f41_21 : pm_f 41 21 = some (.bipush 40, 2, 0, 0, 40, []) := by decide +kernel
theorem f41_23 : pm_f 41 23 = some (.if_icmp .ne 7, 3, 30, 0, 0, []) := by decide +kernel
theorem f41_26 : pm_f 41 26 = some (.iconst 1, 1, 0, 0, 1, []) := by decide +kernel
theorem f41_27 : pm_f 41 27 = some (.goto 4, 3, 31, 0, 0, []) := by decide +kernel
theorem f41_30 : pm_f 41 30 = some (.iconst 0, 1, 0, 0, 0, []) := by decide +kernel
theorem f41_31 : pm_f 41 31 = some (.istore_n 3, 1, 3, 0, 0, []) := by decide +kernel
theorem f41_32 : pm_f 41 32 = some (.iload_n 3, 1, 3, 0, 0, []) := by decide +kernel
theorem f41_33 : pm_f 41 33 = some (.ifCond .ne 9, 3, 42, 0, 0, []) := by decide +kernel
theorem f41_36 : pm_f 41 36 = some (.aload_n 0, 1, 0, 0, 0, []) := by decide +kernel
theorem f41_37 : pm_f 41 37 = some (.aload_n 1, 1, 1, 0, 0, []) := by decide +kernel
theorem f41_38 : pm_f 41 38 = some (.invokevirtual 107, 3, 42, 1, 3, []) := by decide +kernel
theorem f41_41 : pm_f 41 41 = some (.ireturn, 1, 0, 0, 1, []) := by decide +kernel
theorem f41_42 : pm_f 41 42 = some (.iload_n 2, 1, 2, 0, 0, []) := by decide +kernel
theorem f41_43 : pm_f 41 43 = some (.iconst 4, 1, 0, 0, 4, []) := by decide +kernel
theorem f41_44 : pm_f 41 44 = some (.if_icmp .lt 5, 3, 49, 0, 0, []) := by decide +kernel
theorem f41_47 : pm_f 41 47 = some (.iconst 0, 1, 0, 0, 0, []) := by decide +kernel
theorem f41_48 : pm_f 41 48 = some (.ireturn, 1, 0, 0, 1, []) := by decide +kernel
theorem f41_49 : pm_f 41 49 = some (.aload_n 0, 1, 0, 0, 0, []) := by decide +kernel
theorem f41_50 : pm_f 41 50 = some (.bipush 40, 2, 0, 0, 40, []) := by decide +kernel
theorem f41_52 : pm_f 41 52 = some (.invokevirtual 30, 3, 33, 1, 3, []) := by decide +kernel
theorem f41_55 : pm_f 41 55 = some (.ifCond .eq 31, 3, 86, 0, 0, []) := by decide +kernel
theorem f41_58 : pm_f 41 58 = some (.aload_n 0, 1, 0, 0, 0, []) := by decide +kernel
theorem f41_59 : pm_f 41 59 = some (.aload_n 1, 1, 1, 0, 0, []) := by decide +kernel
theorem f41_60 : pm_f 41 60 = some (.bipush 124, 2, 0, 0, 124, []) := by decide +kernel
theorem f41_62 : pm_f 41 62 = some (.iload_n 2, 1, 2, 0, 0, []) := by decide +kernel
theorem f41_63 : pm_f 41 63 = some (.iconst 1, 1, 0, 0, 1, []) := by decide +kernel
theorem f41_64 : pm_f 41 64 = some (.iadd, 1, 0, 0, 0, []) := by decide +kernel
theorem f41_65 : pm_f 41 65 = some (.invokevirtual 68, 3, 40, 3, 3, []) := by decide +kernel
theorem f41_68 : pm_f 41 68 = some (.ifCond .eq 16, 3, 84, 0, 0, []) := by decide +kernel
theorem f41_71 : pm_f 41 71 = some (.aload_n 0, 1, 0, 0, 0, []) := by decide +kernel
theorem f41_72 : pm_f 41 72 = some (.bipush 41, 2, 0, 0, 41, []) := by decide +kernel
theorem f41_74 : pm_f 41 74 = some (.invokevirtual 30, 3, 33, 1, 3, []) := by decide +kernel
theorem f41_77 : pm_f 41 77 = some (.ifCond .eq 7, 3, 84, 0, 0, []) := by decide +kernel
theorem f41_80 : pm_f 41 80 = some (.iconst 1, 1, 0, 0, 1, []) := by decide +kernel
theorem f41_81 : pm_f 41 81 = some (.goto 4, 3, 85, 0, 0, []) := by decide +kernel
theorem f41_84 : pm_f 41 84 = some (.iconst 0, 1, 0, 0, 0, []) := by decide +kernel
theorem f41_85 : pm_f 41 85 = some (.ireturn, 1, 0, 0, 1, []) := by decide +kernel
theorem f41_86 : pm_f 41 86 = some (.aload_n 0, 1, 0, 0, 0, []) := by decide +kernel
theorem f41_87 : pm_f 41 87 = some (.dup, 1, 0, 0, 0, []) := by decide +kernel
theorem f41_88 : pm_f 41 88 = some (.getfield 15, 3, 3, 1, 0, []) := by decide +kernel
theorem f41_91 : pm_f 41 91 = some (.iconst 1, 1, 0, 0, 1, []) := by decide +kernel
theorem f41_92 : pm_f 41 92 = some (.iadd, 1, 0, 0, 0, []) := by decide +kernel
theorem f41_93 : pm_f 41 93 = some (.putfield 15, 3, 3, 1, 0, []) := by decide +kernel
theorem f41_96 : pm_f 41 96 = some (.aload_n 0, 1, 0, 0, 0, []) := by decide +kernel
theorem f41_97 : pm_f 41 97 = some (.aload_n 1, 1, 1, 0, 0, []) := by decide +kernel
theorem f41_98 : pm_f 41 98 = some (.iload_n 2, 1, 2, 0, 0, []) := by decide +kernel
theorem f41_99 : pm_f 41 99 = some (.iconst 1, 1, 0, 0, 1, []) := by decide +kernel
theorem f41_100 : pm_f 41 100 = some (.iadd, 1, 0, 0, 0, []) := by decide +kernel
theorem f41_101 : pm_f 41 101 = some (.invokevirtual 99, 3, 41, 2, 3, []) := by decide +kernel
theorem f41_104 : pm_f 41 104 = some (.ifCond .ne 5, 3, 109, 0, 0, []) := by decide +kernel
theorem f41_107 : pm_f 41 107 = some (.iconst 0, 1, 0, 0, 0, []) := by decide +kernel
theorem f41_108 : pm_f 41 108 = some (.ireturn, 1, 0, 0, 1, []) := by decide +kernel
theorem f41_109 : pm_f 41 109 = some (.aload_n 1, 1, 1, 0, 0, []) := by decide +kernel
theorem f41_110 : pm_f 41 110 = some (.bipush 33, 2, 0, 0, 33, []) := by decide +kernel
theorem f41_112 : pm_f 41 112 = some (.iconst 0, 1, 0, 0, 0, []) := by decide +kernel
theorem f41_113 : pm_f 41 113 = some (.iconst 0, 1, 0, 0, 0, []) := by decide +kernel
theorem f41_114 : pm_f 41 114 = some (.invokevirtual 103, 3, 24, 3, 2, []) := by decide +kernel
theorem f41_117 : pm_f 41 117 = some (.iconst 1, 1, 0, 0, 1, []) := by decide +kernel
theorem f41_118 : pm_f 41 118 = some (.ireturn, 1, 0, 0, 1, []) := by decide +kernel
theorem f42_0 : pm_f 42 0 = some (.aload_n 0, 1, 0, 0, 0, []) := by decide +kernel
theorem f42_1 : pm_f 42 1 = some (.aload_n 0, 1, 0, 0, 0, []) := by decide +kernel
theorem f42_2 : pm_f 42 2 = some (.getfield 15, 3, 3, 1, 0, []) := by decide +kernel
theorem f42_5 : pm_f 42 5 = some (.invokevirtual 38, 3, 32, 1, 3, []) := by decide +kernel
theorem f42_8 : pm_f 42 8 = some (.istore_n 2, 1, 2, 0, 0, []) := by decide +kernel
theorem f42_9 : pm_f 42 9 = some (.iload_n 2, 1, 2, 0, 0, []) := by decide +kernel
theorem f42_10 : pm_f 42 10 = some (.invokestatic 110, 3, 43, 1, 0, []) := by decide +kernel
theorem f42_13 : pm_f 42 13 = some (.ifCond .ne 5, 3, 18, 0, 0, []) := by decide +kernel
theorem f42_16 : pm_f 42 16 = some (.iconst 0, 1, 0, 0, 0, []) := by decide +kernel
theorem f42_17 : pm_f 42 17 = some (.ireturn, 1, 0, 0, 1, []) := by decide +kernel
theorem f42_18 : pm_f 42 18 = some (.aload_n 0, 1, 0, 0, 0, []) := by decide +kernel
theorem f42_19 : pm_f 42 19 = some (.dup, 1, 0, 0, 0, []) := by decide +kernel
theorem f42_20 : pm_f 42 20 = some (.getfield 15, 3, 3, 1, 0, []) := by decide +kernel
theorem f42_23 : pm_f 42 23 = some (.iconst 1, 1, 0, 0, 1, []) := by decide +kernel
theorem f42_24 : pm_f 42 24 = some (.iadd, 1, 0, 0, 0, []) := by decide +kernel
theorem f42_25 : pm_f 42 25 = some (.putfield 15, 3, 3, 1, 0, []) := by decide +kernel
theorem f42_28 : pm_f 42 28 = some (.aload_n 0, 1, 0, 0, 0, []) := by decide +kernel
theorem f42_29 : pm_f 42 29 = some (.aload_n 0, 1, 0, 0, 0, []) := by decide +kernel
theorem f42_30 : pm_f 42 30 = some (.getfield 15, 3, 3, 1, 0, []) := by decide +kernel
theorem f42_33 : pm_f 42 33 = some (.invokevirtual 38, 3, 32, 1, 3, []) := by decide +kernel
theorem f42_36 : pm_f 42 36 = some (.istore_n 3, 1, 3, 0, 0, []) := by decide +kernel
theorem f42_37 : pm_f 42 37 = some (.iload_n 3, 1, 3, 0, 0, []) := by decide +kernel
theorem f42_38 : pm_f 42 38 = some (.bipush 60, 2, 0, 0, 60, []) := by decide +kernel
theorem f42_40 : pm_f 42 40 = some (.if_icmp .eq 17, 3, 57, 0, 0, []) := by decide +kernel
theorem f42_43 : pm_f 42 43 = some (.iload_n 3, 1, 3, 0, 0, []) := by decide +kernel
theorem f42_44 : pm_f 42 44 = some (.bipush 61, 2, 0, 0, 61, []) := by decide +kernel
theorem f42_46 : pm_f 42 46 = some (.if_icmp .eq 11, 3, 57, 0, 0, []) := by decide +kernel
theorem f42_49 : pm_f 42 49 = some (.iload_n 3, 1, 3, 0, 0, []) := by decide +kernel
theorem f42_50 : pm_f 42 50 = some (.bipush 62, 2, 0, 0, 62, []) := by decide +kernel
theorem f42_52 : pm_f 42 52 = some (.if_icmp .eq 5, 3, 57, 0, 0, []) := by decide +kernel
theorem f42_55 : pm_f 42 55 = some (.iconst 0, 1, 0, 0, 0, []) := by decide +kernel
theorem f42_56 : pm_f 42 56 = some (.ireturn, 1, 0, 0, 1, []) := by decide +kernel
theorem f42_57 : pm_f 42 57 = some (.aload_n 0, 1, 0, 0, 0, []) := by decide +kernel
theorem f42_58 : pm_f 42 58 = some (.dup, 1, 0, 0, 0, []) := by decide +kernel
theorem f42_59 : pm_f 42 59 = some (.getfield 15, 3, 3, 1, 0, []) := by decide +kernel
theorem f42_62 : pm_f 42 62 = some (.iconst 1, 1, 0, 0, 1, []) := by decide +kernel
theorem f42_63 : pm_f 42 63 = some (.iadd, 1, 0, 0, 0, []) := by decide +kernel
theorem f42_64 : pm_f 42 64 = some (.putfield 15, 3, 3, 1, 0, []) := by decide +kernel
theorem f42_67 : pm_f 42 67 = some (.aload_n 0, 1, 0, 0, 0, []) := by decide +kernel
theorem f42_68 : pm_f 42 68 = some (.invokevirtual 49, 3, 38, 0, 3, []) := by decide +kernel
theorem f42_71 : pm_f 42 71 = some (.ifCond .ne 5, 3, 76, 0, 0, []) := by decide +kernel
theorem f42_74 : pm_f 42 74 = some (.iconst 0, 1, 0, 0, 0, []) := by decide +kernel
theorem f42_75 : pm_f 42 75 = some (.ireturn, 1, 0, 0, 1, []) := by decide +kernel
theorem f42_76 : pm_f 42 76 = some (.aload_n 1, 1, 1, 0, 0, []) := by decide +kernel
theorem f42_77 : pm_f 42 77 = some (.iload_n 2, 1, 2, 0, 0, []) := by decide +kernel
theorem f42_78 : pm_f 42 78 = some (.iload_n 3, 1, 3, 0, 0, []) := by decide +kernel
theorem f42_79 : pm_f 42 79 = some (.aload_n 0, 1, 0, 0, 0, []) := by decide +kernel
theorem f42_80 : pm_f 42 80 = some (.getfield 22, 3, 3, 3, 0, []) := by decide +kernel
theorem f42_83 : pm_f 42 83 = some (.invokevirtual 103, 3, 24, 3, 2, []) := by decide +kernel
theorem f42_86 : pm_f 42 86 = some (.iconst 1, 1, 0, 0, 1, []) := by decide +kernel
theorem f42_87 : pm_f 42 87 = some (.ireturn, 1, 0, 0, 1, []) := by decide +kernel
theorem f43_0 : pm_f 43 0 = some (.iload_n 0, 1, 0, 0, 0, []) := by decide +kernel
theorem f43_1 : pm_f 43 1 = some (.bipush 112, 2, 0, 0, 112, []) := by decide +kernel
theorem f43_3 : pm_f 43 3 = some (.if_icmp .eq 33, 3, 36, 0, 0, []) := by decide +kernel
theorem f43_6 : pm_f 43 6 = some (.iload_n 0, 1, 0, 0, 0, []) := by decide +kernel
theorem f43_7 : pm_f 43 7 = some (.bipush 107, 2, 0, 0, 107, []) := by decide +kernel
theorem f43_9 : pm_f 43 9 = some (.if_icmp .eq 27, 3, 36, 0, 0, []) := by decide +kernel
theorem f43_12 : pm_f 43 12 = some (.iload_n 0, 1, 0, 0, 0, []) := by decide +kernel
theorem f43_13 : pm_f 43 13 = some (.bipush 118, 2, 0, 0, 118, []) := by decide +kernel
theorem f43_15 : pm_f 43 15 = some (.if_icmp .eq 21, 3, 36, 0, 0, []) := by decide +kernel
theorem f43_18 : pm_f 43 18 = some (.iload_n 0, 1, 0, 0, 0, []) := by decide +kernel
theorem f43_19 : pm_f 43 19 = some (.bipush 108, 2, 0, 0, 108, []) := by decide +kernel
theorem f43_21 : pm_f 43 21 = some (.if_icmp .eq 15, 3, 36, 0, 0, []) := by decide +kernel
theorem f43_24 : pm_f 43 24 = some (.iload_n 0, 1, 0, 0, 0, []) := by decide +kernel
theorem f43_25 : pm_f 43 25 = some (.bipush 99, 2, 0, 0, 99, []) := by decide +kernel
theorem f43_27 : pm_f 43 27 = some (.if_icmp .eq 9, 3, 36, 0, 0, []) := by decide +kernel
theorem f43_30 : pm_f 43 30 = some (.iload_n 0, 1, 0, 0, 0, []) := by decide +kernel
theorem f43_31 : pm_f 43 31 = some (.bipush 98, 2, 0, 0, 98, []) := by decide +kernel
theorem f43_33 : pm_f 43 33 = some (.if_icmp .ne 7, 3, 40, 0, 0, []) := by decide +kernel
theorem f43_36 : pm_f 43 36 = some (.iconst 1, 1, 0, 0, 1, []) := by decide +kernel
theorem f43_37 : pm_f 43 37 = some (.goto 4, 3, 41, 0, 0, []) := by decide +kernel
theorem f43_40 : pm_f 43 40 = some (.iconst 0, 1, 0, 0, 0, []) := by decide +kernel
theorem f43_41 : pm_f 43 41 = some (.ireturn, 1, 0, 0, 1, []) := by decide +kernel
theorem f44_0 : pm_f 44 0 = some (.aload_n 0, 1, 0, 0, 0, []) := by decide +kernel
theorem f44_1 : pm_f 44 1 = some (.invokespecial 3, 3, 0, 0, (-1), []) := by decide +kernel
theorem f44_4 : pm_f 44 4 = some (.aload_n 0, 1, 0, 0, 0, []) := by decide +kernel
theorem f44_5 : pm_f 44 5 = some (.iconst 0, 1, 0, 0, 0, []) := by decide +kernel
theorem f44_6 : pm_f 44 6 = some (.putfield 9, 3, 4, 0, 0, []) := by decide +kernel
theorem f44_9 : pm_f 44 9 = some (.iconst 0, 1, 0, 0, 0, []) := by decide +kernel
theorem f44_10 : pm_f 44 10 = some (.iload_n 1, 1, 1, 0, 0, []) := by decide +kernel
theorem f44_11 : pm_f 44 11 = some (.invokestatic 15, 3, 0, 0, 1, []) := by decide +kernel
theorem f44_14 : pm_f 44 14 = some (.istore_n 2, 1, 2, 0, 0, []) := by decide +kernel
theorem f44_15 : pm_f 44 15 = some (.aload_n 0, 1, 0, 0, 0, []) := by decide +kernel
theorem f44_16 : pm_f 44 16 = some (.iload_n 2, 1, 2, 0, 0, []) := by decide +kernel
theorem f44_17 : pm_f 44 17 = some (.newarray .int, 2, 1, 0, 0, []) := by decide +kernel
theorem f44_19 : pm_f 44 19 = some (.putfield 21, 3, 4, 1, 2, []) := by decide +kernel
theorem f44_22 : pm_f 44 22 = some (.aload_n 0, 1, 0, 0, 0, []) := by decide +kernel
theorem f44_23 : pm_f 44 23 = some (.iload_n 2, 1, 2, 0, 0, []) := by decide +kernel
theorem f44_24 : pm_f 44 24 = some (.newarray .int, 2, 1, 0, 0, []) := by decide +kernel
theorem f44_26 : pm_f 44 26 = some (.putfield 25, 3, 4, 2, 2, []) := by decide +kernel
theorem f44_29 : pm_f 44 29 = some (.aload_n 0, 1, 0, 0, 0, []) := by decide +kernel
theorem f44_30 : pm_f 44 30 = some (.iload_n 2, 1, 2, 0, 0, []) := by decide +kernel
theorem f44_31 : pm_f 44 31 = some (.newarray .int, 2, 1, 0, 0, []) := by decide +kernel
theorem f44_33 : pm_f 44 33 = some (.putfield 28, 3, 4, 3, 2, []) := by decide +kernel
theorem f44_36 : pm_f 44 36 = some (.return_, 1, 0, 0, 0, []) := by decide +kernel
theorem f45_0 : pm_f 45 0 = some (.aload_n 0, 1, 0, 0, 0, []) := by decide +kernel
theorem f45_1 : pm_f 45 1 = some (.iconst 0, 1, 0, 0, 0, []) := by decide +kernel
theorem f45_2 : pm_f 45 2 = some (.putfield 9, 3, 4, 0, 0, []) := by decide +kernel
theorem f45_5 : pm_f 45 5 = some (.iconst 0, 1, 0, 0, 0, []) := by decide +kernel
theorem f45_6 : pm_f 45 6 = some (.ireturn, 1, 0, 0, 0, []) := by decide +kernel
theorem f46_0 : pm_f 46 0 = some (.aload_n 0, 1, 0, 0, 0, []) := by decide +kernel
theorem f46_1 : pm_f 46 1 = some (.getfield 9, 3, 4, 0, 0, []) := by decide +kernel
theorem f46_4 : pm_f 46 4 = some (.iconst 0, 1, 0, 0, 0, []) := by decide +kernel
theorem f46_5 : pm_f 46 5 = some (.aload_n 0, 1, 0, 0, 0, []) := by decide +kernel
theorem f46_6 : pm_f 46 6 = some (.getfield 21, 3, 4, 1, 2, []) := by decide +kernel
theorem f46_9 : pm_f 46 9 = some (.arraylength, 1, 0, 0, 0, []) := by decide +kernel
theorem f46_10 : pm_f 46 10 = some (.iconst 1, 1, 0, 0, 1, []) := by decide +kernel
theorem f46_11 : pm_f 46 11 = some (.isub, 1, 0, 0, 0, []) := by decide +kernel
theorem f46_12 : pm_f 46 12 = some (.invokestatic 31, 3, 112, 3, 0, []) := by decide +kernel
theorem f46_15 : pm_f 46 15 = some (.ifCond .ne 6, 3, 21, 0, 0, []) := by decide +kernel
theorem f46_18 : pm_f 46 18 = some (.bipush (-4), 2, 0, 0, (-4), []) := by decide +kernel
theorem f46_20 : pm_f 46 20 = some (.ireturn, 1, 0, 0, 0, []) := by decide +kernel
theorem f46_21 : pm_f 46 21 = some (.aload_n 0, 1, 0, 0, 0, []) := by decide +kernel
theorem f46_22 : pm_f 46 22 = some (.getfield 21, 3, 4, 1, 2, []) := by decide +kernel
theorem f46_25 : pm_f 46 25 = some (.aload_n 0, 1, 0, 0, 0, []) := by decide +kernel
theorem f46_26 : pm_f 46 26 = some (.getfield 9, 3, 4, 0, 0, []) := by decide +kernel
theorem f46_29 : pm_f 46 29 = some (.iload_n 1, 1, 1, 0, 0, []) := by decide +kernel
theorem f46_30 : pm_f 46 30 = some (.iastore, 1, 0, 0, 0, []) := by decide +kernel
theorem f46_31 : pm_f 46 31 = some (.aload_n 0, 1, 0, 0, 0, []) := by decide +kernel
theorem f46_32 : pm_f 46 32 = some (.getfield 25, 3, 4, 2, 2, []) := by decide +kernel
theorem f46_35 : pm_f 46 35 = some (.aload_n 0, 1, 0, 0, 0, []) := by decide +kernel
theorem f46_36 : pm_f 46 36 = some (.getfield 9, 3, 4, 0, 0, []) := by decide +kernel
theorem f46_39 : pm_f 46 39 = some (.iload_n 2, 1, 2, 0, 0, []) := by decide +kernel
theorem f46_40 : pm_f 46 40 = some (.iastore, 1, 0, 0, 0, []) := by decide +kernel
theorem f46_41 : pm_f 46 41 = some (.aload_n 0, 1, 0, 0, 0, []) := by decide +kernel
theorem f46_42 : pm_f 46 42 = some (.getfield 28, 3, 4, 3, 2, []) := by decide +kernel
theorem f46_45 : pm_f 46 45 = some (.aload_n 0, 1, 0, 0, 0, []) := by decide +kernel
theorem f46_46 : pm_f 46 46 = some (.getfield 9, 3, 4, 0, 0, []) := by decide +kernel
theorem f46_49 : pm_f 46 49 = some (.iload_n 3, 1, 3, 0, 0, []) := by decide +kernel
theorem f46_50 : pm_f 46 50 = some (.iastore, 1, 0, 0, 0, []) := by decide +kernel
theorem f46_51 : pm_f 46 51 = some (.aload_n 0, 1, 0, 0, 0, []) := by decide +kernel
theorem f46_52 : pm_f 46 52 = some (.dup, 1, 0, 0, 0, []) := by decide +kernel
theorem f46_53 : pm_f 46 53 = some (.getfield 9, 3, 4, 0, 0, []) := by decide +kernel
theorem f46_56 : pm_f 46 56 = some (.iconst 1, 1, 0, 0, 1, []) := by decide +kernel
theorem f46_57 : pm_f 46 57 = some (.iadd, 1, 0, 0, 0, []) := by decide +kernel
theorem f46_58 : pm_f 46 58 = some (.putfield 9, 3, 4, 0, 0, []) := by decide +kernel
theorem f46_61 : pm_f 46 61 = some (.aload_n 0, 1, 0, 0, 0, []) := by decide +kernel
theorem f46_62 : pm_f 46 62 = some (.getfield 9, 3, 4, 0, 0, []) := by decide +kernel
theorem f46_65 : pm_f 46 65 = some (.ireturn, 1, 0, 0, 0, []) := by decide +kernel
theorem f47_0 : pm_f 47 0 = some (.aload_n 0, 1, 0, 0, 0, []) := by decide +kernel
theorem f47_1 : pm_f 47 1 = some (.aload_n 1, 1, 1, 0, 0, []) := by decide +kernel
theorem f47_2 : pm_f 47 2 = some (.getfield 9, 3, 4, 0, 0, []) := by decide +kernel
theorem f47_5 : pm_f 47 5 = some (.aload_n 0, 1, 0, 0, 0, []) := by decide +kernel
theorem f47_6 : pm_f 47 6 = some (.getfield 21, 3, 4, 1, 2, []) := by decide +kernel
theorem f47_9 : pm_f 47 9 = some (.arraylength, 1, 0, 0, 0, []) := by decide +kernel
theorem f47_10 : pm_f 47 10 = some (.invokestatic 35, 3, 0, 0, 2, []) := by decide +kernel
theorem f47_13 : pm_f 47 13 = some (.putfield 9, 3, 4, 0, 0, []) := by decide +kernel
theorem f47_16 : pm_f 47 16 = some (.aload_n 1, 1, 1, 0, 0, []) := by decide +kernel
theorem f47_17 : pm_f 47 17 = some (.getfield 21, 3, 4, 1, 2, []) := by decide +kernel
theorem f47_20 : pm_f 47 20 = some (.iconst 0, 1, 0, 0, 0, []) := by decide +kernel
theorem f47_21 : pm_f 47 21 = some (.aload_n 0, 1, 0, 0, 0, []) := by decide +kernel
theorem f47_22 : pm_f 47 22 = some (.getfield 21, 3, 4, 1, 2, []) := by decide +kernel
theorem f47_25 : pm_f 47 25 = some (.iconst 0, 1, 0, 0, 0, []) := by decide +kernel
theorem f47_26 : pm_f 47 26 = some (.aload_n 0, 1, 0, 0, 0, []) := by decide +kernel
theorem f47_27 : pm_f 47 27 = some (.getfield 9, 3, 4, 0, 0, []) := by decide +kernel
theorem f47_30 : pm_f 47 30 = some (.invokestatic 38, 3, 0, 0, 4, []) := by decide +kernel
theorem f47_33 : pm_f 47 33 = some (.aload_n 1, 1, 1, 0, 0, []) := by decide +kernel
theorem f47_34 : pm_f 47 34 = some (.getfield 25, 3, 4, 2, 2, []) := by decide +kernel
theorem f47_37 : pm_f 47 37 = some (.iconst 0, 1, 0, 0, 0, []) := by decide +kernel
theorem f47_38 : pm_f 47 38 = some (.aload_n 0, 1, 0, 0, 0, []) := by decide +kernel
theorem f47_39 : pm_f 47 39 = some (.getfield 25, 3, 4, 2, 2, []) := by decide +kernel
theorem f47_42 : pm_f 47 42 = some (.iconst 0, 1, 0, 0, 0, []) := by decide +kernel
theorem f47_43 : pm_f 47 43 = some (.aload_n 0, 1, 0, 0, 0, []) := by decide +kernel
theorem f47_44 : pm_f 47 44 = some (.getfield 9, 3, 4, 0, 0, []) := by decide +kernel
theorem f47_47 : pm_f 47 47 = some (.invokestatic 38, 3, 0, 0, 4, []) := by decide +kernel
theorem f47_50 : pm_f 47 50 = some (.aload_n 1, 1, 1, 0, 0, []) := by decide +kernel
theorem f47_51 : pm_f 47 51 = some (.getfield 28, 3, 4, 3, 2, []) := by decide +kernel
theorem f47_54 : pm_f 47 54 = some (.iconst 0, 1, 0, 0, 0, []) := by decide +kernel
theorem f47_55 : pm_f 47 55 = some (.aload_n 0, 1, 0, 0, 0, []) := by decide +kernel
theorem f47_56 : pm_f 47 56 = some (.getfield 28, 3, 4, 3, 2, []) := by decide +kernel
theorem f47_59 : pm_f 47 59 = some (.iconst 0, 1, 0, 0, 0, []) := by decide +kernel
theorem f47_60 : pm_f 47 60 = some (.aload_n 0, 1, 0, 0, 0, []) := by decide +kernel
theorem f47_61 : pm_f 47 61 = some (.getfield 9, 3, 4, 0, 0, []) := by decide +kernel
theorem f47_64 : pm_f 47 64 = some (.invokestatic 38, 3, 0, 0, 4, []) := by decide +kernel
theorem f47_67 : pm_f 47 67 = some (.return_, 1, 0, 0, 0, []) := by decide +kernel
theorem f48_0 : pm_f 48 0 = some (.aload_n 0, 1, 0, 0, 0, []) := by decide +kernel
theorem f48_1 : pm_f 48 1 = some (.invokespecial 3, 3, 0, 0, (-1), []) := by decide +kernel
theorem f48_4 : pm_f 48 4 = some (.aload_n 0, 1, 0, 0, 0, []) := by decide +kernel
theorem f48_5 : pm_f 48 5 = some (.iconst 0, 1, 0, 0, 0, []) := by decide +kernel
theorem f48_6 : pm_f 48 6 = some (.putfield 9, 3, 5, 0, 0, []) := by decide +kernel
theorem f48_9 : pm_f 48 9 = some (.aload_n 0, 1, 0, 0, 0, []) := by decide +kernel
theorem f48_10 : pm_f 48 10 = some (.bipush 6, 2, 0, 0, 6, []) := by decide +kernel
theorem f48_12 : pm_f 48 12 = some (.newarray .int, 2, 1, 0, 0, []) := by decide +kernel
theorem f48_14 : pm_f 48 14 = some (.putfield 15, 3, 5, 1, 2, []) := by decide +kernel
theorem f48_17 : pm_f 48 17 = some (.aload_n 0, 1, 0, 0, 0, []) := by decide +kernel
theorem f48_18 : pm_f 48 18 = some (.bipush 6, 2, 0, 0, 6, []) := by decide +kernel
theorem f48_20 : pm_f 48 20 = some (.newarray .int, 2, 1, 0, 0, []) := by decide +kernel
theorem f48_22 : pm_f 48 22 = some (.putfield 19, 3, 5, 2, 2, []) := by decide +kernel
theorem f48_25 : pm_f 48 25 = some (.aload_n 0, 1, 0, 0, 0, []) := by decide +kernel
theorem f48_26 : pm_f 48 26 = some (.bipush 6, 2, 0, 0, 6, []) := by decide +kernel
theorem f48_28 : pm_f 48 28 = some (.newarray .int, 2, 1, 0, 0, []) := by decide +kernel
theorem f48_30 : pm_f 48 30 = some (.putfield 22, 3, 5, 3, 2, []) := by decide +kernel
theorem f48_33 : pm_f 48 33 = some (.aload_n 0, 1, 0, 0, 0, []) := by decide +kernel
theorem f48_34 : pm_f 48 34 = some (.bipush 6, 2, 0, 0, 6, []) := by decide +kernel
theorem f48_36 : pm_f 48 36 = some (.newarray .int, 2, 1, 0, 0, []) := by decide +kernel
theorem f48_38 : pm_f 48 38 = some (.putfield 25, 3, 5, 4, 2, []) := by decide +kernel
theorem f48_41 : pm_f 48 41 = some (.aload_n 0, 1, 0, 0, 0, []) := by decide +kernel
theorem f48_42 : pm_f 48 42 = some (.bipush 6, 2, 0, 0, 6, []) := by decide +kernel
theorem f48_44 : pm_f 48 44 = some (.newarray .int, 2, 1, 0, 0, []) := by decide +kernel
theorem f48_46 : pm_f 48 46 = some (.putfield 28, 3, 5, 5, 2, []) := by decide +kernel
theorem f48_49 : pm_f 48 49 = some (.aload_n 0, 1, 0, 0, 0, []) := by decide +kernel
theorem f48_50 : pm_f 48 50 = some (.bipush 24, 2, 0, 0, 24, []) := by decide +kernel
theorem f48_52 : pm_f 48 52 = some (.newarray .int, 2, 1, 0, 0, []) := by decide +kernel
theorem f48_54 : pm_f 48 54 = some (.putfield 31, 3, 5, 6, 2, []) := by decide +kernel
theorem f48_57 : pm_f 48 57 = some (.aload_n 0, 1, 0, 0, 0, []) := by decide +kernel
theorem f48_58 : pm_f 48 58 = some (.iconst 0, 1, 0, 0, 0, []) := by decide +kernel
theorem f48_59 : pm_f 48 59 = some (.putfield 34, 3, 5, 7, 0, []) := by decide +kernel
theorem f48_62 : pm_f 48 62 = some (.aload_n 0, 1, 0, 0, 0, []) := by decide +kernel
theorem f48_63 : pm_f 48 63 = some (.iconst 0, 1, 0, 0, 0, []) := by decide +kernel
theorem f48_64 : pm_f 48 64 = some (.putfield 37, 3, 5, 8, 0, []) := by decide +kernel
theorem f48_67 : pm_f 48 67 = some (.aload_n 0, 1, 0, 0, 0, []) := by decide +kernel
theorem f48_68 : pm_f 48 68 = some (.iconst 0, 1, 0, 0, 0, []) := by decide +kernel
theorem f48_69 : pm_f 48 69 = some (.putfield 40, 3, 5, 9, 0, []) := by decide +kernel
theorem f48_72 : pm_f 48 72 = some (.aload_n 0, 1, 0, 0, 0, []) := by decide +kernel
theorem f48_73 : pm_f 48 73 = some (.bipush 6, 2, 0, 0, 6, []) := by decide +kernel
theorem f48_75 : pm_f 48 75 = some (.newarray .int, 2, 1, 0, 0, []) := by decide +kernel
theorem f48_77 : pm_f 48 77 = some (.putfield 43, 3, 5, 11, 2, []) := by decide +kernel
theorem f48_80 : pm_f 48 80 = some (.aload_n 0, 1, 0, 0, 0, []) := by decide +kernel
theorem f48_81 : pm_f 48 81 = some (.bipush 6, 2, 0, 0, 6, []) := by decide +kernel
theorem f48_83 : pm_f 48 83 = some (.newarray .int, 2, 1, 0, 0, []) := by decide +kernel
theorem f48_85 : pm_f 48 85 = some (.putfield 46, 3, 5, 12, 2, []) := by decide +kernel
theorem f48_88 : pm_f 48 88 = some (.aload_n 0, 1, 0, 0, 0, []) := by decide +kernel
theorem f48_89 : pm_f 48 89 = some (.bipush 6, 2, 0, 0, 6, []) := by decide +kernel
theorem f48_91 : pm_f 48 91 = some (.newarray .int, 2, 1, 0, 0, []) := by decide +kernel
theorem f48_93 : pm_f 48 93 = some (.putfield 49, 3, 5, 13, 2, []) := by decide +kernel
theorem f48_96 : pm_f 48 96 = some (.aload_n 0, 1, 0, 0, 0, []) := by decide +kernel
theorem f48_97 : pm_f 48 97 = some (.bipush 6, 2, 0, 0, 6, []) := by decide +kernel
theorem f48_99 : pm_f 48 99 = some (.newarray .int, 2, 1, 0, 0, []) := by decide +kernel
theorem f48_101 : pm_f 48 101 = some (.putfield 52, 3, 5, 14, 2, []) := by decide +kernel
theorem f48_104 : pm_f 48 104 = some (.aload_n 0, 1, 0, 0, 0, []) := by decide +kernel
theorem f48_105 : pm_f 48 105 = some (.bipush 6, 2, 0, 0, 6, []) := by decide +kernel
theorem f48_107 : pm_f 48 107 = some (.newarray .int, 2, 1, 0, 0, []) := by decide +kernel
theorem f48_109 : pm_f 48 109 = some (.putfield 55, 3, 5, 15, 2, []) := by decide +kernel
theorem f48_112 : pm_f 48 112 = some (.aload_n 0, 1, 0, 0, 0, []) := by decide +kernel
theorem f48_113 : pm_f 48 113 = some (.aload_n 1, 1, 1, 0, 0, []) := by decide +kernel
theorem f48_114 : pm_f 48 114 = some (.putfield 58, 3, 5, 10, 2, []) := by decide +kernel
theorem f48_117 : pm_f 48 117 = some (.return_, 1, 0, 0, 0, []) := by decide +kernel
theorem f49_0 : pm_f 49 0 = some (.aload_n 0, 1, 0, 0, 0, []) := by decide +kernel
theorem f49_1 : pm_f 49 1 = some (.aload_n 1, 1, 1, 0, 0, []) := by decide +kernel
theorem f49_2 : pm_f 49 2 = some (.getfield 9, 3, 5, 0, 0, []) := by decide +kernel
theorem f49_5 : pm_f 49 5 = some (.putfield 9, 3, 5, 0, 0, []) := by decide +kernel
theorem f49_8 : pm_f 49 8 = some (.aload_n 1, 1, 1, 0, 0, []) := by decide +kernel
theorem f49_9 : pm_f 49 9 = some (.getfield 15, 3, 5, 1, 2, []) := by decide +kernel
theorem f49_12 : pm_f 49 12 = some (.iconst 0, 1, 0, 0, 0, []) := by decide +kernel
theorem f49_13 : pm_f 49 13 = some (.aload_n 0, 1, 0, 0, 0, []) := by decide +kernel
theorem f49_14 : pm_f 49 14 = some (.getfield 15, 3, 5, 1, 2, []) := by decide +kernel
theorem f49_17 : pm_f 49 17 = some (.iconst 0, 1, 0, 0, 0, []) := by decide +kernel
theorem f49_18 : pm_f 49 18 = some (.bipush 6, 2, 0, 0, 6, []) := by decide +kernel
theorem f49_20 : pm_f 49 20 = some (.invokestatic 62, 3, 0, 0, 4, []) := by decide +kernel
theorem f49_23 : pm_f 49 23 = some (.aload_n 1, 1, 1, 0, 0, []) := by decide +kernel
theorem f49_24 : pm_f 49 24 = some (.getfield 19, 3, 5, 2, 2, []) := by decide +kernel
theorem f49_27 : pm_f 49 27 = some (.iconst 0, 1, 0, 0, 0, []) := by decide +kernel
theorem f49_28 : pm_f 49 28 = some (.aload_n 0, 1, 0, 0, 0, []) := by decide +kernel
theorem f49_29 : pm_f 49 29 = some (.getfield 19, 3, 5, 2, 2, []) := by decide +kernel
theorem f49_32 : pm_f 49 32 = some (.iconst 0, 1, 0, 0, 0, []) := by decide +kernel
theorem f49_33 : pm_f 49 33 = some (.bipush 6, 2, 0, 0, 6, []) := by decide +kernel
theorem f49_35 : pm_f 49 35 = some (.invokestatic 62, 3, 0, 0, 4, []) := by decide +kernel
theorem f49_38 : pm_f 49 38 = some (.aload_n 1, 1, 1, 0, 0, []) := by decide +kernel
theorem f49_39 : pm_f 49 39 = some (.getfield 22, 3, 5, 3, 2, []) := by decide +kernel
theorem f49_42 : pm_f 49 42 = some (.iconst 0, 1, 0, 0, 0, []) := by decide +kernel
theorem f49_43 : pm_f 49 43 = some (.aload_n 0, 1, 0, 0, 0, []) := by decide +kernel
theorem f49_44 : pm_f 49 44 = some (.getfield 22, 3, 5, 3, 2, []) := by decide +kernel
theorem f49_47 : pm_f 49 47 = some (.iconst 0, 1, 0, 0, 0, []) := by decide +kernel
theorem f49_48 : pm_f 49 48 = some (.bipush 6, 2, 0, 0, 6, []) := by decide +kernel
theorem f49_50 : pm_f 49 50 = some (.invokestatic 62, 3, 0, 0, 4, []) := by decide +kernel
theorem f49_53 : pm_f 49 53 = some (.aload_n 1, 1, 1, 0, 0, []) := by decide +kernel
theorem f49_54 : pm_f 49 54 = some (.getfield 25, 3, 5, 4, 2, []) := by decide +kernel
theorem f49_57 : pm_f 49 57 = some (.iconst 0, 1, 0, 0, 0, []) := by decide +kernel
theorem f49_58 : pm_f 49 58 = some (.aload_n 0, 1, 0, 0, 0, []) := by decide +kernel
theorem f49_59 : pm_f 49 59 = some (.getfield 25, 3, 5, 4, 2, []) := by decide +kernel
theorem f49_62 : pm_f 49 62 = some (.iconst 0, 1, 0, 0, 0, []) := by decide +kernel
theorem f49_63 : pm_f 49 63 = some (.bipush 6, 2, 0, 0, 6, []) := by decide +kernel
theorem f49_65 : pm_f 49 65 = some (.invokestatic 62, 3, 0, 0, 4, []) := by decide +kernel
theorem f49_68 : pm_f 49 68 = some (.aload_n 1, 1, 1, 0, 0, []) := by decide +kernel
theorem f49_69 : pm_f 49 69 = some (.getfield 28, 3, 5, 5, 2, []) := by decide +kernel
theorem f49_72 : pm_f 49 72 = some (.iconst 0, 1, 0, 0, 0, []) := by decide +kernel
theorem f49_73 : pm_f 49 73 = some (.aload_n 0, 1, 0, 0, 0, []) := by decide +kernel
theorem f49_74 : pm_f 49 74 = some (.getfield 28, 3, 5, 5, 2, []) := by decide +kernel
theorem f49_77 : pm_f 49 77 = some (.iconst 0, 1, 0, 0, 0, []) := by decide +kernel
theorem f49_78 : pm_f 49 78 = some (.bipush 6, 2, 0, 0, 6, []) := by decide +kernel
theorem f49_80 : pm_f 49 80 = some (.invokestatic 62, 3, 0, 0, 4, []) := by decide +kernel
theorem f49_83 : pm_f 49 83 = some (.aload_n 1, 1, 1, 0, 0, []) := by decide +kernel
theorem f49_84 : pm_f 49 84 = some (.getfield 31, 3, 5, 6, 2, []) := by decide +kernel
theorem f49_87 : pm_f 49 87 = some (.iconst 0, 1, 0, 0, 0, []) := by decide +kernel
theorem f49_88 : pm_f 49 88 = some (.aload_n 0, 1, 0, 0, 0, []) := by decide +kernel
theorem f49_89 : pm_f 49 89 = some (.getfield 31, 3, 5, 6, 2, []) := by decide +kernel
theorem f49_92 : pm_f 49 92 = some (.iconst 0, 1, 0, 0, 0, []) := by decide +kernel
theorem f49_93 : pm_f 49 93 = some (.bipush 24, 2, 0, 0, 24, []) := by decide +kernel
theorem f49_95 : pm_f 49 95 = some (.invokestatic 62, 3, 0, 0, 4, []) := by decide +kernel
theorem f49_98 : pm_f 49 98 = some (.aload_n 0, 1, 0, 0, 0, []) := by decide +kernel
theorem f49_99 : pm_f 49 99 = some (.aload_n 1, 1, 1, 0, 0, []) := by decide +kernel
theorem f49_100 : pm_f 49 100 = some (.getfield 34, 3, 5, 7, 0, []) := by decide +kernel
theorem f49_103 : pm_f 49 103 = some (.putfield 34, 3, 5, 7, 0, []) := by decide +kernel
theorem f49_106 : pm_f 49 106 = some (.aload_n 0, 1, 0, 0, 0, []) := by decide +kernel
theorem f49_107 : pm_f 49 107 = some (.aload_n 1, 1, 1, 0, 0, []) := by decide +kernel
theorem f49_108 : pm_f 49 108 = some (.getfield 37, 3, 5, 8, 0, []) := by decide +kernel
theorem f49_111 : pm_f 49 111 = some (.putfield 37, 3, 5, 8, 0, []) := by decide +kernel
theorem f49_114 : pm_f 49 114 = some (.aload_n 0, 1, 0, 0, 0, []) := by decide +kernel
theorem f49_115 : pm_f 49 115 = some (.aload_n 1, 1, 1, 0, 0, []) := by decide +kernel
theorem f49_116 : pm_f 49 116 = some (.getfield 40, 3, 5, 9, 0, []) := by decide +kernel
theorem f49_119 : pm_f 49 119 = some (.putfield 40, 3, 5, 9, 0, []) := by decide +kernel
theorem f49_122 : pm_f 49 122 = some (.aload_n 0, 1, 0, 0, 0, []) := by decide +kernel
theorem f49_123 : pm_f 49 123 = some (.aload_n 1, 1, 1, 0, 0, []) := by decide +kernel
theorem f49_124 : pm_f 49 124 = some (.getfield 58, 3, 5, 10, 2, []) := by decide +kernel
theorem f49_127 : pm_f 49 127 = some (.putfield 58, 3, 5, 10, 2, []) := by decide +kernel
theorem f49_130 : pm_f 49 130 = some (.return_, 1, 0, 0, 0, []) := by decide +kernel
theorem f50_0 : pm_f 50 0 = some (.iload_n 1, 1, 1, 0, 0, []) := by decide +kernel
theorem f50_1 : pm_f 50 1 = some (.iconst 0, 1, 0, 0, 0, []) := by decide +kernel
theorem f50_2 : pm_f 50 2 = some (.aload_n 0, 1, 0, 0, 0, []) := by decide +kernel
theorem f50_3 : pm_f 50 3 = some (.getfield 9, 3, 5, 0, 0, []) := by decide +kernel
theorem f50_6 : pm_f 50 6 = some (.iconst 1, 1, 0, 0, 1, []) := by decide +kernel
theorem f50_7 : pm_f 50 7 = some (.isub, 1, 0, 0, 0, []) := by decide +kernel
theorem f50_8 : pm_f 50 8 = some (.invokestatic 68, 3, 112, 3, 0, []) := by decide +kernel
theorem f50_11 : pm_f 50 11 = some (.ireturn, 1, 0, 0, 1, []) := by decide +kernel
theorem f51_0 : pm_f 51 0 = some (.aload_n 0, 1, 0, 0, 0, []) := by decide +kernel
theorem f51_1 : pm_f 51 1 = some (.getfield 9, 3, 5, 0, 0, []) := by decide +kernel
theorem f51_4 : pm_f 51 4 = some (.istore 6, 2, 6, 0, 0, []) := by decide +kernel
theorem f51_6 : pm_f 51 6 = some (.iload 6, 2, 6, 0, 0, []) := by decide +kernel
theorem f51_8 : pm_f 51 8 = some (.bipush 6, 2, 0, 0, 6, []) := by decide +kernel
theorem f51_10 : pm_f 51 10 = some (.if_icmp .lt 6, 3, 16, 0, 0, []) := by decide +kernel
theorem f51_13 : pm_f 51 13 = some (.bipush (-4), 2, 0, 0, (-4), []) := by decide +kernel
theorem f51_15 : pm_f 51 15 = some (.ireturn, 1, 0, 0, 0, []) := by decide +kernel
theorem f51_16 : pm_f 51 16 = some (.aload_n 0, 1, 0, 0, 0, []) := by decide +kernel
theorem f51_17 : pm_f 51 17 = some (.getfield 15, 3, 5, 1, 2, []) := by decide +kernel
theorem f51_20 : pm_f 51 20 = some (.iload 6, 2, 6, 0, 0, []) := by decide +kernel
theorem f51_22 : pm_f 51 22 = some (.iload_n 1, 1, 1, 0, 0, []) := by decide +kernel
theorem f51_23 : pm_f 51 23 = some (.iastore, 1, 0, 0, 0, []) := by decide +kernel
theorem f51_24 : pm_f 51 24 = some (.aload_n 0, 1, 0, 0, 0, []) := by decide +kernel
theorem f51_25 : pm_f 51 25 = some (.getfield 19, 3, 5, 2, 2, []) := by decide +kernel
theorem f51_28 : pm_f 51 28 = some (.iload 6, 2, 6, 0, 0, []) := by decide +kernel
theorem f51_30 : pm_f 51 30 = some (.iload_n 2, 1, 2, 0, 0, []) := by decide +kernel
theorem f51_31 : pm_f 51 31 = some (.iastore, 1, 0, 0, 0, []) := by decide +kernel
theorem f51_32 : pm_f 51 32 = some (.aload_n 0, 1, 0, 0, 0, []) := by decide +kernel
theorem f51_33 : pm_f 51 33 = some (.getfield 22, 3, 5, 3, 2, []) := by decide +kernel
theorem f51_36 : pm_f 51 36 = some (.iload 6, 2, 6, 0, 0, []) := by decide +kernel
theorem f51_38 : pm_f 51 38 = some (.iload_n 3, 1, 3, 0, 0, []) := by decide +kernel
theorem f51_39 : pm_f 51 39 = some (.iastore, 1, 0, 0, 0, []) := by decide +kernel
theorem f51_40 : pm_f 51 40 = some (.aload_n 0, 1, 0, 0, 0, []) := by decide +kernel
theorem f51_41 : pm_f 51 41 = some (.getfield 25, 3, 5, 4, 2, []) := by decide +kernel
theorem f51_44 : pm_f 51 44 = some (.iload 6, 2, 6, 0, 0, []) := by decide +kernel
theorem f51_46 : pm_f 51 46 = some (.iload 4, 2, 4, 0, 0, []) := by decide +kernel
theorem f51_48 : pm_f 51 48 = some (.iastore, 1, 0, 0, 0, []) := by decide +kernel
theorem f51_49 : pm_f 51 49 = some (.aload_n 0, 1, 0, 0, 0, []) := by decide +kernel
theorem f51_50 : pm_f 51 50 = some (.getfield 28, 3, 5, 5, 2, []) := by decide +kernel
theorem f51_53 : pm_f 51 53 = some (.iload 6, 2, 6, 0, 0, []) := by decide +kernel
theorem f51_55 : pm_f 51 55 = some (.iload 5, 2, 5, 0, 0, []) := by decide +kernel
theorem f51_57 : pm_f 51 57 = some (.iastore, 1, 0, 0, 0, []) := by decide +kernel
theorem f51_58 : pm_f 51 58 = some (.aload_n 0, 1, 0, 0, 0, []) := by decide +kernel
theorem f51_59 : pm_f 51 59 = some (.dup, 1, 0, 0, 0, []) := by decide +kernel
theorem f51_60 : pm_f 51 60 = some (.getfield 9, 3, 5, 0, 0, []) := by decide +kernel
theorem f51_63 : pm_f 51 63 = some (.iconst 1, 1, 0, 0, 1, []) := by decide +kernel
theorem f51_64 : pm_f 51 64 = some (.iadd, 1, 0, 0, 0, []) := by decide +kernel
theorem f51_65 : pm_f 51 65 = some (.putfield 9, 3, 5, 0, 0, []) := by decide +kernel
theorem f51_68 : pm_f 51 68 = some (.iload 6, 2, 6, 0, 0, []) := by decide +kernel
theorem f51_70 : pm_f 51 70 = some (.ireturn, 1, 0, 0, 0, []) := by decide +kernel
theorem f52_0 : pm_f 52 0 = some (.aload_n 0, 1, 0, 0, 0, []) := by decide +kernel
theorem f52_1 : pm_f 52 1 = some (.getfield 34, 3, 5, 7, 0, []) := by decide +kernel
theorem f52_4 : pm_f 52 4 = some (.iload_n 1, 1, 1, 0, 0, []) := by decide +kernel
theorem f52_5 : pm_f 52 5 = some (.ishr, 1, 0, 0, 0, []) := by decide +kernel
theorem f52_6 : pm_f 52 6 = some (.iconst 1, 1, 0, 0, 1, []) := by decide +kernel
theorem f52_7 : pm_f 52 7 = some (.iand, 1, 0, 0, 0, []) := by decide +kernel
theorem f52_8 : pm_f 52 8 = some (.iconst 1, 1, 0, 0, 1, []) := by decide +kernel
theorem f52_9 : pm_f 52 9 = some (.if_icmp .ne 7, 3, 16, 0, 0, []) := by decide +kernel
theorem f52_12 : pm_f 52 12 = some (.iconst 1, 1, 0, 0, 1, []) := by decide +kernel
theorem f52_13 : pm_f 52 13 = some (.goto 4, 3, 17, 0, 0, []) := by decide +kernel
theorem f52_16 : pm_f 52 16 = some (.iconst 0, 1, 0, 0, 0, []) := by decide +kernel
theorem f52_17 : pm_f 52 17 = some (.ireturn, 1, 0, 0, 1, []) := by decide +kernel
theorem f53_0 : pm_f 53 0 = some (.aload_n 0, 1, 0, 0, 0, []) := by decide +kernel
theorem f53_1 : pm_f 53 1 = some (.iload_n 2, 1, 2, 0, 0, []) := by decide +kernel
theorem f53_2 : pm_f 53 2 = some (.ifCond .eq 14, 3, 16, 0, 0, []) := by decide +kernel
theorem f53_5 : pm_f 53 5 = some (.aload_n 0, 1, 0, 0, 0, []) := by decide +kernel
theorem f53_6 : pm_f 53 6 = some (.getfield 34, 3, 5, 7, 0, []) := by decide +kernel
theorem f53_9 : pm_f 53 9 = some (.iconst 1, 1, 0, 0, 1, []) := by decide +kernel
theorem f53_10 : pm_f 53 10 = some (.iload_n 1, 1, 1, 0, 0, []) := by decide +kernel
theorem f53_11 : pm_f 53 11 = some (.ishl, 1, 0, 0, 0, []) := by decide +kernel
theorem f53_12 : pm_f 53 12 = some (.ior, 1, 0, 0, 0, []) := by decide +kernel
theorem f53_13 : pm_f 53 13 = some (.goto 13, 3, 26, 0, 0, []) := by decide +kernel
theorem f53_16 : pm_f 53 16 = some (.aload_n 0, 1, 0, 0, 0, []) := by decide +kernel
theorem f53_17 : pm_f 53 17 = some (.getfield 34, 3, 5, 7, 0, []) := by decide +kernel
theorem f53_20 : pm_f 53 20 = some (.iconst 1, 1, 0, 0, 1, []) := by decide +kernel
theorem f53_21 : pm_f 53 21 = some (.iload_n 1, 1, 1, 0, 0, []) := by decide +kernel
theorem f53_22 : pm_f 53 22 = some (.ishl, 1, 0, 0, 0, []) := by decide +kernel
theorem f53_23 : pm_f 53 23 = some (.iconst (-1), 1, 0, 0, (-1), []) := by decide +kernel
theorem f53_24 : pm_f 53 24 = some (.ixor, 1, 0, 0, 0, []) := by decide +kernel
theorem f53_25 : pm_f 53 25 = some (.iand, 1, 0, 0, 0, []) := by decide +kernel
theorem f53_26 : pm_f 53 26 = some (.putfield 34, 3, 5, 7, 0, []) := by decide +kernel
theorem f53_29 : pm_f 53 29 = some (.return_, 1, 0, 0, 0, []) := by decide +kernel
theorem f54_0 : pm_f 54 0 = some (.aload_n 0, 1, 0, 0, 0, []) := by decide +kernel
theorem f54_1 : pm_f 54 1 = some (.iload_n 1, 1, 1, 0, 0, []) := by decide +kernel
theorem f54_2 : pm_f 54 2 = some (.invokevirtual 72, 3, 52, 1, 5, []) := by decide +kernel
theorem f54_5 : pm_f 54 5 = some (.ifCond .eq 5, 3, 10, 0, 0, []) := by decide +kernel
theorem f54_8 : pm_f 54 8 = some (.iconst 0, 1, 0, 0, 0, []) := by decide +kernel
theorem f54_9 : pm_f 54 9 = some (.ireturn, 1, 0, 0, 0, []) := by decide +kernel
theorem f54_10 : pm_f 54 10 = some (.aload_n 0, 1, 0, 0, 0, []) := by decide +kernel
theorem f54_11 : pm_f 54 11 = some (.getfield 15, 3, 5, 1, 2, []) := by decide +kernel
theorem f54_14 : pm_f 54 14 = some (.iload_n 1, 1, 1, 0, 0, []) := by decide +kernel
theorem f54_15 : pm_f 54 15 = some (.iaload, 1, 0, 0, 0, []) := by decide +kernel
theorem f54_16 : pm_f 54 16 = some (.iconst 4, 1, 0, 0, 4, []) := by decide +kernel
theorem f54_17 : pm_f 54 17 = some (.if_icmp .ne 15, 3, 32, 0, 0, []) := by decide +kernel
theorem f54_20 : pm_f 54 20 = some (.bipush 30, 2, 0, 0, 30, []) := by decide +kernel
theorem f54_22 : pm_f 54 22 = some (.aload_n 0, 1, 0, 0, 0, []) := by decide +kernel
theorem f54_23 : pm_f 54 23 = some (.getfield 25, 3, 5, 4, 2, []) := by decide +kernel
theorem f54_26 : pm_f 54 26 = some (.iload_n 1, 1, 1, 0, 0, []) := by decide +kernel
theorem f54_27 : pm_f 54 27 = some (.iaload, 1, 0, 0, 0, []) := by decide +kernel
theorem f54_28 : pm_f 54 28 = some (.invokestatic 76, 3, 0, 0, 1, []) := by decide +kernel
theorem f54_31 : pm_f 54 31 = some (.ireturn, 1, 0, 0, 0, []) := by decide +kernel
theorem f54_32 : pm_f 54 32 = some (.aload_n 0, 1, 0, 0, 0, []) := by decide +kernel
theorem f54_33 : pm_f 54 33 = some (.getfield 15, 3, 5, 1, 2, []) := by decide +kernel
theorem f54_36 : pm_f 54 36 = some (.iload_n 1, 1, 1, 0, 0, []) := by decide +kernel
theorem f54_37 : pm_f 54 37 = some (.iaload, 1, 0, 0, 0, []) := by decide +kernel
theorem f54_38 : pm_f 54 38 = some (.iconst 5, 1, 0, 0, 5, []) := by decide +kernel
theorem f54_39 : pm_f 54 39 = some (.if_icmp .ne 27, 3, 66, 0, 0, []) := by decide +kernel
theorem f54_42 : pm_f 54 42 = some (.aload_n 0, 1, 0, 0, 0, []) := by decide +kernel
theorem f54_43 : pm_f 54 43 = some (.getfield 9, 3, 5, 0, 0, []) := by decide +kernel
theorem f54_46 : pm_f 54 46 = some (.ifCond .le 20, 3, 66, 0, 0, []) := by decide +kernel
theorem f54_49 : pm_f 54 49 = some (.aload_n 0, 1, 0, 0, 0, []) := by decide +kernel
theorem f54_50 : pm_f 54 50 = some (.getfield 37, 3, 5, 8, 0, []) := by decide +kernel
theorem f54_53 : pm_f 54 53 = some (.aload_n 0, 1, 0, 0, 0, []) := by decide +kernel
theorem f54_54 : pm_f 54 54 = some (.getfield 9, 3, 5, 0, 0, []) := by decide +kernel
theorem f54_57 : pm_f 54 57 = some (.irem, 1, 0, 0, 0, []) := by decide +kernel
theorem f54_58 : pm_f 54 58 = some (.iload_n 1, 1, 1, 0, 0, []) := by decide +kernel
theorem f54_59 : pm_f 54 59 = some (.if_icmp .ne 7, 3, 66, 0, 0, []) := by decide +kernel
theorem f54_62 : pm_f 54 62 = some (.iconst 1, 1, 0, 0, 1, []) := by decide +kernel
theorem f54_63 : pm_f 54 63 = some (.goto 4, 3, 67, 0, 0, []) := by decide +kernel
theorem f54_66 : pm_f 54 66 = some (.iconst 0, 1, 0, 0, 0, []) := by decide +kernel
theorem f54_67 : pm_f 54 67 = some (.istore_n 2, 1, 2, 0, 0, []) := by decide +kernel
theorem f54_68 : pm_f 54 68 = some (.iload_n 2, 1, 2, 0, 0, []) := by decide +kernel
theorem f54_69 : pm_f 54 69 = some (.ifCond .eq 14, 3, 83, 0, 0, []) := by decide +kernel
theorem f54_72 : pm_f 54 72 = some (.iconst 2, 1, 0, 0, 2, []) := by decide +kernel
theorem f54_73 : pm_f 54 73 = some (.aload_n 0, 1, 0, 0, 0, []) := by decide +kernel
theorem f54_74 : pm_f 54 74 = some (.getfield 25, 3, 5, 4, 2, []) := by decide +kernel
theorem f54_77 : pm_f 54 77 = some (.iload_n 1, 1, 1, 0, 0, []) := by decide +kernel
theorem f54_78 : pm_f 54 78 = some (.iaload, 1, 0, 0, 0, []) := by decide +kernel
theorem f54_79 : pm_f 54 79 = some (.imul, 1, 0, 0, 0, []) := by decide +kernel
theorem f54_80 : pm_f 54 80 = some (.goto 9, 3, 89, 0, 0, []) := by decide +kernel
theorem f54_83 : pm_f 54 83 = some (.aload_n 0, 1, 0, 0, 0, []) := by decide +kernel
theorem f54_84 : pm_f 54 84 = some (.getfield 25, 3, 5, 4, 2, []) := by decide +kernel
theorem f54_87 : pm_f 54 87 = some (.iload_n 1, 1, 1, 0, 0, []) := by decide +kernel
theorem f54_88 : pm_f 54 88 = some (.iaload, 1, 0, 0, 0, []) := by decide +kernel
theorem f54_89 : pm_f 54 89 = some (.ireturn, 1, 0, 0, 0, []) := by decide +kernel
theorem f55_0 : pm_f 55 0 = some (.iconst 0, 1, 0, 0, 0, []) := by decide +kernel
theorem f55_1 : pm_f 55 1 = some (.istore_n 1, 1, 1, 0, 0, []) := by decide +kernel
theorem f55_2 : pm_f 55 2 = some (.iconst 0, 1, 0, 0, 0, []) := by decide +kernel
theorem f55_3 : pm_f 55 3 = some (.istore_n 2, 1, 2, 0, 0, []) := by decide +kernel
theorem f55_4 : pm_f 55 4 = some (.iload_n 2, 1, 2, 0, 0, []) := by decide +kernel
theorem f55_5 : pm_f 55 5 = some (.aload_n 0, 1, 0, 0, 0, []) := by decide +kernel
theorem f55_6 : pm_f 55 6 = some (.getfield 9, 3, 5, 0, 0, []) := by decide +kernel
theorem f55_9 : pm_f 55 9 = some (.if_icmp .ge 17, 3, 26, 0, 0, []) := by decide +kernel
theorem f55_12 : pm_f 55 12 = some (.iload_n 1, 1, 1, 0, 0, []) := by decide +kernel
theorem f55_13 : pm_f 55 13 = some (.aload_n 0, 1, 0, 0, 0, []) := by decide +kernel
theorem f55_14 : pm_f 55 14 = some (.iload_n 2, 1, 2, 0, 0, []) := by decide +kernel
theorem f55_15 : pm_f 55 15 = some (.invokevirtual 82, 3, 54, 1, 5, []) := by decide +kernel
theorem f55_18 : pm_f 55 18 = some (.iadd, 1, 0, 0, 0, []) := by decide +kernel
theorem f55_19 : pm_f 55 19 = some (.istore_n 1, 1, 1, 0, 0, []) := by decide +kernel
theorem f55_20 : pm_f 55 20 = some (.iinc 2 1, 3, 2, 0, 1, []) := by decide +kernel
theorem f55_23 : pm_f 55 23 = some (.goto (-19), 3, 4, 0, 0, []) := by decide +kernel
theorem f55_26 : pm_f 55 26 = some (.iload_n 1, 1, 1, 0, 0, []) := by decide +kernel
theorem f55_27 : pm_f 55 27 = some (.ireturn, 1, 0, 0, 0, []) := by decide +kernel
theorem f56_0 : pm_f 56 0 = some (.iconst 0, 1, 0, 0, 0, []) := by decide +kernel
theorem f56_1 : pm_f 56 1 = some (.istore_n 1, 1, 1, 0, 0, []) := by decide +kernel
theorem f56_2 : pm_f 56 2 = some (.iload_n 1, 1, 1, 0, 0, []) := by decide +kernel
theorem f56_3 : pm_f 56 3 = some (.aload_n 0, 1, 0, 0, 0, []) := by decide +kernel
theorem f56_4 : pm_f 56 4 = some (.getfield 9, 3, 5, 0, 0, []) := by decide +kernel
theorem f56_7 : pm_f 56 7 = some (.if_icmp .ge 20, 3, 27, 0, 0, []) := by decide +kernel
theorem f56_10 : pm_f 56 10 = some (.aload_n 0, 1, 0, 0, 0, []) := by decide +kernel
theorem f56_11 : pm_f 56 11 = some (.getfield 43, 3, 5, 11, 2, []) := by decide +kernel
theorem f56_14 : pm_f 56 14 = some (.iload_n 1, 1, 1, 0, 0, []) := by decide +kernel
theorem f56_15 : pm_f 56 15 = some (.aload_n 0, 1, 0, 0, 0, []) := by decide +kernel
theorem f56_16 : pm_f 56 16 = some (.iload_n 1, 1, 1, 0, 0, []) := by decide +kernel
theorem f56_17 : pm_f 56 17 = some (.invokevirtual 82, 3, 54, 1, 5, []) := by decide +kernel
theorem f56_20 : pm_f 56 20 = some (.iastore, 1, 0, 0, 0, []) := by decide +kernel
theorem f56_21 : pm_f 56 21 = some (.iinc 1 1, 3, 1, 0, 1, []) := by decide +kernel
theorem f56_24 : pm_f 56 24 = some (.goto (-22), 3, 2, 0, 0, []) := by decide +kernel
theorem f56_27 : pm_f 56 27 = some (.iconst 0, 1, 0, 0, 0, []) := by decide +kernel
theorem f56_28 : pm_f 56 28 = some (.istore_n 1, 1, 1, 0, 0, []) := by decide +kernel
theorem f56_29 : pm_f 56 29 = some (.iload_n 1, 1, 1, 0, 0, []) := by decide +kernel
theorem f56_30 : pm_f 56 30 = some (.aload_n 0, 1, 0, 0, 0, []) := by decide +kernel
theorem f56_31 : pm_f 56 31 = some (.getfield 9, 3, 5, 0, 0, []) := by decide +kernel
theorem f56_34 : pm_f 56 34 = some (.if_icmp .ge 25, 3, 59, 0, 0, []) := by decide +kernel
theorem f56_37 : pm_f 56 37 = some (.aload_n 0, 1, 0, 0, 0, []) := by decide +kernel
theorem f56_38 : pm_f 56 38 = some (.iload_n 1, 1, 1, 0, 0, []) := by decide +kernel
theorem f56_39 : pm_f 56 39 = some (.invokevirtual 86, 3, 57, 1, 5, []) := by decide +kernel
theorem f56_42 : pm_f 56 42 = some (.aload_n 0, 1, 0, 0, 0, []) := by decide +kernel
theorem f56_43 : pm_f 56 43 = some (.getfield 52, 3, 5, 14, 2, []) := by decide +kernel
theorem f56_46 : pm_f 56 46 = some (.iload_n 1, 1, 1, 0, 0, []) := by decide +kernel
theorem f56_47 : pm_f 56 47 = some (.aload_n 0, 1, 0, 0, 0, []) := by decide +kernel
theorem f56_48 : pm_f 56 48 = some (.iload_n 1, 1, 1, 0, 0, []) := by decide +kernel
theorem f56_49 : pm_f 56 49 = some (.invokevirtual 90, 3, 59, 1, 5, []) := by decide +kernel
theorem f56_52 : pm_f 56 52 = some (.iastore, 1, 0, 0, 0, []) := by decide +kernel
theorem f56_53 : pm_f 56 53 = some (.iinc 1 1, 3, 1, 0, 1, []) := by decide +kernel
theorem f56_56 : pm_f 56 56 = some (.goto (-27), 3, 29, 0, 0, []) := by decide +kernel
theorem f56_59 : pm_f 56 59 = some (.return_, 1, 0, 0, 0, []) := by decide +kernel
theorem f57_0 : pm_f 57 0 = some (.iconst 0, 1, 0, 0, 0, []) := by decide +kernel
theorem f57_1 : pm_f 57 1 = some (.istore_n 2, 1, 2, 0, 0, []) := by decide +kernel
theorem f57_2 : pm_f 57 2 = some (.aload_n 0, 1, 0, 0, 0, []) := by decide +kernel
theorem f57_3 : pm_f 57 3 = some (.getfield 46, 3, 5, 12, 2, []) := by decide +kernel
theorem f57_6 : pm_f 57 6 = some (.iload_n 1, 1, 1, 0, 0, []) := by decide +kernel
theorem f57_7 : pm_f 57 7 = some (.bipush (-5), 2, 0, 0, (-5), []) := by decide +kernel
theorem f57_9 : pm_f 57 9 = some (.iastore, 1, 0, 0, 0, []) := by decide +kernel
theorem f57_10 : pm_f 57 10 = some (.aload_n 0, 1, 0, 0, 0, []) := by decide +kernel
theorem f57_11 : pm_f 57 11 = some (.getfield 49, 3, 5, 13, 2, []) := by decide +kernel
theorem f57_14 : pm_f 57 14 = some (.iload_n 1, 1, 1, 0, 0, []) := by decide +kernel
theorem f57_15 : pm_f 57 15 = some (.iconst 0, 1, 0, 0, 0, []) := by decide +kernel
theorem f57_16 : pm_f 57 16 = some (.iastore, 1, 0, 0, 0, []) := by decide +kernel
theorem f57_17 : pm_f 57 17 = some (.iconst 0, 1, 0, 0, 0, []) := by decide +kernel
theorem f57_18 : pm_f 57 18 = some (.istore_n 3, 1, 3, 0, 0, []) := by decide +kernel
theorem f57_19 : pm_f 57 19 = some (.iload_n 3, 1, 3, 0, 0, []) := by decide +kernel
theorem f57_20 : pm_f 57 20 = some (.aload_n 0, 1, 0, 0, 0, []) := by decide +kernel
theorem f57_21 : pm_f 57 21 = some (.getfield 9, 3, 5, 0, 0, []) := by decide +kernel
theorem f57_24 : pm_f 57 24 = some (.if_icmp .ge 66, 3, 90, 0, 0, []) := by decide +kernel
theorem f57_27 : pm_f 57 27 = some (.iload_n 3, 1, 3, 0, 0, []) := by decide +kernel
theorem f57_28 : pm_f 57 28 = some (.iload_n 1, 1, 1, 0, 0, []) := by decide +kernel
theorem f57_29 : pm_f 57 29 = some (.if_icmp .ne 7, 3, 36, 0, 0, []) := by decide +kernel
theorem f57_32 : pm_f 57 32 = some (.iconst 0, 1, 0, 0, 0, []) := by decide +kernel
theorem f57_33 : pm_f 57 33 = some (.goto 22, 3, 55, 0, 0, []) := by decide +kernel
theorem f57_36 : pm_f 57 36 = some (.iconst 0, 1, 0, 0, 0, []) := by decide +kernel
theorem f57_37 : pm_f 57 37 = some (.aload_n 0, 1, 0, 0, 0, []) := by decide +kernel
theorem f57_38 : pm_f 57 38 = some (.getfield 43, 3, 5, 11, 2, []) := by decide +kernel
theorem f57_41 : pm_f 57 41 = some (.iload_n 3, 1, 3, 0, 0, []) := by decide +kernel
theorem f57_42 : pm_f 57 42 = some (.iaload, 1, 0, 0, 0, []) := by decide +kernel
theorem f57_43 : pm_f 57 43 = some (.iconst 2, 1, 0, 0, 2, []) := by decide +kernel
theorem f57_44 : pm_f 57 44 = some (.aload_n 0, 1, 0, 0, 0, []) := by decide +kernel
theorem f57_45 : pm_f 57 45 = some (.iload_n 1, 1, 1, 0, 0, []) := by decide +kernel
theorem f57_46 : pm_f 57 46 = some (.iload_n 3, 1, 3, 0, 0, []) := by decide +kernel
theorem f57_47 : pm_f 57 47 = some (.invokevirtual 93, 3, 58, 2, 5, []) := by decide +kernel
theorem f57_50 : pm_f 57 50 = some (.imul, 1, 0, 0, 0, []) := by decide +kernel
theorem f57_51 : pm_f 57 51 = some (.isub, 1, 0, 0, 0, []) := by decide +kernel
theorem f57_52 : pm_f 57 52 = some (.invokestatic 76, 3, 0, 0, 1, []) := by decide +kernel
theorem f57_55 : pm_f 57 55 = some (.istore 4, 2, 4, 0, 0, []) := by decide +kernel
theorem f57_57 : pm_f 57 57 = some (.aload_n 0, 1, 0, 0, 0, []) := by decide +kernel
theorem f57_58 : pm_f 57 58 = some (.getfield 49, 3, 5, 13, 2, []) := by decide +kernel
theorem f57_61 : pm_f 57 61 = some (.iload_n 1, 1, 1, 0, 0, []) := by decide +kernel
theorem f57_62 : pm_f 57 62 = some (.dup2, 1, 0, 0, 0, []) := by decide +kernel
theorem f57_63 : pm_f 57 63 = some (.iaload, 1, 0, 0, 0, []) := by decide +kernel
theorem f57_64 : pm_f 57 64 = some (.iload 4, 2, 4, 0, 0, []) := by decide +kernel
theorem f57_66 : pm_f 57 66 = some (.iadd, 1, 0, 0, 0, []) := by decide +kernel
theorem f57_67 : pm_f 57 67 = some (.iastore, 1, 0, 0, 0, []) := by decide +kernel
theorem f57_68 : pm_f 57 68 = some (.iload 4, 2, 4, 0, 0, []) := by decide +kernel
theorem f57_70 : pm_f 57 70 = some (.iload_n 2, 1, 2, 0, 0, []) := by decide +kernel
theorem f57_71 : pm_f 57 71 = some (.if_icmp .le 13, 3, 84, 0, 0, []) := by decide +kernel
theorem f57_74 : pm_f 57 74 = some (.iload 4, 2, 4, 0, 0, []) := by decide +kernel
theorem f57_76 : pm_f 57 76 = some (.istore_n 2, 1, 2, 0, 0, []) := by decide +kernel
theorem f57_77 : pm_f 57 77 = some (.aload_n 0, 1, 0, 0, 0, []) := by decide +kernel
theorem f57_78 : pm_f 57 78 = some (.getfield 46, 3, 5, 12, 2, []) := by decide +kernel
theorem f57_81 : pm_f 57 81 = some (.iload_n 1, 1, 1, 0, 0, []) := by decide +kernel
theorem f57_82 : pm_f 57 82 = some (.iload_n 3, 1, 3, 0, 0, []) := by decide +kernel
theorem f57_83 : pm_f 57 83 = some (.iastore, 1, 0, 0, 0, []) := by decide +kernel
theorem f57_84 : pm_f 57 84 = some (.iinc 3 1, 3, 3, 0, 1, []) := by decide +kernel
theorem f57_87 : pm_f 57 87 = some (.goto (-68), 3, 19, 0, 0, []) := by decide +kernel
theorem f57_90 : pm_f 57 90 = some (.return_, 1, 0, 0, 0, []) := by decide +kernel
theorem f58_0 : pm_f 58 0 = some (.aload_n 0, 1, 0, 0, 0, []) := by decide +kernel
theorem f58_1 : pm_f 58 1 = some (.getfield 22, 3, 5, 3, 2, []) := by decide +kernel
theorem f58_4 : pm_f 58 4 = some (.iload_n 1, 1, 1, 0, 0, []) := by decide +kernel
theorem f58_5 : pm_f 58 5 = some (.iaload, 1, 0, 0, 0, []) := by decide +kernel
theorem f58_6 : pm_f 58 6 = some (.aload_n 0, 1, 0, 0, 0, []) := by decide +kernel
theorem f58_7 : pm_f 58 7 = some (.getfield 22, 3, 5, 3, 2, []) := by decide +kernel
theorem f58_10 : pm_f 58 10 = some (.iload_n 2, 1, 2, 0, 0, []) := by decide +kernel
theorem f58_11 : pm_f 58 11 = some (.iaload, 1, 0, 0, 0, []) := by decide +kernel
theorem f58_12 : pm_f 58 12 = some (.isub, 1, 0, 0, 0, []) := by decide +kernel
theorem f58_13 : pm_f 58 13 = some (.invokestatic 96, 3, 0, 0, 3, []) := by decide +kernel
theorem f58_16 : pm_f 58 16 = some (.istore_n 3, 1, 3, 0, 0, []) := by decide +kernel
theorem f58_17 : pm_f 58 17 = some (.iload_n 3, 1, 3, 0, 0, []) := by decide +kernel
theorem f58_18 : pm_f 58 18 = some (.bipush 20, 2, 0, 0, 20, []) := by decide +kernel
theorem f58_20 : pm_f 58 20 = some (.iload_n 3, 1, 3, 0, 0, []) := by decide +kernel
theorem f58_21 : pm_f 58 21 = some (.isub, 1, 0, 0, 0, []) := by decide +kernel
theorem f58_22 : pm_f 58 22 = some (.invokestatic 99, 3, 0, 0, 2, []) := by decide +kernel
theorem f58_25 : pm_f 58 25 = some (.ireturn, 1, 0, 0, 0, []) := by decide +kernel
theorem f59_0 : pm_f 59 0 = some (.aload_n 0, 1, 0, 0, 0, []) := by decide +kernel
theorem f59_1 : pm_f 59 1 = some (.getfield 46, 3, 5, 12, 2, []) := by decide +kernel
theorem f59_4 : pm_f 59 4 = some (.iload_n 1, 1, 1, 0, 0, []) := by decide +kernel
theorem f59_5 : pm_f 59 5 = some (.iaload, 1, 0, 0, 0, []) := by decide +kernel
theorem f59_6 : pm_f 59 6 = some (.istore_n 2, 1, 2, 0, 0, []) := by decide +kernel
theorem f59_7 : pm_f 59 7 = some (.iload_n 2, 1, 2, 0, 0, []) := by decide +kernel
theorem f59_8 : pm_f 59 8 = some (.ifCond .lt 20, 3, 28, 0, 0, []) := by decide +kernel
theorem f59_11 : pm_f 59 11 = some (.iload_n 2, 1, 2, 0, 0, []) := by decide +kernel
theorem f59_12 : pm_f 59 12 = some (.aload_n 0, 1, 0, 0, 0, []) := by decide +kernel
theorem f59_13 : pm_f 59 13 = some (.getfield 9, 3, 5, 0, 0, []) := by decide +kernel
theorem f59_16 : pm_f 59 16 = some (.if_icmp .ge 12, 3, 28, 0, 0, []) := by decide +kernel
theorem f59_19 : pm_f 59 19 = some (.aload_n 0, 1, 0, 0, 0, []) := by decide +kernel
theorem f59_20 : pm_f 59 20 = some (.getfield 28, 3, 5, 5, 2, []) := by decide +kernel
theorem f59_23 : pm_f 59 23 = some (.iload_n 2, 1, 2, 0, 0, []) := by decide +kernel
theorem f59_24 : pm_f 59 24 = some (.iaload, 1, 0, 0, 0, []) := by decide +kernel
theorem f59_25 : pm_f 59 25 = some (.goto 9, 3, 34, 0, 0, []) := by decide +kernel
theorem f59_28 : pm_f 59 28 = some (.aload_n 0, 1, 0, 0, 0, []) := by decide +kernel
theorem f59_29 : pm_f 59 29 = some (.getfield 28, 3, 5, 5, 2, []) := by decide +kernel
theorem f59_32 : pm_f 59 32 = some (.iload_n 1, 1, 1, 0, 0, []) := by decide +kernel
theorem f59_33 : pm_f 59 33 = some (.iaload, 1, 0, 0, 0, []) := by decide +kernel
theorem f59_34 : pm_f 59 34 = some (.istore_n 3, 1, 3, 0, 0, []) := by decide +kernel
theorem f59_35 : pm_f 59 35 = some (.aload_n 0, 1, 0, 0, 0, []) := by decide +kernel
theorem f59_36 : pm_f 59 36 = some (.getfield 15, 3, 5, 1, 2, []) := by decide +kernel
theorem f59_39 : pm_f 59 39 = some (.iload_n 1, 1, 1, 0, 0, []) := by decide +kernel
theorem f59_40 : pm_f 59 40 = some (.iaload, 1, 0, 0, 0, []) := by decide +kernel
theorem f59_41 : pm_f 59 41 = some (.tableswitch 109 1 6 #[39, 46, 55, 39, 46, 74], 39, 150, 0, 0, [(1, 80), (2, 87), (3, 96), (4, 80), (5, 87), (6, 115)]) := by decide +kernel
theorem f59_80 : pm_f 59 80 = some (.aload_n 0, 1, 0, 0, 0, []) := by decide +kernel
theorem f59_81 : pm_f 59 81 = some (.getfield 28, 3, 5, 5, 2, []) := by decide +kernel
theorem f59_84 : pm_f 59 84 = some (.iload_n 1, 1, 1, 0, 0, []) := by decide +kernel
theorem f59_85 : pm_f 59 85 = some (.iaload, 1, 0, 0, 0, []) := by decide +kernel
theorem f59_86 : pm_f 59 86 = some (.ireturn, 1, 0, 0, 0, []) := by decide +kernel
theorem f59_87 : pm_f 59 87 = some (.iload_n 3, 1, 3, 0, 0, []) := by decide +kernel
theorem f59_88 : pm_f 59 88 = some (.aload_n 0, 1, 0, 0, 0, []) := by decide +kernel
theorem f59_89 : pm_f 59 89 = some (.getfield 19, 3, 5, 2, 2, []) := by decide +kernel
theorem f59_92 : pm_f 59 92 = some (.iload_n 1, 1, 1, 0, 0, []) := by decide +kernel
theorem f59_93 : pm_f 59 93 = some (.iaload, 1, 0, 0, 0, []) := by decide +kernel
theorem f59_94 : pm_f 59 94 = some (.iadd, 1, 0, 0, 0, []) := by decide +kernel
theorem f59_95 : pm_f 59 95 = some (.ireturn, 1, 0, 0, 0, []) := by decide +kernel
theorem f59_96 : pm_f 59 96 = some (.aload_n 0, 1, 0, 0, 0, []) := by decide +kernel
theorem f59_97 : pm_f 59 97 = some (.iload_n 1, 1, 1, 0, 0, []) := by decide +kernel
theorem f59_98 : pm_f 59 98 = some (.invokevirtual 102, 3, 60, 1, 5, []) := by decide +kernel
theorem f59_101 : pm_f 59 101 = some (.ifCond .eq 12, 3, 113, 0, 0, []) := by decide +kernel
theorem f59_104 : pm_f 59 104 = some (.aload_n 0, 1, 0, 0, 0, []) := by decide +kernel
theorem f59_105 : pm_f 59 105 = some (.getfield 28, 3, 5, 5, 2, []) := by decide +kernel
theorem f59_108 : pm_f 59 108 = some (.iload_n 1, 1, 1, 0, 0, []) := by decide +kernel
theorem f59_109 : pm_f 59 109 = some (.iaload, 1, 0, 0, 0, []) := by decide +kernel
theorem f59_110 : pm_f 59 110 = some (.goto 4, 3, 114, 0, 0, []) := by decide +kernel
theorem f59_113 : pm_f 59 113 = some (.iload_n 3, 1, 3, 0, 0, []) := by decide +kernel
theorem f59_114 : pm_f 59 114 = some (.ireturn, 1, 0, 0, 0, []) := by decide +kernel
theorem f59_115 : pm_f 59 115 = some (.aload_n 0, 1, 0, 0, 0, []) := by decide +kernel
theorem f59_116 : pm_f 59 116 = some (.iload_n 1, 1, 1, 0, 0, []) := by decide +kernel
theorem f59_117 : pm_f 59 117 = some (.invokevirtual 102, 3, 60, 1, 5, []) := by decide +kernel
theorem f59_120 : pm_f 59 120 = some (.ifCond .eq 12, 3, 132, 0, 0, []) := by decide +kernel
theorem f59_123 : pm_f 59 123 = some (.aload_n 0, 1, 0, 0, 0, []) := by decide +kernel
theorem f59_124 : pm_f 59 124 = some (.getfield 28, 3, 5, 5, 2, []) := by decide +kernel
theorem f59_127 : pm_f 59 127 = some (.iload_n 1, 1, 1, 0, 0, []) := by decide +kernel
theorem f59_128 : pm_f 59 128 = some (.iaload, 1, 0, 0, 0, []) := by decide +kernel
theorem f59_129 : pm_f 59 129 = some (.goto 4, 3, 133, 0, 0, []) := by decide +kernel
theorem f59_132 : pm_f 59 132 = some (.iload_n 3, 1, 3, 0, 0, []) := by decide +kernel
theorem f59_133 : pm_f 59 133 = some (.aload_n 0, 1, 0, 0, 0, []) := by decide +kernel
theorem f59_134 : pm_f 59 134 = some (.getfield 31, 3, 5, 6, 2, []) := by decide +kernel
theorem f59_137 : pm_f 59 137 = some (.iload_n 1, 1, 1, 0, 0, []) := by decide +kernel
theorem f59_138 : pm_f 59 138 = some (.iconst 4, 1, 0, 0, 4, []) := by decide +kernel
theorem f59_139 : pm_f 59 139 = some (.imul, 1, 0, 0, 0, []) := by decide +kernel
theorem f59_140 : pm_f 59 140 = some (.aload_n 0, 1, 0, 0, 0, []) := by decide +kernel
theorem f59_141 : pm_f 59 141 = some (.getfield 37, 3, 5, 8, 0, []) := by decide +kernel
theorem f59_144 : pm_f 59 144 = some (.iconst 3, 1, 0, 0, 3, []) := by decide +kernel
theorem f59_145 : pm_f 59 145 = some (.iand, 1, 0, 0, 0, []) := by decide +kernel
theorem f59_146 : pm_f 59 146 = some (.iadd, 1, 0, 0, 0, []) := by decide +kernel
theorem f59_147 : pm_f 59 147 = some (.iaload, 1, 0, 0, 0, []) := by decide +kernel
theorem f59_148 : pm_f 59 148 = some (.iadd, 1, 0, 0, 0, []) := by decide +kernel
theorem f59_149 : pm_f 59 149 = some (.ireturn, 1, 0, 0, 0, []) := by decide +kernel
theorem f59_150 : pm_f 59 150 = some (.iload_n 3, 1, 3, 0, 0, []) := by decide +kernel
theorem f59_151 : pm_f 59 151 = some (.ireturn, 1, 0, 0, 0, []) := by decide +kernel
theorem f60_0 : pm_f 60 0 = some (.aload_n 0, 1, 0, 0, 0, []) := by decide +kernel
theorem f60_1 : pm_f 60 1 = some (.getfield 19, 3, 5, 2, 2, []) := by decide +kernel
theorem f60_4 : pm_f 60 4 = some (.iload_n 1, 1, 1, 0, 0, []) := by decide +kernel
theorem f60_5 : pm_f 60 5 = some (.iaload, 1, 0, 0, 0, []) := by decide +kernel
theorem f60_6 : pm_f 60 6 = some (.iconst 2, 1, 0, 0, 2, []) := by decide +kernel
theorem f60_7 : pm_f 60 7 = some (.iadd, 1, 0, 0, 0, []) := by decide +kernel
theorem f60_8 : pm_f 60 8 = some (.istore_n 2, 1, 2, 0, 0, []) := by decide +kernel
theorem f60_9 : pm_f 60 9 = some (.iload_n 2, 1, 2, 0, 0, []) := by decide +kernel
theorem f60_10 : pm_f 60 10 = some (.ifCond .le 16, 3, 26, 0, 0, []) := by decide +kernel
theorem f60_13 : pm_f 60 13 = some (.aload_n 0, 1, 0, 0, 0, []) := by decide +kernel
theorem f60_14 : pm_f 60 14 = some (.getfield 37, 3, 5, 8, 0, []) := by decide +kernel
theorem f60_17 : pm_f 60 17 = some (.iload_n 2, 1, 2, 0, 0, []) := by decide +kernel
theorem f60_18 : pm_f 60 18 = some (.irem, 1, 0, 0, 0, []) := by decide +kernel
theorem f60_19 : pm_f 60 19 = some (.ifCond .ne 7, 3, 26, 0, 0, []) := by decide +kernel
theorem f60_22 : pm_f 60 22 = some (.iconst 1, 1, 0, 0, 1, []) := by decide +kernel
theorem f60_23 : pm_f 60 23 = some (.goto 4, 3, 27, 0, 0, []) := by decide +kernel
theorem f60_26 : pm_f 60 26 = some (.iconst 0, 1, 0, 0, 0, []) := by decide +kernel
theorem f60_27 : pm_f 60 27 = some (.ireturn, 1, 0, 0, 1, []) := by decide +kernel
theorem f61_0 : pm_f 61 0 = some (.iconst 0, 1, 0, 0, 0, []) := by decide +kernel
theorem f61_1 : pm_f 61 1 = some (.istore_n 2, 1, 2, 0, 0, []) := by decide +kernel
theorem f61_2 : pm_f 61 2 = some (.iload_n 2, 1, 2, 0, 0, []) := by decide +kernel
theorem f61_3 : pm_f 61 3 = some (.iload_n 1, 1, 1, 0, 0, []) := by decide +kernel
theorem f61_4 : pm_f 61 4 = some (.if_icmp .ge 13, 3, 17, 0, 0, []) := by decide +kernel
theorem f61_7 : pm_f 61 7 = some (.aload_n 0, 1, 0, 0, 0, []) := by decide +kernel
theorem f61_8 : pm_f 61 8 = some (.invokevirtual 105, 3, 62, 0, 5, []) := by decide +kernel
theorem f61_11 : pm_f 61 11 = some (.iinc 2 1, 3, 2, 0, 1, []) := by decide +kernel
theorem f61_14 : pm_f 61 14 = some (.goto (-12), 3, 2, 0, 0, []) := by decide +kernel
theorem f61_17 : pm_f 61 17 = some (.return_, 1, 0, 0, 0, []) := by decide +kernel
theorem f62_0 : pm_f 62 0 = some (.aload_n 0, 1, 0, 0, 0, []) := by decide +kernel
theorem f62_1 : pm_f 62 1 = some (.invokevirtual 108, 3, 56, 0, 5, []) := by decide +kernel
theorem f62_4 : pm_f 62 4 = some (.aload_n 0, 1, 0, 0, 0, []) := by decide +kernel
theorem f62_5 : pm_f 62 5 = some (.invokevirtual 111, 3, 63, 0, 5, []) := by decide +kernel
theorem f62_8 : pm_f 62 8 = some (.iconst 0, 1, 0, 0, 0, []) := by decide +kernel
theorem f62_9 : pm_f 62 9 = some (.istore_n 1, 1, 1, 0, 0, []) := by decide +kernel
theorem f62_10 : pm_f 62 10 = some (.iload_n 1, 1, 1, 0, 0, []) := by decide +kernel
theorem f62_11 : pm_f 62 11 = some (.aload_n 0, 1, 0, 0, 0, []) := by decide +kernel
theorem f62_12 : pm_f 62 12 = some (.getfield 9, 3, 5, 0, 0, []) := by decide +kernel
theorem f62_15 : pm_f 62 15 = some (.if_icmp .ge 121, 3, 136, 0, 0, []) := by decide +kernel
theorem f62_18 : pm_f 62 18 = some (.aload_n 0, 1, 0, 0, 0, []) := by decide +kernel
theorem f62_19 : pm_f 62 19 = some (.iload_n 1, 1, 1, 0, 0, []) := by decide +kernel
theorem f62_20 : pm_f 62 20 = some (.invokevirtual 72, 3, 52, 1, 5, []) := by decide +kernel
theorem f62_23 : pm_f 62 23 = some (.ifCond .ne 54, 3, 77, 0, 0, []) := by decide +kernel
theorem f62_26 : pm_f 62 26 = some (.aload_n 0, 1, 0, 0, 0, []) := by decide +kernel
theorem f62_27 : pm_f 62 27 = some (.getfield 49, 3, 5, 13, 2, []) := by decide +kernel
theorem f62_30 : pm_f 62 30 = some (.iload_n 1, 1, 1, 0, 0, []) := by decide +kernel
theorem f62_31 : pm_f 62 31 = some (.iaload, 1, 0, 0, 0, []) := by decide +kernel
theorem f62_32 : pm_f 62 32 = some (.aload_n 0, 1, 0, 0, 0, []) := by decide +kernel
theorem f62_33 : pm_f 62 33 = some (.getfield 43, 3, 5, 11, 2, []) := by decide +kernel
theorem f62_36 : pm_f 62 36 = some (.iload_n 1, 1, 1, 0, 0, []) := by decide +kernel
theorem f62_37 : pm_f 62 37 = some (.iaload, 1, 0, 0, 0, []) := by decide +kernel
theorem f62_38 : pm_f 62 38 = some (.if_icmp .le 7, 3, 45, 0, 0, []) := by decide +kernel
theorem f62_41 : pm_f 62 41 = some (.iconst 3, 1, 0, 0, 3, []) := by decide +kernel
theorem f62_42 : pm_f 62 42 = some (.goto 4, 3, 46, 0, 0, []) := by decide +kernel
theorem f62_45 : pm_f 62 45 = some (.iconst 0, 1, 0, 0, 0, []) := by decide +kernel
theorem f62_46 : pm_f 62 46 = some (.istore_n 2, 1, 2, 0, 0, []) := by decide +kernel
theorem f62_47 : pm_f 62 47 = some (.aload_n 0, 1, 0, 0, 0, []) := by decide +kernel
theorem f62_48 : pm_f 62 48 = some (.getfield 25, 3, 5, 4, 2, []) := by decide +kernel
theorem f62_51 : pm_f 62 51 = some (.iload_n 1, 1, 1, 0, 0, []) := by decide +kernel
theorem f62_52 : pm_f 62 52 = some (.aload_n 0, 1, 0, 0, 0, []) := by decide +kernel
theorem f62_53 : pm_f 62 53 = some (.getfield 25, 3, 5, 4, 2, []) := by decide +kernel
theorem f62_56 : pm_f 62 56 = some (.iload_n 1, 1, 1, 0, 0, []) := by decide +kernel
theorem f62_57 : pm_f 62 57 = some (.iaload, 1, 0, 0, 0, []) := by decide +kernel
theorem f62_58 : pm_f 62 58 = some (.aload_n 0, 1, 0, 0, 0, []) := by decide +kernel
theorem f62_59 : pm_f 62 59 = some (.getfield 58, 3, 5, 10, 2, []) := by decide +kernel
theorem f62_62 : pm_f 62 62 = some (.aload_n 0, 1, 0, 0, 0, []) := by decide +kernel
theorem f62_63 : pm_f 62 63 = some (.iload_n 1, 1, 1, 0, 0, []) := by decide +kernel
theorem f62_64 : pm_f 62 64 = some (.invokevirtual 114, 3, 26, 2, 2, []) := by decide +kernel
theorem f62_67 : pm_f 62 67 = some (.iadd, 1, 0, 0, 0, []) := by decide +kernel
theorem f62_68 : pm_f 62 68 = some (.iload_n 2, 1, 2, 0, 0, []) := by decide +kernel
theorem f62_69 : pm_f 62 69 = some (.iadd, 1, 0, 0, 0, []) := by decide +kernel
theorem f62_70 : pm_f 62 70 = some (.iconst 0, 1, 0, 0, 0, []) := by decide +kernel
theorem f62_71 : pm_f 62 71 = some (.bipush 99, 2, 0, 0, 99, []) := by decide +kernel
theorem f62_73 : pm_f 62 73 = some (.invokestatic 120, 3, 117, 3, 0, []) := by decide +kernel
theorem f62_76 : pm_f 62 76 = some (.iastore, 1, 0, 0, 0, []) := by decide +kernel
theorem f62_77 : pm_f 62 77 = some (.aload_n 0, 1, 0, 0, 0, []) := by decide +kernel
theorem f62_78 : pm_f 62 78 = some (.getfield 52, 3, 5, 14, 2, []) := by decide +kernel
theorem f62_81 : pm_f 62 81 = some (.iload_n 1, 1, 1, 0, 0, []) := by decide +kernel
theorem f62_82 : pm_f 62 82 = some (.iaload, 1, 0, 0, 0, []) := by decide +kernel
theorem f62_83 : pm_f 62 83 = some (.aload_n 0, 1, 0, 0, 0, []) := by decide +kernel
theorem f62_84 : pm_f 62 84 = some (.getfield 28, 3, 5, 5, 2, []) := by decide +kernel
theorem f62_87 : pm_f 62 87 = some (.iload_n 1, 1, 1, 0, 0, []) := by decide +kernel
theorem f62_88 : pm_f 62 88 = some (.iaload, 1, 0, 0, 0, []) := by decide +kernel
theorem f62_89 : pm_f 62 89 = some (.isub, 1, 0, 0, 0, []) := by decide +kernel
theorem f62_90 : pm_f 62 90 = some (.aload_n 0, 1, 0, 0, 0, []) := by decide +kernel
theorem f62_91 : pm_f 62 91 = some (.getfield 58, 3, 5, 10, 2, []) := by decide +kernel
theorem f62_94 : pm_f 62 94 = some (.getfield 124, 3, 2, 0, 0, []) := by decide +kernel
theorem f62_97 : pm_f 62 97 = some (.ineg, 1, 0, 0, 0, []) := by decide +kernel
theorem f62_98 : pm_f 62 98 = some (.aload_n 0, 1, 0, 0, 0, []) := by decide +kernel
theorem f62_99 : pm_f 62 99 = some (.getfield 58, 3, 5, 10, 2, []) := by decide +kernel
theorem f62_102 : pm_f 62 102 = some (.getfield 124, 3, 2, 0, 0, []) := by decide +kernel
theorem f62_105 : pm_f 62 105 = some (.invokestatic 120, 3, 117, 3, 0, []) := by decide +kernel
theorem f62_108 : pm_f 62 108 = some (.istore_n 2, 1, 2, 0, 0, []) := by decide +kernel
theorem f62_109 : pm_f 62 109 = some (.aload_n 0, 1, 0, 0, 0, []) := by decide +kernel
theorem f62_110 : pm_f 62 110 = some (.getfield 28, 3, 5, 5, 2, []) := by decide +kernel
theorem f62_113 : pm_f 62 113 = some (.iload_n 1, 1, 1, 0, 0, []) := by decide +kernel
theorem f62_114 : pm_f 62 114 = some (.aload_n 0, 1, 0, 0, 0, []) := by decide +kernel
theorem f62_115 : pm_f 62 115 = some (.getfield 28, 3, 5, 5, 2, []) := by decide +kernel
theorem f62_118 : pm_f 62 118 = some (.iload_n 1, 1, 1, 0, 0, []) := by decide +kernel
theorem f62_119 : pm_f 62 119 = some (.iaload, 1, 0, 0, 0, []) := by decide +kernel
theorem f62_120 : pm_f 62 120 = some (.iload_n 2, 1, 2, 0, 0, []) := by decide +kernel
theorem f62_121 : pm_f 62 121 = some (.iadd, 1, 0, 0, 0, []) := by decide +kernel
theorem f62_122 : pm_f 62 122 = some (.iconst 1, 1, 0, 0, 1, []) := by decide +kernel
theorem f62_123 : pm_f 62 123 = some (.sipush 200, 3, 0, 0, 200, []) := by decide +kernel
theorem f62_126 : pm_f 62 126 = some (.invokestatic 120, 3, 117, 3, 0, []) := by decide +kernel
theorem f62_129 : pm_f 62 129 = some (.iastore, 1, 0, 0, 0, []) := by decide +kernel
theorem f62_130 : pm_f 62 130 = some (.iinc 1 1, 3, 1, 0, 1, []) := by decide +kernel
theorem f62_133 : pm_f 62 133 = some (.goto (-123), 3, 10, 0, 0, []) := by decide +kernel
theorem f62_136 : pm_f 62 136 = some (.aload_n 0, 1, 0, 0, 0, []) := by decide +kernel
theorem f62_137 : pm_f 62 137 = some (.dup, 1, 0, 0, 0, []) := by decide +kernel
theorem f62_138 : pm_f 62 138 = some (.getfield 37, 3, 5, 8, 0, []) := by decide +kernel
theorem f62_141 : pm_f 62 141 = some (.iconst 1, 1, 0, 0, 1, []) := by decide +kernel
theorem f62_142 : pm_f 62 142 = some (.iadd, 1, 0, 0, 0, []) := by decide +kernel
theorem f62_143 : pm_f 62 143 = some (.putfield 37, 3, 5, 8, 0, []) := by decide +kernel
theorem f62_146 : pm_f 62 146 = some (.return_, 1, 0, 0, 0, []) := by decide +kernel
theorem f63_0 : pm_f 63 0 = some (.aload_n 0, 1, 0, 0, 0, []) := by decide +kernel
theorem f63_1 : pm_f 63 1 = some (.invokevirtual 127, 3, 55, 0, 5, []) := by decide +kernel
theorem f63_4 : pm_f 63 4 = some (.istore_n 1, 1, 1, 0, 0, []) := by decide +kernel
theorem f63_5 : pm_f 63 5 = some (.iconst 1, 1, 0, 0, 1, []) := by decide +kernel
theorem f63_6 : pm_f 63 6 = some (.aload_n 0, 1, 0, 0, 0, []) := by decide +kernel
theorem f63_7 : pm_f 63 7 = some (.getfield 58, 3, 5, 10, 2, []) := by decide +kernel
theorem f63_10 : pm_f 63 10 = some (.getfield 131, 3, 2, 2, 0, []) := by decide +kernel
theorem f63_13 : pm_f 63 13 = some (.invokestatic 76, 3, 0, 0, 1, []) := by decide +kernel
theorem f63_16 : pm_f 63 16 = some (.istore_n 2, 1, 2, 0, 0, []) := by decide +kernel
theorem f63_17 : pm_f 63 17 = some (.iload_n 1, 1, 1, 0, 0, []) := by decide +kernel
theorem f63_18 : pm_f 63 18 = some (.aload_n 0, 1, 0, 0, 0, []) := by decide +kernel
theorem f63_19 : pm_f 63 19 = some (.getfield 58, 3, 5, 10, 2, []) := by decide +kernel
theorem f63_22 : pm_f 63 22 = some (.getfield 134, 3, 2, 1, 0, []) := by decide +kernel
theorem f63_25 : pm_f 63 25 = some (.if_icmp .ge 9, 3, 34, 0, 0, []) := by decide +kernel
theorem f63_28 : pm_f 63 28 = some (.iload_n 1, 1, 1, 0, 0, []) := by decide +kernel
theorem f63_29 : pm_f 63 29 = some (.iload_n 2, 1, 2, 0, 0, []) := by decide +kernel
theorem f63_30 : pm_f 63 30 = some (.idiv, 1, 0, 0, 0, []) := by decide +kernel
theorem f63_31 : pm_f 63 31 = some (.goto 5, 3, 36, 0, 0, []) := by decide +kernel
theorem f63_34 : pm_f 63 34 = some (.bipush (-10), 2, 0, 0, (-10), []) := by decide +kernel
theorem f63_36 : pm_f 63 36 = some (.istore_n 3, 1, 3, 0, 0, []) := by decide +kernel
theorem f63_37 : pm_f 63 37 = some (.aload_n 0, 1, 0, 0, 0, []) := by decide +kernel
theorem f63_38 : pm_f 63 38 = some (.aload_n 0, 1, 0, 0, 0, []) := by decide +kernel
theorem f63_39 : pm_f 63 39 = some (.getfield 40, 3, 5, 9, 0, []) := by decide +kernel
theorem f63_42 : pm_f 63 42 = some (.iload_n 3, 1, 3, 0, 0, []) := by decide +kernel
theorem f63_43 : pm_f 63 43 = some (.iadd, 1, 0, 0, 0, []) := by decide +kernel
theorem f63_44 : pm_f 63 44 = some (.iconst 0, 1, 0, 0, 0, []) := by decide +kernel
theorem f63_45 : pm_f 63 45 = some (.ldc 137, 2, 0, 0, 99999, []) := by decide +kernel
theorem f63_47 : pm_f 63 47 = some (.invokestatic 120, 3, 117, 3, 0, []) := by decide +kernel
theorem f63_50 : pm_f 63 50 = some (.putfield 40, 3, 5, 9, 0, []) := by decide +kernel
theorem f63_53 : pm_f 63 53 = some (.return_, 1, 0, 0, 0, []) := by decide +kernel
theorem f64_0 : pm_f 64 0 = some (.aload_n 0, 1, 0, 0, 0, []) := by decide +kernel
theorem f64_1 : pm_f 64 1 = some (.invokevirtual 127, 3, 55, 0, 5, []) := by decide +kernel
theorem f64_4 : pm_f 64 4 = some (.aload_n 0, 1, 0, 0, 0, []) := by decide +kernel
theorem f64_5 : pm_f 64 5 = some (.getfield 58, 3, 5, 10, 2, []) := by decide +kernel
theorem f64_8 : pm_f 64 8 = some (.getfield 134, 3, 2, 1, 0, []) := by decide +kernel
theorem f64_11 : pm_f 64 11 = some (.if_icmp .lt 7, 3, 18, 0, 0, []) := by decide +kernel
theorem f64_14 : pm_f 64 14 = some (.iconst 1, 1, 0, 0, 1, []) := by decide +kernel
theorem f64_15 : pm_f 64 15 = some (.goto 4, 3, 19, 0, 0, []) := by decide +kernel
theorem f64_18 : pm_f 64 18 = some (.iconst 0, 1, 0, 0, 0, []) := by decide +kernel
theorem f64_19 : pm_f 64 19 = some (.ireturn, 1, 0, 0, 1, []) := by decide +kernel
theorem f65_0 : pm_f 65 0 = some (.iconst 0, 1, 0, 0, 0, []) := by decide +kernel
theorem f65_1 : pm_f 65 1 = some (.istore_n 1, 1, 1, 0, 0, []) := by decide +kernel
theorem f65_2 : pm_f 65 2 = some (.iconst 0, 1, 0, 0, 0, []) := by decide +kernel
theorem f65_3 : pm_f 65 3 = some (.istore_n 2, 1, 2, 0, 0, []) := by decide +kernel
theorem f65_4 : pm_f 65 4 = some (.iload_n 2, 1, 2, 0, 0, []) := by decide +kernel
theorem f65_5 : pm_f 65 5 = some (.aload_n 0, 1, 0, 0, 0, []) := by decide +kernel
theorem f65_6 : pm_f 65 6 = some (.getfield 9, 3, 5, 0, 0, []) := by decide +kernel
theorem f65_9 : pm_f 65 9 = some (.if_icmp .ge 43, 3, 52, 0, 0, []) := by decide +kernel
theorem f65_12 : pm_f 65 12 = some (.aload_n 0, 1, 0, 0, 0, []) := by decide +kernel
theorem f65_13 : pm_f 65 13 = some (.iload_n 2, 1, 2, 0, 0, []) := by decide +kernel
theorem f65_14 : pm_f 65 14 = some (.invokevirtual 72, 3, 52, 1, 5, []) := by decide +kernel
theorem f65_17 : pm_f 65 17 = some (.ifCond .eq 6, 3, 23, 0, 0, []) := by decide +kernel
theorem f65_20 : pm_f 65 20 = some (.goto 26, 3, 46, 0, 0, []) := by decide +kernel
theorem f65_23 : pm_f 65 23 = some (.iload_n 1, 1, 1, 0, 0, []) := by decide +kernel
theorem f65_24 : pm_f 65 24 = some (.ifCond .eq 15, 3, 39, 0, 0, []) := by decide +kernel
theorem f65_27 : pm_f 65 27 = some (.aload_n 0, 1, 0, 0, 0, []) := by decide +kernel
theorem f65_28 : pm_f 65 28 = some (.getfield 28, 3, 5, 5, 2, []) := by decide +kernel
theorem f65_31 : pm_f 65 31 = some (.iload_n 2, 1, 2, 0, 0, []) := by decide +kernel
theorem f65_32 : pm_f 65 32 = some (.iaload, 1, 0, 0, 0, []) := by decide +kernel
theorem f65_33 : pm_f 65 33 = some (.iload_n 1, 1, 1, 0, 0, []) := by decide +kernel
theorem f65_34 : pm_f 65 34 = some (.if_icmp .eq 5, 3, 39, 0, 0, []) := by decide +kernel
theorem f65_37 : pm_f 65 37 = some (.iconst 0, 1, 0, 0, 0, []) := by decide +kernel
theorem f65_38 : pm_f 65 38 = some (.ireturn, 1, 0, 0, 1, []) := by decide +kernel
theorem f65_39 : pm_f 65 39 = some (.aload_n 0, 1, 0, 0, 0, []) := by decide +kernel
theorem f65_40 : pm_f 65 40 = some (.getfield 28, 3, 5, 5, 2, []) := by decide +kernel
theorem f65_43 : pm_f 65 43 = some (.iload_n 2, 1, 2, 0, 0, []) := by decide +kernel
theorem f65_44 : pm_f 65 44 = some (.iaload, 1, 0, 0, 0, []) := by decide +kernel
theorem f65_45 : pm_f 65 45 = some (.istore_n 1, 1, 1, 0, 0, []) := by decide +kernel
theorem f65_46 : pm_f 65 46 = some (.iinc 2 1, 3, 2, 0, 1, []) := by decide +kernel
theorem f65_49 : pm_f 65 49 = some (.goto (-45), 3, 4, 0, 0, []) := by decide +kernel
theorem f65_52 : pm_f 65 52 = some (.iconst 1, 1, 0, 0, 1, []) := by decide +kernel
theorem f65_53 : pm_f 65 53 = some (.ireturn, 1, 0, 0, 1, []) := by decide +kernel
theorem f66_0 : pm_f 66 0 = some (.aload_n 0, 1, 0, 0, 0, []) := by decide +kernel
theorem f66_1 : pm_f 66 1 = some (.invokevirtual 108, 3, 56, 0, 5, []) := by decide +kernel
theorem f66_4 : pm_f 66 4 = some (.iconst 0, 1, 0, 0, 0, []) := by decide +kernel
theorem f66_5 : pm_f 66 5 = some (.istore_n 1, 1, 1, 0, 0, []) := by decide +kernel
theorem f66_6 : pm_f 66 6 = some (.iload_n 1, 1, 1, 0, 0, []) := by decide +kernel
theorem f66_7 : pm_f 66 7 = some (.aload_n 0, 1, 0, 0, 0, []) := by decide +kernel
theorem f66_8 : pm_f 66 8 = some (.getfield 9, 3, 5, 0, 0, []) := by decide +kernel
theorem f66_11 : pm_f 66 11 = some (.if_icmp .ge 16, 3, 27, 0, 0, []) := by decide +kernel
theorem f66_14 : pm_f 66 14 = some (.aload_n 0, 1, 0, 0, 0, []) := by decide +kernel
theorem f66_15 : pm_f 66 15 = some (.getfield 55, 3, 5, 15, 2, []) := by decide +kernel
theorem f66_18 : pm_f 66 18 = some (.iload_n 1, 1, 1, 0, 0, []) := by decide +kernel
theorem f66_19 : pm_f 66 19 = some (.iconst 0, 1, 0, 0, 0, []) := by decide +kernel
theorem f66_20 : pm_f 66 20 = some (.iastore, 1, 0, 0, 0, []) := by decide +kernel
theorem f66_21 : pm_f 66 21 = some (.iinc 1 1, 3, 1, 0, 1, []) := by decide +kernel
theorem f66_24 : pm_f 66 24 = some (.goto (-18), 3, 6, 0, 0, []) := by decide +kernel
theorem f66_27 : pm_f 66 27 = some (.iconst 0, 1, 0, 0, 0, []) := by decide +kernel
theorem f66_28 : pm_f 66 28 = some (.istore_n 1, 1, 1, 0, 0, []) := by decide +kernel
theorem f66_29 : pm_f 66 29 = some (.iload_n 1, 1, 1, 0, 0, []) := by decide +kernel
theorem f66_30 : pm_f 66 30 = some (.aload_n 0, 1, 0, 0, 0, []) := by decide +kernel
theorem f66_31 : pm_f 66 31 = some (.getfield 9, 3, 5, 0, 0, []) := by decide +kernel
theorem f66_34 : pm_f 66 34 = some (.if_icmp .ge 45, 3, 79, 0, 0, []) := by decide +kernel
theorem f66_37 : pm_f 66 37 = some (.aload_n 0, 1, 0, 0, 0, []) := by decide +kernel
theorem f66_38 : pm_f 66 38 = some (.iload_n 1, 1, 1, 0, 0, []) := by decide +kernel
theorem f66_39 : pm_f 66 39 = some (.invokevirtual 72, 3, 52, 1, 5, []) := by decide +kernel
theorem f66_42 : pm_f 66 42 = some (.ifCond .ne 31, 3, 73, 0, 0, []) := by decide +kernel
theorem f66_45 : pm_f 66 45 = some (.aload_n 0, 1, 0, 0, 0, []) := by decide +kernel
theorem f66_46 : pm_f 66 46 = some (.aload_n 0, 1, 0, 0, 0, []) := by decide +kernel
theorem f66_47 : pm_f 66 47 = some (.getfield 46, 3, 5, 12, 2, []) := by decide +kernel
theorem f66_50 : pm_f 66 50 = some (.iload_n 1, 1, 1, 0, 0, []) := by decide +kernel
theorem f66_51 : pm_f 66 51 = some (.iaload, 1, 0, 0, 0, []) := by decide +kernel
theorem f66_52 : pm_f 66 52 = some (.invokevirtual 138, 3, 50, 1, 5, []) := by decide +kernel
theorem f66_55 : pm_f 66 55 = some (.ifCond .eq 18, 3, 73, 0, 0, []) := by decide +kernel
theorem f66_58 : pm_f 66 58 = some (.aload_n 0, 1, 0, 0, 0, []) := by decide +kernel
theorem f66_59 : pm_f 66 59 = some (.getfield 55, 3, 5, 15, 2, []) := by decide +kernel
theorem f66_62 : pm_f 66 62 = some (.aload_n 0, 1, 0, 0, 0, []) := by decide +kernel
theorem f66_63 : pm_f 66 63 = some (.getfield 46, 3, 5, 12, 2, []) := by decide +kernel
theorem f66_66 : pm_f 66 66 = some (.iload_n 1, 1, 1, 0, 0, []) := by decide +kernel
theorem f66_67 : pm_f 66 67 = some (.iaload, 1, 0, 0, 0, []) := by decide +kernel
theorem f66_68 : pm_f 66 68 = some (.dup2, 1, 0, 0, 0, []) := by decide +kernel
theorem f66_69 : pm_f 66 69 = some (.iaload, 1, 0, 0, 0, []) := by decide +kernel
theorem f66_70 : pm_f 66 70 = some (.iconst 1, 1, 0, 0, 1, []) := by decide +kernel
theorem f66_71 : pm_f 66 71 = some (.iadd, 1, 0, 0, 0, []) := by decide +kernel
theorem f66_72 : pm_f 66 72 = some (.iastore, 1, 0, 0, 0, []) := by decide +kernel
theorem f66_73 : pm_f 66 73 = some (.iinc 1 1, 3, 1, 0, 1, []) := by decide +kernel
theorem f66_76 : pm_f 66 76 = some (.goto (-47), 3, 29, 0, 0, []) := by decide +kernel
theorem f66_79 : pm_f 66 79 = some (.iconst 0, 1, 0, 0, 0, []) := by decide +kernel
theorem f66_80 : pm_f 66 80 = some (.istore_n 1, 1, 1, 0, 0, []) := by decide +kernel
theorem f66_81 : pm_f 66 81 = some (.bipush (-5), 2, 0, 0, (-5), []) := by decide +kernel
theorem f66_83 : pm_f 66 83 = some (.istore_n 2, 1, 2, 0, 0, []) := by decide +kernel
theorem f66_84 : pm_f 66 84 = some (.iconst 0, 1, 0, 0, 0, []) := by decide +kernel
theorem f66_85 : pm_f 66 85 = some (.istore_n 3, 1, 3, 0, 0, []) := by decide +kernel
theorem f66_86 : pm_f 66 86 = some (.iload_n 3, 1, 3, 0, 0, []) := by decide +kernel
theorem f66_87 : pm_f 66 87 = some (.aload_n 0, 1, 0, 0, 0, []) := by decide +kernel
theorem f66_88 : pm_f 66 88 = some (.getfield 9, 3, 5, 0, 0, []) := by decide +kernel
theorem f66_91 : pm_f 66 91 = some (.if_icmp .ge 28, 3, 119, 0, 0, []) := by decide +kernel
theorem f66_94 : pm_f 66 94 = some (.aload_n 0, 1, 0, 0, 0, []) := by decide +kernel
theorem f66_95 : pm_f 66 95 = some (.getfield 55, 3, 5, 15, 2, []) := by decide +kernel
theorem f66_98 : pm_f 66 98 = some (.iload_n 3, 1, 3, 0, 0, []) := by decide +kernel
theorem f66_99 : pm_f 66 99 = some (.iaload, 1, 0, 0, 0, []) := by decide +kernel
theorem f66_100 : pm_f 66 100 = some (.iload_n 1, 1, 1, 0, 0, []) := by decide +kernel
theorem f66_101 : pm_f 66 101 = some (.if_icmp .le 12, 3, 113, 0, 0, []) := by decide +kernel
theorem f66_104 : pm_f 66 104 = some (.aload_n 0, 1, 0, 0, 0, []) := by decide +kernel
theorem f66_105 : pm_f 66 105 = some (.getfield 55, 3, 5, 15, 2, []) := by decide +kernel
theorem f66_108 : pm_f 66 108 = some (.iload_n 3, 1, 3, 0, 0, []) := by decide +kernel
theorem f66_109 : pm_f 66 109 = some (.iaload, 1, 0, 0, 0, []) := by decide +kernel
theorem f66_110 : pm_f 66 110 = some (.istore_n 1, 1, 1, 0, 0, []) := by decide +kernel
theorem f66_111 : pm_f 66 111 = some (.iload_n 3, 1, 3, 0, 0, []) := by decide +kernel
theorem f66_112 : pm_f 66 112 = some (.istore_n 2, 1, 2, 0, 0, []) := by decide +kernel
theorem f66_113 : pm_f 66 113 = some (.iinc 3 1, 3, 3, 0, 1, []) := by decide +kernel
theorem f66_116 : pm_f 66 116 = some (.goto (-30), 3, 86, 0, 0, []) := by decide +kernel
theorem f66_119 : pm_f 66 119 = some (.iload_n 2, 1, 2, 0, 0, []) := by decide +kernel
theorem f66_120 : pm_f 66 120 = some (.ireturn, 1, 0, 0, 0, []) := by decide +kernel
theorem f67_0 : pm_f 67 0 = some (.iconst 0, 1, 0, 0, 0, []) := by decide +kernel
theorem f67_1 : pm_f 67 1 = some (.istore_n 1, 1, 1, 0, 0, []) := by decide +kernel
theorem f67_2 : pm_f 67 2 = some (.iconst 0, 1, 0, 0, 0, []) := by decide +kernel
theorem f67_3 : pm_f 67 3 = some (.istore_n 2, 1, 2, 0, 0, []) := by decide +kernel
theorem f67_4 : pm_f 67 4 = some (.iload_n 2, 1, 2, 0, 0, []) := by decide +kernel
theorem f67_5 : pm_f 67 5 = some (.aload_n 0, 1, 0, 0, 0, []) := by decide +kernel
theorem f67_6 : pm_f 67 6 = some (.getfield 9, 3, 5, 0, 0, []) := by decide +kernel
theorem f67_9 : pm_f 67 9 = some (.if_icmp .ge 18, 3, 27, 0, 0, []) := by decide +kernel
theorem f67_12 : pm_f 67 12 = some (.iload_n 1, 1, 1, 0, 0, []) := by decide +kernel
theorem f67_13 : pm_f 67 13 = some (.aload_n 0, 1, 0, 0, 0, []) := by decide +kernel
theorem f67_14 : pm_f 67 14 = some (.getfield 28, 3, 5, 5, 2, []) := by decide +kernel
theorem f67_17 : pm_f 67 17 = some (.iload_n 2, 1, 2, 0, 0, []) := by decide +kernel
theorem f67_18 : pm_f 67 18 = some (.iaload, 1, 0, 0, 0, []) := by decide +kernel
theorem f67_19 : pm_f 67 19 = some (.iadd, 1, 0, 0, 0, []) := by decide +kernel
theorem f67_20 : pm_f 67 20 = some (.istore_n 1, 1, 1, 0, 0, []) := by decide +kernel
theorem f67_21 : pm_f 67 21 = some (.iinc 2 1, 3, 2, 0, 1, []) := by decide +kernel
theorem f67_24 : pm_f 67 24 = some (.goto (-20), 3, 4, 0, 0, []) := by decide +kernel
theorem f67_27 : pm_f 67 27 = some (.iload_n 1, 1, 1, 0, 0, []) := by decide +kernel
theorem f67_28 : pm_f 67 28 = some (.ireturn, 1, 0, 0, 0, []) := by decide +kernel
theorem f68_0 : pm_f 68 0 = some (.iload_n 1, 1, 1, 0, 0, []) := by decide +kernel
theorem f68_1 : pm_f 68 1 = some (.lookupswitch 87 #[(99, 77), (107, 53), (108, 67), (112, 51), (118, 60)], 51, 88, 0, 0, [(99, 78), (107, 54), (108, 68), (112, 52), (118, 61)]) := by decide +kernel
theorem f68_52 : pm_f 68 52 = some (.iload_n 2, 1, 2, 0, 0, []) := by decide +kernel
theorem f68_53 : pm_f 68 53 = some (.ireturn, 1, 0, 0, 0, []) := by decide +kernel
theorem f68_54 : pm_f 68 54 = some (.aload_n 0, 1, 0, 0, 0, []) := by decide +kernel
theorem f68_55 : pm_f 68 55 = some (.getfield 15, 3, 5, 1, 2, []) := by decide +kernel
theorem f68_58 : pm_f 68 58 = some (.iload_n 2, 1, 2, 0, 0, []) := by decide +kernel
theorem f68_59 : pm_f 68 59 = some (.iaload, 1, 0, 0, 0, []) := by decide +kernel
theorem f68_60 : pm_f 68 60 = some (.ireturn, 1, 0, 0, 0, []) := by decide +kernel
theorem f68_61 : pm_f 68 61 = some (.aload_n 0, 1, 0, 0, 0, []) := by decide +kernel
theorem f68_62 : pm_f 68 62 = some (.getfield 19, 3, 5, 2, 2, []) := by decide +kernel
theorem f68_65 : pm_f 68 65 = some (.iload_n 2, 1, 2, 0, 0, []) := by decide +kernel
theorem f68_66 : pm_f 68 66 = some (.iaload, 1, 0, 0, 0, []) := by decide +kernel
theorem f68_67 : pm_f 68 67 = some (.ireturn, 1, 0, 0, 0, []) := by decide +kernel
theorem f68_68 : pm_f 68 68 = some (.aload_n 0, 1, 0, 0, 0, []) := by decide +kernel
theorem f68_69 : pm_f 68 69 = some (.getfield 25, 3, 5, 4, 2, []) := by decide +kernel
theorem f68_72 : pm_f 68 72 = some (.iload_n 2, 1, 2, 0, 0, []) := by decide +kernel
theorem f68_73 : pm_f 68 73 = some (.iaload, 1, 0, 0, 0, []) := by decide +kernel
theorem f68_74 : pm_f 68 74 = some (.bipush 10, 2, 0, 0, 10, []) := by decide +kernel
theorem f68_76 : pm_f 68 76 = some (.idiv, 1, 0, 0, 0, []) := by decide +kernel
theorem f68_77 : pm_f 68 77 = some (.ireturn, 1, 0, 0, 0, []) := by decide +kernel
theorem f68_78 : pm_f 68 78 = some (.aload_n 0, 1, 0, 0, 0, []) := by decide +kernel
theorem f68_79 : pm_f 68 79 = some (.getfield 28, 3, 5, 5, 2, []) := by decide +kernel
theorem f68_82 : pm_f 68 82 = some (.iload_n 2, 1, 2, 0, 0, []) := by decide +kernel
theorem f68_83 : pm_f 68 83 = some (.iaload, 1, 0, 0, 0, []) := by decide +kernel
theorem f68_84 : pm_f 68 84 = some (.bipush 10, 2, 0, 0, 10, []) := by decide +kernel
theorem f68_86 : pm_f 68 86 = some (.idiv, 1, 0, 0, 0, []) := by decide +kernel
theorem f68_87 : pm_f 68 87 = some (.ireturn, 1, 0, 0, 0, []) := by decide +kernel
theorem f68_88 : pm_f 68 88 = some (.aload_n 0, 1, 0, 0, 0, []) := by decide +kernel
theorem f68_89 : pm_f 68 89 = some (.getfield 37, 3, 5, 8, 0, []) := by decide +kernel
theorem f68_92 : pm_f 68 92 = some (.bipush 10, 2, 0, 0, 10, []) := by decide +kernel
theorem f68_94 : pm_f 68 94 = some (.irem, 1, 0, 0, 0, []) := by decide +kernel
theorem f68_95 : pm_f 68 95 = some (.ireturn, 1, 0, 0, 0, []) := by decide +kernel
theorem f69_0 : pm_f 69 0 = some (.aload_n 0, 1, 0, 0, 0, []) := by decide +kernel
theorem f69_1 : pm_f 69 1 = some (.invokespecial 3, 3, 0, 0, (-1), []) := by decide +kernel
theorem f69_4 : pm_f 69 4 = some (.aload_n 0, 1, 0, 0, 0, []) := by decide +kernel
theorem f69_5 : pm_f 69 5 = some (.iconst (-1), 1, 0, 0, (-1), []) := by decide +kernel
theorem f69_6 : pm_f 69 6 = some (.putfield 11, 3, 6, 0, 0, []) := by decide +kernel
theorem f69_9 : pm_f 69 9 = some (.aload_n 0, 1, 0, 0, 0, []) := by decide +kernel
theorem f69_10 : pm_f 69 10 = some (.iconst 0, 1, 0, 0, 0, []) := by decide +kernel
theorem f69_11 : pm_f 69 11 = some (.putfield 15, 3, 6, 1, 0, []) := by decide +kernel
theorem f69_14 : pm_f 69 14 = some (.aload_n 0, 1, 0, 0, 0, []) := by decide +kernel
theorem f69_15 : pm_f 69 15 = some (.bipush 60, 2, 0, 0, 60, []) := by decide +kernel
theorem f69_17 : pm_f 69 17 = some (.newarray .long, 2, 3, 0, 0, []) := by decide +kernel
theorem f69_19 : pm_f 69 19 = some (.putfield 18, 3, 6, 2, 2, []) := by decide +kernel
theorem f69_22 : pm_f 69 22 = some (.return_, 1, 0, 0, 0, []) := by decide +kernel
theorem f70_0 : pm_f 70 0 = some (.aload_n 0, 1, 0, 0, 0, []) := by decide +kernel
theorem f70_1 : pm_f 70 1 = some (.getfield 11, 3, 6, 0, 0, []) := by decide +kernel
theorem f70_4 : pm_f 70 4 = some (.iconst (-1), 1, 0, 0, (-1), []) := by decide +kernel
theorem f70_5 : pm_f 70 5 = some (.if_icmp .eq 7, 3, 12, 0, 0, []) := by decide +kernel
theorem f70_8 : pm_f 70 8 = some (.iconst 1, 1, 0, 0, 1, []) := by decide +kernel
theorem f70_9 : pm_f 70 9 = some (.goto 4, 3, 13, 0, 0, []) := by decide +kernel
theorem f70_12 : pm_f 70 12 = some (.iconst 0, 1, 0, 0, 0, []) := by decide +kernel
theorem f70_13 : pm_f 70 13 = some (.ireturn, 1, 0, 0, 1, []) := by decide +kernel
theorem f71_0 : pm_f 71 0 = some (.aload_n 0, 1, 0, 0, 0, []) := by decide +kernel
theorem f71_1 : pm_f 71 1 = some (.iload_n 1, 1, 1, 0, 0, []) := by decide +kernel
theorem f71_2 : pm_f 71 2 = some (.putfield 11, 3, 6, 0, 0, []) := by decide +kernel
theorem f71_5 : pm_f 71 5 = some (.aload_n 0, 1, 0, 0, 0, []) := by decide +kernel
theorem f71_6 : pm_f 71 6 = some (.iload_n 2, 1, 2, 0, 0, []) := by decide +kernel
theorem f71_7 : pm_f 71 7 = some (.iconst 0, 1, 0, 0, 0, []) := by decide +kernel
theorem f71_8 : pm_f 71 8 = some (.bipush 60, 2, 0, 0, 60, []) := by decide +kernel
theorem f71_10 : pm_f 71 10 = some (.invokestatic 22, 3, 117, 3, 0, []) := by decide +kernel
theorem f71_13 : pm_f 71 13 = some (.putfield 15, 3, 6, 1, 0, []) := by decide +kernel
theorem f71_16 : pm_f 71 16 = some (.iconst 0, 1, 0, 0, 0, []) := by decide +kernel
theorem f71_17 : pm_f 71 17 = some (.istore_n 3, 1, 3, 0, 0, []) := by decide +kernel
theorem f71_18 : pm_f 71 18 = some (.iload_n 3, 1, 3, 0, 0, []) := by decide +kernel
theorem f71_19 : pm_f 71 19 = some (.aload_n 0, 1, 0, 0, 0, []) := by decide +kernel
theorem f71_20 : pm_f 71 20 = some (.getfield 15, 3, 6, 1, 0, []) := by decide +kernel
theorem f71_23 : pm_f 71 23 = some (.if_icmp .ge 16, 3, 39, 0, 0, []) := by decide +kernel
theorem f71_26 : pm_f 71 26 = some (.aload_n 0, 1, 0, 0, 0, []) := by decide +kernel
theorem f71_27 : pm_f 71 27 = some (.getfield 18, 3, 6, 2, 2, []) := by decide +kernel
theorem f71_30 : pm_f 71 30 = some (.iload_n 3, 1, 3, 0, 0, []) := by decide +kernel
theorem f71_31 : pm_f 71 31 = some (.lconst 0, 1, 0, 0, 0, []) := by decide +kernel
theorem f71_32 : pm_f 71 32 = some (.lastore, 1, 0, 0, 0, []) := by decide +kernel
theorem f71_33 : pm_f 71 33 = some (.iinc 3 1, 3, 3, 0, 1, []) := by decide +kernel
theorem f71_36 : pm_f 71 36 = some (.goto (-18), 3, 18, 0, 0, []) := by decide +kernel
theorem f71_39 : pm_f 71 39 = some (.iconst 1, 1, 0, 0, 1, []) := by decide +kernel
theorem f71_40 : pm_f 71 40 = some (.ireturn, 1, 0, 0, 0, []) := by decide +kernel
theorem f72_0 : pm_f 72 0 = some (.aload_n 0, 1, 0, 0, 0, []) := by decide +kernel
theorem f72_1 : pm_f 72 1 = some (.getfield 11, 3, 6, 0, 0, []) := by decide +kernel
theorem f72_4 : pm_f 72 4 = some (.tableswitch 48 0 3 #[32, 37, 42, 46], 32, 52, 0, 0, [(0, 36), (1, 41), (2, 46), (3, 50)]) := by decide +kernel
theorem f72_36 : pm_f 72 36 = some (.lload_n 1, 1, 1, 0, 0, []) := by decide +kernel
theorem f72_37 : pm_f 72 37 = some (.l2i, 1, 0, 0, 0, []) := by decide +kernel
theorem f72_38 : pm_f 72 38 = some (.i2b, 1, 0, 0, 0, []) := by decide +kernel
theorem f72_39 : pm_f 72 39 = some (.i2l, 1, 0, 0, 0, []) := by decide +kernel
theorem f72_40 : pm_f 72 40 = some (.lreturn, 1, 0, 0, 0, []) := by decide +kernel
theorem f72_41 : pm_f 72 41 = some (.lload_n 1, 1, 1, 0, 0, []) := by decide +kernel
theorem f72_42 : pm_f 72 42 = some (.l2i, 1, 0, 0, 0, []) := by decide +kernel
theorem f72_43 : pm_f 72 43 = some (.i2s, 1, 0, 0, 0, []) := by decide +kernel
theorem f72_44 : pm_f 72 44 = some (.i2l, 1, 0, 0, 0, []) := by decide +kernel
theorem f72_45 : pm_f 72 45 = some (.lreturn, 1, 0, 0, 0, []) := by decide +kernel
theorem f72_46 : pm_f 72 46 = some (.lload_n 1, 1, 1, 0, 0, []) := by decide +kernel
theorem f72_47 : pm_f 72 47 = some (.l2i, 1, 0, 0, 0, []) := by decide +kernel
theorem f72_48 : pm_f 72 48 = some (.i2l, 1, 0, 0, 0, []) := by decide +kernel
theorem f72_49 : pm_f 72 49 = some (.lreturn, 1, 0, 0, 0, []) := by decide +kernel
theorem f72_50 : pm_f 72 50 = some (.lload_n 1, 1, 1, 0, 0, []) := by decide +kernel
theorem f72_51 : pm_f 72 51 = some (.lreturn, 1, 0, 0, 0, []) := by decide +kernel
theorem f72_52 : pm_f 72 52 = some (.lload_n 1, 1, 1, 0, 0, []) := by decide +kernel
theorem f72_53 : pm_f 72 53 = some (.lconst 0, 1, 0, 0, 0, []) := by decide +kernel
theorem f72_54 : pm_f 72 54 = some (.lcmp, 1, 0, 0, 0, []) := by decide +kernel
theorem f72_55 : pm_f 72 55 = some (.ifCond .eq 7, 3, 62, 0, 0, []) := by decide +kernel
theorem f72_58 : pm_f 72 58 = some (.lconst 1, 1, 0, 0, 1, []) := by decide +kernel
theorem f72_59 : pm_f 72 59 = some (.goto 4, 3, 63, 0, 0, []) := by decide +kernel
theorem f72_62 : pm_f 72 62 = some (.lconst 0, 1, 0, 0, 0, []) := by decide +kernel
theorem f72_63 : pm_f 72 63 = some (.lreturn, 1, 0, 0, 0, []) := by decide +kernel
theorem f73_0 : pm_f 73 0 = some (.iload_n 2, 1, 2, 0, 0, []) := by decide +kernel
theorem f73_1 : pm_f 73 1 = some (.ifCond .lt 29, 3, 30, 0, 0, []) := by decide +kernel
theorem f73_4 : pm_f 73 4 = some (.iload_n 1, 1, 1, 0, 0, []) := by decide +kernel
theorem f73_5 : pm_f 73 5 = some (.ifCond .lt 25, 3, 30, 0, 0, []) := by decide +kernel
theorem f73_8 : pm_f 73 8 = some (.iload_n 1, 1, 1, 0, 0, []) := by decide +kernel
theorem f73_9 : pm_f 73 9 = some (.aload_n 0, 1, 0, 0, 0, []) := by decide +kernel
theorem f73_10 : pm_f 73 10 = some (.getfield 15, 3, 6, 1, 0, []) := by decide +kernel
theorem f73_13 : pm_f 73 13 = some (.if_icmp .gt 17, 3, 30, 0, 0, []) := by decide +kernel
theorem f73_16 : pm_f 73 16 = some (.iload_n 2, 1, 2, 0, 0, []) := by decide +kernel
theorem f73_17 : pm_f 73 17 = some (.aload_n 0, 1, 0, 0, 0, []) := by decide +kernel
theorem f73_18 : pm_f 73 18 = some (.getfield 15, 3, 6, 1, 0, []) := by decide +kernel
theorem f73_21 : pm_f 73 21 = some (.iload_n 1, 1, 1, 0, 0, []) := by decide +kernel
theorem f73_22 : pm_f 73 22 = some (.isub, 1, 0, 0, 0, []) := by decide +kernel
theorem f73_23 : pm_f 73 23 = some (.if_icmp .gt 7, 3, 30, 0, 0, []) := by decide +kernel
theorem f73_26 : pm_f 73 26 = some (.iconst 1, 1, 0, 0, 1, []) := by decide +kernel
theorem f73_27 : pm_f 73 27 = some (.goto 4, 3, 31, 0, 0, []) := by decide +kernel
theorem f73_30 : pm_f 73 30 = some (.iconst 0, 1, 0, 0, 0, []) := by decide +kernel
theorem f73_31 : pm_f 73 31 = some (.ireturn, 1, 0, 0, 1, []) := by decide +kernel
theorem f74_0 : pm_f 74 0 = some (.aload_n 0, 1, 0, 0, 0, []) := by decide +kernel
theorem f74_1 : pm_f 74 1 = some (.invokespecial 3, 3, 0, 0, (-1), []) := by decide +kernel
theorem f74_4 : pm_f 74 4 = some (.aload_n 0, 1, 0, 0, 0, []) := by decide +kernel
theorem f74_5 : pm_f 74 5 = some (.bipush 6, 2, 0, 0, 6, []) := by decide +kernel
theorem f74_7 : pm_f 74 7 = some (.anewarray 11, 3, 6, 0, 0, []) := by decide +kernel
theorem f74_10 : pm_f 74 10 = some (.putfield 13, 3, 7, 0, 2, []) := by decide +kernel
theorem f74_13 : pm_f 74 13 = some (.aload_n 0, 1, 0, 0, 0, []) := by decide +kernel
theorem f74_14 : pm_f 74 14 = some (.iconst 0, 1, 0, 0, 0, []) := by decide +kernel
theorem f74_15 : pm_f 74 15 = some (.putfield 17, 3, 7, 1, 0, []) := by decide +kernel
theorem f74_18 : pm_f 74 18 = some (.aload_n 0, 1, 0, 0, 0, []) := by decide +kernel
theorem f74_19 : pm_f 74 19 = some (.new 21, 3, 3, 4, 0, []) := by decide +kernel
theorem f74_22 : pm_f 74 22 = some (.dup, 1, 0, 0, 0, []) := by decide +kernel
theorem f74_23 : pm_f 74 23 = some (.invokespecial 23, 3, 29, 0, 0, []) := by decide +kernel
theorem f74_26 : pm_f 74 26 = some (.putfield 24, 3, 7, 2, 2, []) := by decide +kernel
theorem f74_29 : pm_f 74 29 = some (.aload_n 0, 1, 0, 0, 0, []) := by decide +kernel
theorem f74_30 : pm_f 74 30 = some (.new 28, 3, 4, 4, 0, []) := by decide +kernel
theorem f74_33 : pm_f 74 33 = some (.dup, 1, 0, 0, 0, []) := by decide +kernel
theorem f74_34 : pm_f 74 34 = some (.iconst 5, 1, 0, 0, 5, []) := by decide +kernel
theorem f74_35 : pm_f 74 35 = some (.invokespecial 30, 3, 44, 1, 0, []) := by decide +kernel
theorem f74_38 : pm_f 74 38 = some (.putfield 33, 3, 7, 4, 2, []) := by decide +kernel
theorem f74_41 : pm_f 74 41 = some (.aload_n 0, 1, 0, 0, 0, []) := by decide +kernel
theorem f74_42 : pm_f 74 42 = some (.new 28, 3, 4, 4, 0, []) := by decide +kernel
theorem f74_45 : pm_f 74 45 = some (.dup, 1, 0, 0, 0, []) := by decide +kernel
theorem f74_46 : pm_f 74 46 = some (.bipush 10, 2, 0, 0, 10, []) := by decide +kernel
theorem f74_48 : pm_f 74 48 = some (.invokespecial 30, 3, 44, 1, 0, []) := by decide +kernel
theorem f74_51 : pm_f 74 51 = some (.putfield 37, 3, 7, 5, 2, []) := by decide +kernel
theorem f74_54 : pm_f 74 54 = some (.aload_n 0, 1, 0, 0, 0, []) := by decide +kernel
theorem f74_55 : pm_f 74 55 = some (.new 28, 3, 4, 4, 0, []) := by decide +kernel
theorem f74_58 : pm_f 74 58 = some (.dup, 1, 0, 0, 0, []) := by decide +kernel
theorem f74_59 : pm_f 74 59 = some (.bipush 8, 2, 0, 0, 8, []) := by decide +kernel
theorem f74_61 : pm_f 74 61 = some (.invokespecial 30, 3, 44, 1, 0, []) := by decide +kernel
theorem f74_64 : pm_f 74 64 = some (.putfield 40, 3, 7, 6, 2, []) := by decide +kernel
theorem f74_67 : pm_f 74 67 = some (.aload_n 0, 1, 0, 0, 0, []) := by decide +kernel
theorem f74_68 : pm_f 74 68 = some (.iconst 0, 1, 0, 0, 0, []) := by decide +kernel
theorem f74_69 : pm_f 74 69 = some (.putfield 43, 3, 7, 7, 1, []) := by decide +kernel
theorem f74_72 : pm_f 74 72 = some (.aload_n 0, 1, 0, 0, 0, []) := by decide +kernel
theorem f74_73 : pm_f 74 73 = some (.new 28, 3, 4, 4, 0, []) := by decide +kernel
theorem f74_76 : pm_f 74 76 = some (.dup, 1, 0, 0, 0, []) := by decide +kernel
theorem f74_77 : pm_f 74 77 = some (.iconst 5, 1, 0, 0, 5, []) := by decide +kernel
theorem f74_78 : pm_f 74 78 = some (.invokespecial 30, 3, 44, 1, 0, []) := by decide +kernel
theorem f74_81 : pm_f 74 81 = some (.putfield 47, 3, 7, 9, 2, []) := by decide +kernel
theorem f74_84 : pm_f 74 84 = some (.aload_n 0, 1, 0, 0, 0, []) := by decide +kernel
theorem f74_85 : pm_f 74 85 = some (.new 28, 3, 4, 4, 0, []) := by decide +kernel
theorem f74_88 : pm_f 74 88 = some (.dup, 1, 0, 0, 0, []) := by decide +kernel
theorem f74_89 : pm_f 74 89 = some (.bipush 10, 2, 0, 0, 10, []) := by decide +kernel
theorem f74_91 : pm_f 74 91 = some (.invokespecial 30, 3, 44, 1, 0, []) := by decide +kernel
theorem f74_94 : pm_f 74 94 = some (.putfield 50, 3, 7, 10, 2, []) := by decide +kernel
theorem f74_97 : pm_f 74 97 = some (.aload_n 0, 1, 0, 0, 0, []) := by decide +kernel
theorem f74_98 : pm_f 74 98 = some (.new 28, 3, 4, 4, 0, []) := by decide +kernel
theorem f74_101 : pm_f 74 101 = some (.dup, 1, 0, 0, 0, []) := by decide +kernel
theorem f74_102 : pm_f 74 102 = some (.bipush 8, 2, 0, 0, 8, []) := by decide +kernel
theorem f74_104 : pm_f 74 104 = some (.invokespecial 30, 3, 44, 1, 0, []) := by decide +kernel
theorem f74_107 : pm_f 74 107 = some (.putfield 53, 3, 7, 11, 2, []) := by decide +kernel
theorem f74_110 : pm_f 74 110 = some (.aload_n 0, 1, 0, 0, 0, []) := by decide +kernel
theorem f74_111 : pm_f 74 111 = some (.new 56, 3, 0, 5, 0, []) := by decide +kernel
theorem f74_114 : pm_f 74 114 = some (.dup, 1, 0, 0, 0, []) := by decide +kernel
theorem f74_115 : pm_f 74 115 = some (.invokespecial 58, 3, 0, 0, 0, []) := by decide +kernel
theorem f74_118 : pm_f 74 118 = some (.putfield 59, 3, 7, 13, 2, []) := by decide +kernel
theorem f74_121 : pm_f 74 121 = some (.aload_n 0, 1, 0, 0, 0, []) := by decide +kernel
theorem f74_122 : pm_f 74 122 = some (.bipush 6, 2, 0, 0, 6, []) := by decide +kernel
theorem f74_124 : pm_f 74 124 = some (.anewarray 63, 3, 10, 0, 0, []) := by decide +kernel
theorem f74_127 : pm_f 74 127 = some (.putfield 65, 3, 7, 14, 2, []) := by decide +kernel
theorem f74_130 : pm_f 74 130 = some (.new 11, 3, 2, 10, 0, []) := by decide +kernel
theorem f74_133 : pm_f 74 133 = some (.dup, 1, 0, 0, 0, []) := by decide +kernel
theorem f74_134 : pm_f 74 134 = some (.invokespecial 69, 3, 22, 0, 0, []) := by decide +kernel
theorem f74_137 : pm_f 74 137 = some (.astore_n 1, 1, 1, 0, 0, []) := by decide +kernel
theorem f74_138 : pm_f 74 138 = some (.aload_n 0, 1, 0, 0, 0, []) := by decide +kernel
theorem f74_139 : pm_f 74 139 = some (.new 70, 3, 5, 16, 0, []) := by decide +kernel
theorem f74_142 : pm_f 74 142 = some (.dup, 1, 0, 0, 0, []) := by decide +kernel
theorem f74_143 : pm_f 74 143 = some (.aload_n 1, 1, 1, 0, 0, []) := by decide +kernel
theorem f74_144 : pm_f 74 144 = some (.invokespecial 72, 3, 48, 1, 0, []) := by decide +kernel
theorem f74_147 : pm_f 74 147 = some (.putfield 75, 3, 7, 3, 2, []) := by decide +kernel
theorem f74_150 : pm_f 74 150 = some (.aload_n 0, 1, 0, 0, 0, []) := by decide +kernel
theorem f74_151 : pm_f 74 151 = some (.new 70, 3, 5, 16, 0, []) := by decide +kernel
theorem f74_154 : pm_f 74 154 = some (.dup, 1, 0, 0, 0, []) := by decide +kernel
theorem f74_155 : pm_f 74 155 = some (.aload_n 1, 1, 1, 0, 0, []) := by decide +kernel
theorem f74_156 : pm_f 74 156 = some (.invokespecial 72, 3, 48, 1, 0, []) := by decide +kernel
theorem f74_159 : pm_f 74 159 = some (.putfield 79, 3, 7, 8, 2, []) := by decide +kernel
theorem f74_162 : pm_f 74 162 = some (.aload_n 0, 1, 0, 0, 0, []) := by decide +kernel
theorem f74_163 : pm_f 74 163 = some (.new 82, 3, 1, 2, 0, []) := by decide +kernel
theorem f74_166 : pm_f 74 166 = some (.dup, 1, 0, 0, 0, []) := by decide +kernel
theorem f74_167 : pm_f 74 167 = some (.aload_n 0, 1, 0, 0, 0, []) := by decide +kernel
theorem f74_168 : pm_f 74 168 = some (.getfield 75, 3, 7, 3, 2, []) := by decide +kernel
theorem f74_171 : pm_f 74 171 = some (.new 70, 3, 5, 16, 0, []) := by decide +kernel
theorem f74_174 : pm_f 74 174 = some (.dup, 1, 0, 0, 0, []) := by decide +kernel
theorem f74_175 : pm_f 74 175 = some (.aload_n 1, 1, 1, 0, 0, []) := by decide +kernel
theorem f74_176 : pm_f 74 176 = some (.invokespecial 72, 3, 48, 1, 0, []) := by decide +kernel
theorem f74_179 : pm_f 74 179 = some (.invokespecial 84, 3, 7, 2, 0, []) := by decide +kernel
theorem f74_182 : pm_f 74 182 = some (.putfield 87, 3, 7, 12, 2, []) := by decide +kernel
theorem f74_185 : pm_f 74 185 = some (.iconst 0, 1, 0, 0, 0, []) := by decide +kernel
theorem f74_186 : pm_f 74 186 = some (.istore_n 2, 1, 2, 0, 0, []) := by decide +kernel
theorem f74_187 : pm_f 74 187 = some (.iload_n 2, 1, 2, 0, 0, []) := by decide +kernel
theorem f74_188 : pm_f 74 188 = some (.bipush 6, 2, 0, 0, 6, []) := by decide +kernel
theorem f74_190 : pm_f 74 190 = some (.if_icmp .ge 22, 3, 212, 0, 0, []) := by decide +kernel
theorem f74_193 : pm_f 74 193 = some (.aload_n 0, 1, 0, 0, 0, []) := by decide +kernel
theorem f74_194 : pm_f 74 194 = some (.getfield 13, 3, 7, 0, 2, []) := by decide +kernel
theorem f74_197 : pm_f 74 197 = some (.iload_n 2, 1, 2, 0, 0, []) := by decide +kernel
theorem f74_198 : pm_f 74 198 = some (.new 11, 3, 2, 10, 0, []) := by decide +kernel
theorem f74_201 : pm_f 74 201 = some (.dup, 1, 0, 0, 0, []) := by decide +kernel
theorem f74_202 : pm_f 74 202 = some (.invokespecial 69, 3, 22, 0, 0, []) := by decide +kernel
theorem f74_205 : pm_f 74 205 = some (.aastore, 1, 6, 0, 0, []) := by decide +kernel
theorem f74_206 : pm_f 74 206 = some (.iinc 2 1, 3, 2, 0, 1, []) := by decide +kernel
theorem f74_209 : pm_f 74 209 = some (.goto (-22), 3, 187, 0, 0, []) := by decide +kernel
theorem f74_212 : pm_f 74 212 = some (.iconst 0, 1, 0, 0, 0, []) := by decide +kernel
theorem f74_213 : pm_f 74 213 = some (.istore_n 2, 1, 2, 0, 0, []) := by decide +kernel
theorem f74_214 : pm_f 74 214 = some (.iload_n 2, 1, 2, 0, 0, []) := by decide +kernel
theorem f74_215 : pm_f 74 215 = some (.bipush 6, 2, 0, 0, 6, []) := by decide +kernel
theorem f74_217 : pm_f 74 217 = some (.if_icmp .ge 22, 3, 239, 0, 0, []) := by decide +kernel
theorem f74_220 : pm_f 74 220 = some (.aload_n 0, 1, 0, 0, 0, []) := by decide +kernel
theorem f74_221 : pm_f 74 221 = some (.getfield 65, 3, 7, 14, 2, []) := by decide +kernel
theorem f74_224 : pm_f 74 224 = some (.iload_n 2, 1, 2, 0, 0, []) := by decide +kernel
theorem f74_225 : pm_f 74 225 = some (.new 63, 3, 6, 3, 0, []) := by decide +kernel
theorem f74_228 : pm_f 74 228 = some (.dup, 1, 0, 0, 0, []) := by decide +kernel
theorem f74_229 : pm_f 74 229 = some (.invokespecial 91, 3, 69, 0, 0, []) := by decide +kernel
theorem f74_232 : pm_f 74 232 = some (.aastore, 1, 10, 0, 0, []) := by decide +kernel
theorem f74_233 : pm_f 74 233 = some (.iinc 2 1, 3, 2, 0, 1, []) := by decide +kernel
theorem f74_236 : pm_f 74 236 = some (.goto (-22), 3, 214, 0, 0, []) := by decide +kernel
theorem f74_239 : pm_f 74 239 = some (.return_, 1, 0, 0, 0, []) := by decide +kernel
theorem f75_0 : pm_f 75 0 = some (.iload_n 1, 1, 1, 0, 0, []) := by decide +kernel
theorem f75_1 : pm_f 75 1 = some (.iconst 0, 1, 0, 0, 0, []) := by decide +kernel
theorem f75_2 : pm_f 75 2 = some (.bipush 6, 2, 0, 0, 6, []) := by decide +kernel
theorem f75_4 : pm_f 75 4 = some (.invokestatic 92, 3, 112, 3, 0, []) := by decide +kernel
theorem f75_7 : pm_f 75 7 = some (.ifCond .ne 5, 3, 12, 0, 0, []) := by decide +kernel
theorem f75_10 : pm_f 75 10 = some (.iconst (-1), 1, 0, 0, (-1), []) := by decide +kernel
theorem f75_11 : pm_f 75 11 = some (.ireturn, 1, 0, 0, 0, []) := by decide +kernel
theorem f75_12 : pm_f 75 12 = some (.iload_n 2, 1, 2, 0, 0, []) := by decide +kernel
theorem f75_13 : pm_f 75 13 = some (.iconst 0, 1, 0, 0, 0, []) := by decide +kernel
theorem f75_14 : pm_f 75 14 = some (.bipush 9, 2, 0, 0, 9, []) := by decide +kernel
theorem f75_16 : pm_f 75 16 = some (.invokestatic 92, 3, 112, 3, 0, []) := by decide +kernel
theorem f75_19 : pm_f 75 19 = some (.ifCond .eq 26, 3, 45, 0, 0, []) := by decide +kernel
theorem f75_22 : pm_f 75 22 = some (.iload_n 3, 1, 3, 0, 0, []) := by decide +kernel
theorem f75_23 : pm_f 75 23 = some (.invokestatic 96, 3, 113, 1, 0, []) := by decide +kernel
theorem f75_26 : pm_f 75 26 = some (.ifCond .eq 19, 3, 45, 0, 0, []) := by decide +kernel
theorem f75_29 : pm_f 75 29 = some (.iload 4, 2, 4, 0, 0, []) := by decide +kernel
theorem f75_31 : pm_f 75 31 = some (.invokestatic 100, 3, 114, 1, 0, []) := by decide +kernel
theorem f75_34 : pm_f 75 34 = some (.ifCond .eq 11, 3, 45, 0, 0, []) := by decide +kernel
theorem f75_37 : pm_f 75 37 = some (.iload 5, 2, 5, 0, 0, []) := by decide +kernel
theorem f75_39 : pm_f 75 39 = some (.invokestatic 103, 3, 115, 1, 0, []) := by decide +kernel
theorem f75_42 : pm_f 75 42 = some (.ifCond .ne 6, 3, 48, 0, 0, []) := by decide +kernel
theorem f75_45 : pm_f 75 45 = some (.bipush (-2), 2, 0, 0, (-2), []) := by decide +kernel
theorem f75_47 : pm_f 75 47 = some (.ireturn, 1, 0, 0, 0, []) := by decide +kernel
theorem f75_48 : pm_f 75 48 = some (.aload_n 0, 1, 0, 0, 0, []) := by decide +kernel
theorem f75_49 : pm_f 75 49 = some (.getfield 75, 3, 7, 3, 2, []) := by decide +kernel
theorem f75_52 : pm_f 75 52 = some (.iload_n 1, 1, 1, 0, 0, []) := by decide +kernel
theorem f75_53 : pm_f 75 53 = some (.iload_n 2, 1, 2, 0, 0, []) := by decide +kernel
theorem f75_54 : pm_f 75 54 = some (.iload_n 3, 1, 3, 0, 0, []) := by decide +kernel
theorem f75_55 : pm_f 75 55 = some (.iload 4, 2, 4, 0, 0, []) := by decide +kernel
theorem f75_57 : pm_f 75 57 = some (.iload 5, 2, 5, 0, 0, []) := by decide +kernel
theorem f75_59 : pm_f 75 59 = some (.invokevirtual 106, 3, 51, 5, 5, []) := by decide +kernel
theorem f75_62 : pm_f 75 62 = some (.ireturn, 1, 0, 0, 0, []) := by decide +kernel
theorem f76_0 : pm_f 76 0 = some (.aload_n 0, 1, 0, 0, 0, []) := by decide +kernel
theorem f76_1 : pm_f 76 1 = some (.getfield 75, 3, 7, 3, 2, []) := by decide +kernel
theorem f76_4 : pm_f 76 4 = some (.iload_n 1, 1, 1, 0, 0, []) := by decide +kernel
theorem f76_5 : pm_f 76 5 = some (.invokevirtual 110, 3, 50, 1, 5, []) := by decide +kernel
theorem f76_8 : pm_f 76 8 = some (.ifCond .ne 7, 3, 15, 0, 0, []) := by decide +kernel
theorem f76_11 : pm_f 76 11 = some (.sipush (-1001), 3, 0, 0, (-1001), []) := by decide +kernel
theorem f76_14 : pm_f 76 14 = some (.ireturn, 1, 0, 0, 0, []) := by decide +kernel
theorem f76_15 : pm_f 76 15 = some (.aload_n 0, 1, 0, 0, 0, []) := by decide +kernel
theorem f76_16 : pm_f 76 16 = some (.getfield 75, 3, 7, 3, 2, []) := by decide +kernel
theorem f76_19 : pm_f 76 19 = some (.invokevirtual 113, 3, 56, 0, 5, []) := by decide +kernel
theorem f76_22 : pm_f 76 22 = some (.iload_n 2, 1, 2, 0, 0, []) := by decide +kernel
theorem f76_23 : pm_f 76 23 = some (.tableswitch 180 0 10 #[57, 67, 77, 87, 97, 107, 124, 134, 144, 154, 164], 57, 203, 0, 0, [(0, 80), (1, 90), (2, 100), (3, 110), (4, 120), (5, 130), (6, 147), (7, 157), (8, 167), (9, 177), (10, 187)]) := by decide +kernel
theorem f76_80 : pm_f 76 80 = some (.aload_n 0, 1, 0, 0, 0, []) := by decide +kernel
theorem f76_81 : pm_f 76 81 = some (.getfield 75, 3, 7, 3, 2, []) := by decide +kernel
theorem f76_84 : pm_f 76 84 = some (.getfield 116, 3, 5, 1, 2, []) := by decide +kernel
theorem f76_87 : pm_f 76 87 = some (.iload_n 1, 1, 1, 0, 0, []) := by decide +kernel
theorem f76_88 : pm_f 76 88 = some (.iaload, 1, 0, 0, 0, []) := by decide +kernel
theorem f76_89 : pm_f 76 89 = some (.ireturn, 1, 0, 0, 0, []) := by decide +kernel
theorem f76_90 : pm_f 76 90 = some (.aload_n 0, 1, 0, 0, 0, []) := by decide +kernel
theorem f76_91 : pm_f 76 91 = some (.getfield 75, 3, 7, 3, 2, []) := by decide +kernel
theorem f76_94 : pm_f 76 94 = some (.getfield 120, 3, 5, 2, 2, []) := by decide +kernel
theorem f76_97 : pm_f 76 97 = some (.iload_n 1, 1, 1, 0, 0, []) := by decide +kernel
theorem f76_98 : pm_f 76 98 = some (.iaload, 1, 0, 0, 0, []) := by decide +kernel
theorem f76_99 : pm_f 76 99 = some (.ireturn, 1, 0, 0, 0, []) := by decide +kernel
theorem f76_100 : pm_f 76 100 = some (.aload_n 0, 1, 0, 0, 0, []) := by decide +kernel
theorem f76_101 : pm_f 76 101 = some (.getfield 75, 3, 7, 3, 2, []) := by decide +kernel
theorem f76_104 : pm_f 76 104 = some (.getfield 123, 3, 5, 3, 2, []) := by decide +kernel
theorem f76_107 : pm_f 76 107 = some (.iload_n 1, 1, 1, 0, 0, []) := by decide +kernel
theorem f76_108 : pm_f 76 108 = some (.iaload, 1, 0, 0, 0, []) := by decide +kernel
theorem f76_109 : pm_f 76 109 = some (.ireturn, 1, 0, 0, 0, []) := by decide +kernel
theorem f76_110 : pm_f 76 110 = some (.aload_n 0, 1, 0, 0, 0, []) := by decide +kernel
theorem f76_111 : pm_f 76 111 = some (.getfield 75, 3, 7, 3, 2, []) := by decide +kernel
theorem f76_114 : pm_f 76 114 = some (.getfield 126, 3, 5, 4, 2, []) := by decide +kernel
theorem f76_117 : pm_f 76 117 = some (.iload_n 1, 1, 1, 0, 0, []) := by decide +kernel
theorem f76_118 : pm_f 76 118 = some (.iaload, 1, 0, 0, 0, []) := by decide +kernel
theorem f76_119 : pm_f 76 119 = some (.ireturn, 1, 0, 0, 0, []) := by decide +kernel
theorem f76_120 : pm_f 76 120 = some (.aload_n 0, 1, 0, 0, 0, []) := by decide +kernel
theorem f76_121 : pm_f 76 121 = some (.getfield 75, 3, 7, 3, 2, []) := by decide +kernel
theorem f76_124 : pm_f 76 124 = some (.getfield 129, 3, 5, 5, 2, []) := by decide +kernel
theorem f76_127 : pm_f 76 127 = some (.iload_n 1, 1, 1, 0, 0, []) := by decide +kernel
theorem f76_128 : pm_f 76 128 = some (.iaload, 1, 0, 0, 0, []) := by decide +kernel
theorem f76_129 : pm_f 76 129 = some (.ireturn, 1, 0, 0, 0, []) := by decide +kernel
theorem f76_130 : pm_f 76 130 = some (.aload_n 0, 1, 0, 0, 0, []) := by decide +kernel
theorem f76_131 : pm_f 76 131 = some (.getfield 75, 3, 7, 3, 2, []) := by decide +kernel
theorem f76_134 : pm_f 76 134 = some (.iload_n 1, 1, 1, 0, 0, []) := by decide +kernel
theorem f76_135 : pm_f 76 135 = some (.invokevirtual 132, 3, 52, 1, 5, []) := by decide +kernel
theorem f76_138 : pm_f 76 138 = some (.ifCond .eq 7, 3, 145, 0, 0, []) := by decide +kernel
theorem f76_141 : pm_f 76 141 = some (.iconst 1, 1, 0, 0, 1, []) := by decide +kernel
theorem f76_142 : pm_f 76 142 = some (.goto 4, 3, 146, 0, 0, []) := by decide +kernel
theorem f76_145 : pm_f 76 145 = some (.iconst 0, 1, 0, 0, 0, []) := by decide +kernel
theorem f76_146 : pm_f 76 146 = some (.ireturn, 1, 0, 0, 0, []) := by decide +kernel
theorem f76_147 : pm_f 76 147 = some (.aload_n 0, 1, 0, 0, 0, []) := by decide +kernel
theorem f76_148 : pm_f 76 148 = some (.getfield 75, 3, 7, 3, 2, []) := by decide +kernel
theorem f76_151 : pm_f 76 151 = some (.getfield 135, 3, 5, 11, 2, []) := by decide +kernel
theorem f76_154 : pm_f 76 154 = some (.iload_n 1, 1, 1, 0, 0, []) := by decide +kernel
theorem f76_155 : pm_f 76 155 = some (.iaload, 1, 0, 0, 0, []) := by decide +kernel
theorem f76_156 : pm_f 76 156 = some (.ireturn, 1, 0, 0, 0, []) := by decide +kernel
theorem f76_157 : pm_f 76 157 = some (.aload_n 0, 1, 0, 0, 0, []) := by decide +kernel
theorem f76_158 : pm_f 76 158 = some (.getfield 75, 3, 7, 3, 2, []) := by decide +kernel
theorem f76_161 : pm_f 76 161 = some (.getfield 138, 3, 5, 12, 2, []) := by decide +kernel
theorem f76_164 : pm_f 76 164 = some (.iload_n 1, 1, 1, 0, 0, []) := by decide +kernel
theorem f76_165 : pm_f 76 165 = some (.iaload, 1, 0, 0, 0, []) := by decide +kernel
theorem f76_166 : pm_f 76 166 = some (.ireturn, 1, 0, 0, 0, []) := by decide +kernel
theorem f76_167 : pm_f 76 167 = some (.aload_n 0, 1, 0, 0, 0, []) := by decide +kernel
theorem f76_168 : pm_f 76 168 = some (.getfield 75, 3, 7, 3, 2, []) := by decide +kernel
theorem f76_171 : pm_f 76 171 = some (.getfield 141, 3, 5, 13, 2, []) := by decide +kernel
theorem f76_174 : pm_f 76 174 = some (.iload_n 1, 1, 1, 0, 0, []) := by decide +kernel
theorem f76_175 : pm_f 76 175 = some (.iaload, 1, 0, 0, 0, []) := by decide +kernel
theorem f76_176 : pm_f 76 176 = some (.ireturn, 1, 0, 0, 0, []) := by decide +kernel
theorem f76_177 : pm_f 76 177 = some (.aload_n 0, 1, 0, 0, 0, []) := by decide +kernel
theorem f76_178 : pm_f 76 178 = some (.getfield 75, 3, 7, 3, 2, []) := by decide +kernel
theorem f76_181 : pm_f 76 181 = some (.getfield 144, 3, 5, 14, 2, []) := by decide +kernel
theorem f76_184 : pm_f 76 184 = some (.iload_n 1, 1, 1, 0, 0, []) := by decide +kernel
theorem f76_185 : pm_f 76 185 = some (.iaload, 1, 0, 0, 0, []) := by decide +kernel
theorem f76_186 : pm_f 76 186 = some (.ireturn, 1, 0, 0, 0, []) := by decide +kernel
theorem f76_187 : pm_f 76 187 = some (.aload_n 0, 1, 0, 0, 0, []) := by decide +kernel
theorem f76_188 : pm_f 76 188 = some (.getfield 75, 3, 7, 3, 2, []) := by decide +kernel
theorem f76_191 : pm_f 76 191 = some (.getfield 147, 3, 5, 10, 2, []) := by decide +kernel
theorem f76_194 : pm_f 76 194 = some (.aload_n 0, 1, 0, 0, 0, []) := by decide +kernel
theorem f76_195 : pm_f 76 195 = some (.getfield 75, 3, 7, 3, 2, []) := by decide +kernel
theorem f76_198 : pm_f 76 198 = some (.iload_n 1, 1, 1, 0, 0, []) := by decide +kernel
theorem f76_199 : pm_f 76 199 = some (.invokevirtual 151, 3, 26, 2, 2, []) := by decide +kernel
theorem f76_202 : pm_f 76 202 = some (.ireturn, 1, 0, 0, 0, []) := by decide +kernel
theorem f76_203 : pm_f 76 203 = some (.sipush (-1001), 3, 0, 0, (-1001), []) := by decide +kernel
theorem f76_206 : pm_f 76 206 = some (.ireturn, 1, 0, 0, 0, []) := by decide +kernel
theorem f77_0 : pm_f 77 0 = some (.aload_n 0, 1, 0, 0, 0, []) := by decide +kernel
theorem f77_1 : pm_f 77 1 = some (.getfield 75, 3, 7, 3, 2, []) := by decide +kernel
theorem f77_4 : pm_f 77 4 = some (.iload_n 1, 1, 1, 0, 0, []) := by decide +kernel
theorem f77_5 : pm_f 77 5 = some (.invokevirtual 110, 3, 50, 1, 5, []) := by decide +kernel
theorem f77_8 : pm_f 77 8 = some (.ifCond .ne 5, 3, 13, 0, 0, []) := by decide +kernel
theorem f77_11 : pm_f 77 11 = some (.iconst (-1), 1, 0, 0, (-1), []) := by decide +kernel
theorem f77_12 : pm_f 77 12 = some (.ireturn, 1, 0, 0, 0, []) := by decide +kernel
theorem f77_13 : pm_f 77 13 = some (.iload_n 2, 1, 2, 0, 0, []) := by decide +kernel
theorem f77_14 : pm_f 77 14 = some (.tableswitch 101 0 2 #[26, 51, 76], 26, 115, 0, 0, [(0, 40), (1, 65), (2, 90)]) := by decide +kernel
theorem f77_40 : pm_f 77 40 = some (.iload_n 3, 1, 3, 0, 0, []) := by decide +kernel
theorem f77_41 : pm_f 77 41 = some (.invokestatic 96, 3, 113, 1, 0, []) := by decide +kernel
theorem f77_44 : pm_f 77 44 = some (.ifCond .eq 18, 3, 62, 0, 0, []) := by decide +kernel
theorem f77_47 : pm_f 77 47 = some (.aload_n 0, 1, 0, 0, 0, []) := by decide +kernel
theorem f77_48 : pm_f 77 48 = some (.getfield 75, 3, 7, 3, 2, []) := by decide +kernel
theorem f77_51 : pm_f 77 51 = some (.getfield 123, 3, 5, 3, 2, []) := by decide +kernel
theorem f77_54 : pm_f 77 54 = some (.iload_n 1, 1, 1, 0, 0, []) := by decide +kernel
theorem f77_55 : pm_f 77 55 = some (.iload_n 3, 1, 3, 0, 0, []) := by decide +kernel
theorem f77_56 : pm_f 77 56 = some (.invokestatic 155, 3, 118, 3, 0, []) := by decide +kernel
theorem f77_59 : pm_f 77 59 = some (.goto 5, 3, 64, 0, 0, []) := by decide +kernel
theorem f77_62 : pm_f 77 62 = some (.bipush (-2), 2, 0, 0, (-2), []) := by decide +kernel
theorem f77_64 : pm_f 77 64 = some (.ireturn, 1, 0, 0, 0, []) := by decide +kernel
theorem f77_65 : pm_f 77 65 = some (.iload_n 3, 1, 3, 0, 0, []) := by decide +kernel
theorem f77_66 : pm_f 77 66 = some (.invokestatic 100, 3, 114, 1, 0, []) := by decide +kernel
theorem f77_69 : pm_f 77 69 = some (.ifCond .eq 18, 3, 87, 0, 0, []) := by decide +kernel
theorem f77_72 : pm_f 77 72 = some (.aload_n 0, 1, 0, 0, 0, []) := by decide +kernel
theorem f77_73 : pm_f 77 73 = some (.getfield 75, 3, 7, 3, 2, []) := by decide +kernel
theorem f77_76 : pm_f 77 76 = some (.getfield 126, 3, 5, 4, 2, []) := by decide +kernel
theorem f77_79 : pm_f 77 79 = some (.iload_n 1, 1, 1, 0, 0, []) := by decide +kernel
theorem f77_80 : pm_f 77 80 = some (.iload_n 3, 1, 3, 0, 0, []) := by decide +kernel
theorem f77_81 : pm_f 77 81 = some (.invokestatic 155, 3, 118, 3, 0, []) := by decide +kernel
theorem f77_84 : pm_f 77 84 = some (.goto 5, 3, 89, 0, 0, []) := by decide +kernel
theorem f77_87 : pm_f 77 87 = some (.bipush (-2), 2, 0, 0, (-2), []) := by decide +kernel
theorem f77_89 : pm_f 77 89 = some (.ireturn, 1, 0, 0, 0, []) := by decide +kernel
theorem f77_90 : pm_f 77 90 = some (.iload_n 3, 1, 3, 0, 0, []) := by decide +kernel
theorem f77_91 : pm_f 77 91 = some (.invokestatic 103, 3, 115, 1, 0, []) := by decide +kernel
theorem f77_94 : pm_f 77 94 = some (.ifCond .eq 18, 3, 112, 0, 0, []) := by decide +kernel
theorem f77_97 : pm_f 77 97 = some (.aload_n 0, 1, 0, 0, 0, []) := by decide +kernel
theorem f77_98 : pm_f 77 98 = some (.getfield 75, 3, 7, 3, 2, []) := by decide +kernel
theorem f77_101 : pm_f 77 101 = some (.getfield 129, 3, 5, 5, 2, []) := by decide +kernel
theorem f77_104 : pm_f 77 104 = some (.iload_n 1, 1, 1, 0, 0, []) := by decide +kernel
theorem f77_105 : pm_f 77 105 = some (.iload_n 3, 1, 3, 0, 0, []) := by decide +kernel
theorem f77_106 : pm_f 77 106 = some (.invokestatic 155, 3, 118, 3, 0, []) := by decide +kernel
theorem f77_109 : pm_f 77 109 = some (.goto 5, 3, 114, 0, 0, []) := by decide +kernel
theorem f77_112 : pm_f 77 112 = some (.bipush (-2), 2, 0, 0, (-2), []) := by decide +kernel
theorem f77_114 : pm_f 77 114 = some (.ireturn, 1, 0, 0, 0, []) := by decide +kernel
theorem f77_115 : pm_f 77 115 = some (.iconst (-1), 1, 0, 0, (-1), []) := by decide +kernel
theorem f77_116 : pm_f 77 116 = some (.ireturn, 1, 0, 0, 0, []) := by decide +kernel
theorem f78_0 : pm_f 78 0 = some (.aload_n 0, 1, 0, 0, 0, []) := by decide +kernel
theorem f78_1 : pm_f 78 1 = some (.getfield 75, 3, 7, 3, 2, []) := by decide +kernel
theorem f78_4 : pm_f 78 4 = some (.iload_n 1, 1, 1, 0, 0, []) := by decide +kernel
theorem f78_5 : pm_f 78 5 = some (.invokevirtual 110, 3, 50, 1, 5, []) := by decide +kernel
theorem f78_8 : pm_f 78 8 = some (.ifCond .ne 5, 3, 13, 0, 0, []) := by decide +kernel
theorem f78_11 : pm_f 78 11 = some (.iconst (-1), 1, 0, 0, (-1), []) := by decide +kernel
theorem f78_12 : pm_f 78 12 = some (.ireturn, 1, 0, 0, 0, []) := by decide +kernel
theorem f78_13 : pm_f 78 13 = some (.aload_n 0, 1, 0, 0, 0, []) := by decide +kernel
theorem f78_14 : pm_f 78 14 = some (.getfield 75, 3, 7, 3, 2, []) := by decide +kernel
theorem f78_17 : pm_f 78 17 = some (.iload_n 1, 1, 1, 0, 0, []) := by decide +kernel
theorem f78_18 : pm_f 78 18 = some (.invokevirtual 132, 3, 52, 1, 5, []) := by decide +kernel
theorem f78_21 : pm_f 78 21 = some (.ifCond .eq 7, 3, 28, 0, 0, []) := by decide +kernel
theorem f78_24 : pm_f 78 24 = some (.iconst 1, 1, 0, 0, 1, []) := by decide +kernel
theorem f78_25 : pm_f 78 25 = some (.goto 4, 3, 29, 0, 0, []) := by decide +kernel
theorem f78_28 : pm_f 78 28 = some (.iconst 0, 1, 0, 0, 0, []) := by decide +kernel
theorem f78_29 : pm_f 78 29 = some (.istore_n 3, 1, 3, 0, 0, []) := by decide +kernel
theorem f78_30 : pm_f 78 30 = some (.aload_n 0, 1, 0, 0, 0, []) := by decide +kernel
theorem f78_31 : pm_f 78 31 = some (.getfield 75, 3, 7, 3, 2, []) := by decide +kernel
theorem f78_34 : pm_f 78 34 = some (.iload_n 1, 1, 1, 0, 0, []) := by decide +kernel
theorem f78_35 : pm_f 78 35 = some (.iload_n 2, 1, 2, 0, 0, []) := by decide +kernel
theorem f78_36 : pm_f 78 36 = some (.invokevirtual 159, 3, 53, 2, 5, []) := by decide +kernel
theorem f78_39 : pm_f 78 39 = some (.iload_n 3, 1, 3, 0, 0, []) := by decide +kernel
theorem f78_40 : pm_f 78 40 = some (.ireturn, 1, 0, 0, 0, []) := by decide +kernel
theorem f79_0 : pm_f 79 0 = some (.aload_n 0, 1, 0, 0, 0, []) := by decide +kernel
theorem f79_1 : pm_f 79 1 = some (.getfield 75, 3, 7, 3, 2, []) := by decide +kernel
theorem f79_4 : pm_f 79 4 = some (.iload_n 1, 1, 1, 0, 0, []) := by decide +kernel
theorem f79_5 : pm_f 79 5 = some (.invokevirtual 110, 3, 50, 1, 5, []) := by decide +kernel
theorem f79_8 : pm_f 79 8 = some (.ifCond .eq 12, 3, 20, 0, 0, []) := by decide +kernel
theorem f79_11 : pm_f 79 11 = some (.iload_n 2, 1, 2, 0, 0, []) := by decide +kernel
theorem f79_12 : pm_f 79 12 = some (.iconst 0, 1, 0, 0, 0, []) := by decide +kernel
theorem f79_13 : pm_f 79 13 = some (.iconst 3, 1, 0, 0, 3, []) := by decide +kernel
theorem f79_14 : pm_f 79 14 = some (.invokestatic 92, 3, 112, 3, 0, []) := by decide +kernel
theorem f79_17 : pm_f 79 17 = some (.ifCond .ne 5, 3, 22, 0, 0, []) := by decide +kernel
theorem f79_20 : pm_f 79 20 = some (.iconst (-1), 1, 0, 0, (-1), []) := by decide +kernel
theorem f79_21 : pm_f 79 21 = some (.ireturn, 1, 0, 0, 0, []) := by decide +kernel
theorem f79_22 : pm_f 79 22 = some (.iload_n 3, 1, 3, 0, 0, []) := by decide +kernel
theorem f79_23 : pm_f 79 23 = some (.iconst 0, 1, 0, 0, 0, []) := by decide +kernel
theorem f79_24 : pm_f 79 24 = some (.bipush 9, 2, 0, 0, 9, []) := by decide +kernel
theorem f79_26 : pm_f 79 26 = some (.invokestatic 92, 3, 112, 3, 0, []) := by decide +kernel
theorem f79_29 : pm_f 79 29 = some (.ifCond .ne 6, 3, 35, 0, 0, []) := by decide +kernel
theorem f79_32 : pm_f 79 32 = some (.bipush (-2), 2, 0, 0, (-2), []) := by decide +kernel
theorem f79_34 : pm_f 79 34 = some (.ireturn, 1, 0, 0, 0, []) := by decide +kernel
theorem f79_35 : pm_f 79 35 = some (.aload_n 0, 1, 0, 0, 0, []) := by decide +kernel
theorem f79_36 : pm_f 79 36 = some (.getfield 75, 3, 7, 3, 2, []) := by decide +kernel
theorem f79_39 : pm_f 79 39 = some (.getfield 116, 3, 5, 1, 2, []) := by decide +kernel
theorem f79_42 : pm_f 79 42 = some (.iload_n 1, 1, 1, 0, 0, []) := by decide +kernel
theorem f79_43 : pm_f 79 43 = some (.iaload, 1, 0, 0, 0, []) := by decide +kernel
theorem f79_44 : pm_f 79 44 = some (.bipush 6, 2, 0, 0, 6, []) := by decide +kernel
theorem f79_46 : pm_f 79 46 = some (.if_icmp .ne 22, 3, 68, 0, 0, []) := by decide +kernel
theorem f79_49 : pm_f 79 49 = some (.aload_n 0, 1, 0, 0, 0, []) := by decide +kernel
theorem f79_50 : pm_f 79 50 = some (.getfield 75, 3, 7, 3, 2, []) := by decide +kernel
theorem f79_53 : pm_f 79 53 = some (.getfield 163, 3, 5, 6, 2, []) := by decide +kernel
theorem f79_56 : pm_f 79 56 = some (.iload_n 1, 1, 1, 0, 0, []) := by decide +kernel
theorem f79_57 : pm_f 79 57 = some (.iconst 4, 1, 0, 0, 4, []) := by decide +kernel
theorem f79_58 : pm_f 79 58 = some (.imul, 1, 0, 0, 0, []) := by decide +kernel
theorem f79_59 : pm_f 79 59 = some (.iload_n 2, 1, 2, 0, 0, []) := by decide +kernel
theorem f79_60 : pm_f 79 60 = some (.iadd, 1, 0, 0, 0, []) := by decide +kernel
theorem f79_61 : pm_f 79 61 = some (.iload_n 3, 1, 3, 0, 0, []) := by decide +kernel
theorem f79_62 : pm_f 79 62 = some (.invokestatic 155, 3, 118, 3, 0, []) := by decide +kernel
theorem f79_65 : pm_f 79 65 = some (.goto 5, 3, 70, 0, 0, []) := by decide +kernel
theorem f79_68 : pm_f 79 68 = some (.bipush (-3), 2, 0, 0, (-3), []) := by decide +kernel
theorem f79_70 : pm_f 79 70 = some (.ireturn, 1, 0, 0, 0, []) := by decide +kernel
theorem f80_0 : pm_f 80 0 = some (.iload_n 1, 1, 1, 0, 0, []) := by decide +kernel
theorem f80_1 : pm_f 80 1 = some (.iconst 0, 1, 0, 0, 0, []) := by decide +kernel
theorem f80_2 : pm_f 80 2 = some (.bipush 127, 2, 0, 0, 127, []) := by decide +kernel
theorem f80_4 : pm_f 80 4 = some (.invokestatic 92, 3, 112, 3, 0, []) := by decide +kernel
theorem f80_7 : pm_f 80 7 = some (.ifCond .eq 14, 3, 21, 0, 0, []) := by decide +kernel
theorem f80_10 : pm_f 80 10 = some (.aload_n 0, 1, 0, 0, 0, []) := by decide +kernel
theorem f80_11 : pm_f 80 11 = some (.getfield 24, 3, 7, 2, 2, []) := by decide +kernel
theorem f80_14 : pm_f 80 14 = some (.iload_n 1, 1, 1, 0, 0, []) := by decide +kernel
theorem f80_15 : pm_f 80 15 = some (.invokevirtual 166, 3, 30, 1, 3, []) := by decide +kernel
theorem f80_18 : pm_f 80 18 = some (.goto 5, 3, 23, 0, 0, []) := by decide +kernel
theorem f80_21 : pm_f 80 21 = some (.bipush (-2), 2, 0, 0, (-2), []) := by decide +kernel
theorem f80_23 : pm_f 80 23 = some (.ireturn, 1, 0, 0, 0, []) := by decide +kernel
theorem f81_0 : pm_f 81 0 = some (.aload_n 0, 1, 0, 0, 0, []) := by decide +kernel
theorem f81_1 : pm_f 81 1 = some (.getfield 17, 3, 7, 1, 0, []) := by decide +kernel
theorem f81_4 : pm_f 81 4 = some (.bipush 6, 2, 0, 0, 6, []) := by decide +kernel
theorem f81_6 : pm_f 81 6 = some (.if_icmp .lt 6, 3, 12, 0, 0, []) := by decide +kernel
theorem f81_9 : pm_f 81 9 = some (.bipush (-4), 2, 0, 0, (-4), []) := by decide +kernel
theorem f81_11 : pm_f 81 11 = some (.ireturn, 1, 0, 0, 0, []) := by decide +kernel
theorem f81_12 : pm_f 81 12 = some (.aload_n 0, 1, 0, 0, 0, []) := by decide +kernel
theorem f81_13 : pm_f 81 13 = some (.getfield 13, 3, 7, 0, 2, []) := by decide +kernel
theorem f81_16 : pm_f 81 16 = some (.aload_n 0, 1, 0, 0, 0, []) := by decide +kernel
theorem f81_17 : pm_f 81 17 = some (.getfield 17, 3, 7, 1, 0, []) := by decide +kernel
theorem f81_20 : pm_f 81 20 = some (.aaload, 1, 6, 0, 0, []) := by decide +kernel
theorem f81_21 : pm_f 81 21 = some (.astore_n 1, 1, 1, 0, 0, []) := by decide +kernel
theorem f81_22 : pm_f 81 22 = some (.aload_n 0, 1, 0, 0, 0, []) := by decide +kernel
theorem f81_23 : pm_f 81 23 = some (.getfield 24, 3, 7, 2, 2, []) := by decide +kernel
theorem f81_26 : pm_f 81 26 = some (.aload_n 1, 1, 1, 0, 0, []) := by decide +kernel
theorem f81_27 : pm_f 81 27 = some (.invokevirtual 170, 3, 31, 1, 3, []) := by decide +kernel
theorem f81_30 : pm_f 81 30 = some (.istore_n 2, 1, 2, 0, 0, []) := by decide +kernel
theorem f81_31 : pm_f 81 31 = some (.aload_n 0, 1, 0, 0, 0, []) := by decide +kernel
theorem f81_32 : pm_f 81 32 = some (.getfield 24, 3, 7, 2, 2, []) := by decide +kernel
theorem f81_35 : pm_f 81 35 = some (.iconst 0, 1, 0, 0, 0, []) := by decide +kernel
theorem f81_36 : pm_f 81 36 = some (.putfield 174, 3, 3, 0, 0, []) := by decide +kernel
theorem f81_39 : pm_f 81 39 = some (.iload_n 2, 1, 2, 0, 0, []) := by decide +kernel
theorem f81_40 : pm_f 81 40 = some (.ifCond .ne 14, 3, 54, 0, 0, []) := by decide +kernel
theorem f81_43 : pm_f 81 43 = some (.bipush (-10), 2, 0, 0, (-10), []) := by decide +kernel
theorem f81_45 : pm_f 81 45 = some (.aload_n 0, 1, 0, 0, 0, []) := by decide +kernel
theorem f81_46 : pm_f 81 46 = some (.getfield 24, 3, 7, 2, 2, []) := by decide +kernel
theorem f81_49 : pm_f 81 49 = some (.getfield 177, 3, 3, 1, 0, []) := by decide +kernel
theorem f81_52 : pm_f 81 52 = some (.isub, 1, 0, 0, 0, []) := by decide +kernel
theorem f81_53 : pm_f 81 53 = some (.ireturn, 1, 0, 0, 0, []) := by decide +kernel
theorem f81_54 : pm_f 81 54 = some (.aload_n 0, 1, 0, 0, 0, []) := by decide +kernel
theorem f81_55 : pm_f 81 55 = some (.getfield 75, 3, 7, 3, 2, []) := by decide +kernel
theorem f81_58 : pm_f 81 58 = some (.aload_n 1, 1, 1, 0, 0, []) := by decide +kernel
theorem f81_59 : pm_f 81 59 = some (.putfield 147, 3, 5, 10, 2, []) := by decide +kernel
theorem f81_62 : pm_f 81 62 = some (.aload_n 0, 1, 0, 0, 0, []) := by decide +kernel
theorem f81_63 : pm_f 81 63 = some (.dup, 1, 0, 0, 0, []) := by decide +kernel
theorem f81_64 : pm_f 81 64 = some (.getfield 17, 3, 7, 1, 0, []) := by decide +kernel
theorem f81_67 : pm_f 81 67 = some (.iconst 1, 1, 0, 0, 1, []) := by decide +kernel
theorem f81_68 : pm_f 81 68 = some (.iadd, 1, 0, 0, 0, []) := by decide +kernel
theorem f81_69 : pm_f 81 69 = some (.putfield 17, 3, 7, 1, 0, []) := by decide +kernel
theorem f81_72 : pm_f 81 72 = some (.aload_n 0, 1, 0, 0, 0, []) := by decide +kernel
theorem f81_73 : pm_f 81 73 = some (.getfield 17, 3, 7, 1, 0, []) := by decide +kernel
theorem f81_76 : pm_f 81 76 = some (.iconst 1, 1, 0, 0, 1, []) := by decide +kernel
theorem f81_77 : pm_f 81 77 = some (.isub, 1, 0, 0, 0, []) := by decide +kernel
theorem f81_78 : pm_f 81 78 = some (.ireturn, 1, 0, 0, 0, []) := by decide +kernel
theorem f82_0 : pm_f 82 0 = some (.iload_n 1, 1, 1, 0, 0, []) := by decide +kernel
theorem f82_1 : pm_f 82 1 = some (.tableswitch 108 0 6 #[43, 51, 59, 67, 78, 89, 100], 43, 109, 0, 0, [(0, 44), (1, 52), (2, 60), (3, 68), (4, 79), (5, 90), (6, 101)]) := by decide +kernel
theorem f82_44 : pm_f 82 44 = some (.aload_n 0, 1, 0, 0, 0, []) := by decide +kernel
theorem f82_45 : pm_f 82 45 = some (.getfield 75, 3, 7, 3, 2, []) := by decide +kernel
theorem f82_48 : pm_f 82 48 = some (.getfield 180, 3, 5, 8, 0, []) := by decide +kernel
theorem f82_51 : pm_f 82 51 = some (.ireturn, 1, 0, 0, 0, []) := by decide +kernel
theorem f82_52 : pm_f 82 52 = some (.aload_n 0, 1, 0, 0, 0, []) := by decide +kernel
theorem f82_53 : pm_f 82 53 = some (.getfield 75, 3, 7, 3, 2, []) := by decide +kernel
theorem f82_56 : pm_f 82 56 = some (.getfield 183, 3, 5, 9, 0, []) := by decide +kernel
theorem f82_59 : pm_f 82 59 = some (.ireturn, 1, 0, 0, 0, []) := by decide +kernel
theorem f82_60 : pm_f 82 60 = some (.aload_n 0, 1, 0, 0, 0, []) := by decide +kernel
theorem f82_61 : pm_f 82 61 = some (.getfield 75, 3, 7, 3, 2, []) := by decide +kernel
theorem f82_64 : pm_f 82 64 = some (.invokevirtual 186, 3, 55, 0, 5, []) := by decide +kernel
theorem f82_67 : pm_f 82 67 = some (.ireturn, 1, 0, 0, 0, []) := by decide +kernel
theorem f82_68 : pm_f 82 68 = some (.aload_n 0, 1, 0, 0, 0, []) := by decide +kernel
theorem f82_69 : pm_f 82 69 = some (.getfield 75, 3, 7, 3, 2, []) := by decide +kernel
theorem f82_72 : pm_f 82 72 = some (.getfield 147, 3, 5, 10, 2, []) := by decide +kernel
theorem f82_75 : pm_f 82 75 = some (.getfield 190, 3, 2, 0, 0, []) := by decide +kernel
theorem f82_78 : pm_f 82 78 = some (.ireturn, 1, 0, 0, 0, []) := by decide +kernel
theorem f82_79 : pm_f 82 79 = some (.aload_n 0, 1, 0, 0, 0, []) := by decide +kernel
theorem f82_80 : pm_f 82 80 = some (.getfield 75, 3, 7, 3, 2, []) := by decide +kernel
theorem f82_83 : pm_f 82 83 = some (.getfield 147, 3, 5, 10, 2, []) := by decide +kernel
theorem f82_86 : pm_f 82 86 = some (.getfield 193, 3, 2, 1, 0, []) := by decide +kernel
theorem f82_89 : pm_f 82 89 = some (.ireturn, 1, 0, 0, 0, []) := by decide +kernel
theorem f82_90 : pm_f 82 90 = some (.aload_n 0, 1, 0, 0, 0, []) := by decide +kernel
theorem f82_91 : pm_f 82 91 = some (.getfield 75, 3, 7, 3, 2, []) := by decide +kernel
theorem f82_94 : pm_f 82 94 = some (.getfield 147, 3, 5, 10, 2, []) := by decide +kernel
theorem f82_97 : pm_f 82 97 = some (.getfield 196, 3, 2, 2, 0, []) := by decide +kernel
theorem f82_100 : pm_f 82 100 = some (.ireturn, 1, 0, 0, 0, []) := by decide +kernel
theorem f82_101 : pm_f 82 101 = some (.aload_n 0, 1, 0, 0, 0, []) := by decide +kernel
theorem f82_102 : pm_f 82 102 = some (.getfield 75, 3, 7, 3, 2, []) := by decide +kernel
theorem f82_105 : pm_f 82 105 = some (.getfield 199, 3, 5, 7, 0, []) := by decide +kernel
theorem f82_108 : pm_f 82 108 = some (.ireturn, 1, 0, 0, 0, []) := by decide +kernel
theorem f82_109 : pm_f 82 109 = some (.iconst (-1), 1, 0, 0, (-1), []) := by decide +kernel
theorem f82_110 : pm_f 82 110 = some (.ireturn, 1, 0, 0, 0, []) := by decide +kernel
theorem f83_0 : pm_f 83 0 = some (.iload_n 1, 1, 1, 0, 0, []) := by decide +kernel
theorem f83_1 : pm_f 83 1 = some (.iconst 0, 1, 0, 0, 0, []) := by decide +kernel
theorem f83_2 : pm_f 83 2 = some (.bipush 60, 2, 0, 0, 60, []) := by decide +kernel
theorem f83_4 : pm_f 83 4 = some (.invokestatic 92, 3, 112, 3, 0, []) := by decide +kernel
theorem f83_7 : pm_f 83 7 = some (.ifCond .ne 6, 3, 13, 0, 0, []) := by decide +kernel
theorem f83_10 : pm_f 83 10 = some (.bipush (-2), 2, 0, 0, (-2), []) := by decide +kernel
theorem f83_12 : pm_f 83 12 = some (.ireturn, 1, 0, 0, 0, []) := by decide +kernel
theorem f83_13 : pm_f 83 13 = some (.aload_n 0, 1, 0, 0, 0, []) := by decide +kernel
theorem f83_14 : pm_f 83 14 = some (.getfield 75, 3, 7, 3, 2, []) := by decide +kernel
theorem f83_17 : pm_f 83 17 = some (.getfield 180, 3, 5, 8, 0, []) := by decide +kernel
theorem f83_20 : pm_f 83 20 = some (.iload_n 1, 1, 1, 0, 0, []) := by decide +kernel
theorem f83_21 : pm_f 83 21 = some (.iadd, 1, 0, 0, 0, []) := by decide +kernel
theorem f83_22 : pm_f 83 22 = some (.sipush 9999, 3, 0, 0, 9999, []) := by decide +kernel
theorem f83_25 : pm_f 83 25 = some (.if_icmp .le 6, 3, 31, 0, 0, []) := by decide +kernel
theorem f83_28 : pm_f 83 28 = some (.bipush (-3), 2, 0, 0, (-3), []) := by decide +kernel
theorem f83_30 : pm_f 83 30 = some (.ireturn, 1, 0, 0, 0, []) := by decide +kernel
theorem f83_31 : pm_f 83 31 = some (.aload_n 0, 1, 0, 0, 0, []) := by decide +kernel
theorem f83_32 : pm_f 83 32 = some (.getfield 75, 3, 7, 3, 2, []) := by decide +kernel
theorem f83_35 : pm_f 83 35 = some (.iload_n 1, 1, 1, 0, 0, []) := by decide +kernel
theorem f83_36 : pm_f 83 36 = some (.invokevirtual 202, 3, 61, 1, 5, []) := by decide +kernel
theorem f83_39 : pm_f 83 39 = some (.aload_n 0, 1, 0, 0, 0, []) := by decide +kernel
theorem f83_40 : pm_f 83 40 = some (.getfield 75, 3, 7, 3, 2, []) := by decide +kernel
theorem f83_43 : pm_f 83 43 = some (.invokevirtual 186, 3, 55, 0, 5, []) := by decide +kernel
theorem f83_46 : pm_f 83 46 = some (.ireturn, 1, 0, 0, 0, []) := by decide +kernel
theorem f84_0 : pm_f 84 0 = some (.iload_n 2, 1, 2, 0, 0, []) := by decide +kernel
theorem f84_1 : pm_f 84 1 = some (.bipush 10, 2, 0, 0, 10, []) := by decide +kernel
theorem f84_3 : pm_f 84 3 = some (.isub, 1, 0, 0, 0, []) := by decide +kernel
theorem f84_4 : pm_f 84 4 = some (.istore_n 3, 1, 3, 0, 0, []) := by decide +kernel
theorem f84_5 : pm_f 84 5 = some (.iload_n 2, 1, 2, 0, 0, []) := by decide +kernel
theorem f84_6 : pm_f 84 6 = some (.bipush 20, 2, 0, 0, 20, []) := by decide +kernel
theorem f84_8 : pm_f 84 8 = some (.isub, 1, 0, 0, 0, []) := by decide +kernel
theorem f84_9 : pm_f 84 9 = some (.istore 4, 2, 4, 0, 0, []) := by decide +kernel
theorem f84_11 : pm_f 84 11 = some (.iload_n 2, 1, 2, 0, 0, []) := by decide +kernel
theorem f84_12 : pm_f 84 12 = some (.ifCond .eq 31, 3, 43, 0, 0, []) := by decide +kernel
theorem f84_15 : pm_f 84 15 = some (.iload_n 2, 1, 2, 0, 0, []) := by decide +kernel
theorem f84_16 : pm_f 84 16 = some (.iconst 1, 1, 0, 0, 1, []) := by decide +kernel
theorem f84_17 : pm_f 84 17 = some (.if_icmp .eq 26, 3, 43, 0, 0, []) := by decide +kernel
theorem f84_20 : pm_f 84 20 = some (.aload_n 0, 1, 0, 0, 0, []) := by decide +kernel
theorem f84_21 : pm_f 84 21 = some (.getfield 75, 3, 7, 3, 2, []) := by decide +kernel
theorem f84_24 : pm_f 84 24 = some (.iload_n 3, 1, 3, 0, 0, []) := by decide +kernel
theorem f84_25 : pm_f 84 25 = some (.invokevirtual 110, 3, 50, 1, 5, []) := by decide +kernel
theorem f84_28 : pm_f 84 28 = some (.ifCond .ne 15, 3, 43, 0, 0, []) := by decide +kernel
theorem f84_31 : pm_f 84 31 = some (.aload_n 0, 1, 0, 0, 0, []) := by decide +kernel
theorem f84_32 : pm_f 84 32 = some (.getfield 75, 3, 7, 3, 2, []) := by decide +kernel
theorem f84_35 : pm_f 84 35 = some (.iload 4, 2, 4, 0, 0, []) := by decide +kernel
theorem f84_37 : pm_f 84 37 = some (.invokevirtual 110, 3, 50, 1, 5, []) := by decide +kernel
theorem f84_40 : pm_f 84 40 = some (.ifCond .eq 7, 3, 47, 0, 0, []) := by decide +kernel
theorem f84_43 : pm_f 84 43 = some (.iconst 1, 1, 0, 0, 1, []) := by decide +kernel
theorem f84_44 : pm_f 84 44 = some (.goto 4, 3, 48, 0, 0, []) := by decide +kernel
theorem f84_47 : pm_f 84 47 = some (.iconst 0, 1, 0, 0, 0, []) := by decide +kernel
theorem f84_48 : pm_f 84 48 = some (.istore 5, 2, 5, 0, 0, []) := by decide +kernel
theorem f84_50 : pm_f 84 50 = some (.iload 5, 2, 5, 0, 0, []) := by decide +kernel
theorem f84_52 : pm_f 84 52 = some (.ifCond .ne 5, 3, 57, 0, 0, []) := by decide +kernel
theorem f84_55 : pm_f 84 55 = some (.iconst (-1), 1, 0, 0, (-1), []) := by decide +kernel
theorem f84_56 : pm_f 84 56 = some (.ireturn, 1, 0, 0, 0, []) := by decide +kernel
theorem f84_57 : pm_f 84 57 = some (.iload_n 1, 1, 1, 0, 0, []) := by decide +kernel
theorem f84_58 : pm_f 84 58 = some (.iconst 0, 1, 0, 0, 0, []) := by decide +kernel
theorem f84_59 : pm_f 84 59 = some (.bipush 60, 2, 0, 0, 60, []) := by decide +kernel
theorem f84_61 : pm_f 84 61 = some (.invokestatic 92, 3, 112, 3, 0, []) := by decide +kernel
theorem f84_64 : pm_f 84 64 = some (.ifCond .ne 6, 3, 70, 0, 0, []) := by decide +kernel
theorem f84_67 : pm_f 84 67 = some (.bipush (-2), 2, 0, 0, (-2), []) := by decide +kernel
theorem f84_69 : pm_f 84 69 = some (.ireturn, 1, 0, 0, 0, []) := by decide +kernel
theorem f84_70 : pm_f 84 70 = some (.aload_n 0, 1, 0, 0, 0, []) := by decide +kernel
theorem f84_71 : pm_f 84 71 = some (.getfield 87, 3, 7, 12, 2, []) := by decide +kernel
theorem f84_74 : pm_f 84 74 = some (.iload_n 1, 1, 1, 0, 0, []) := by decide +kernel
theorem f84_75 : pm_f 84 75 = some (.invokevirtual 205, 3, 9, 1, 1, []) := by decide +kernel
theorem f84_78 : pm_f 84 78 = some (.astore 6, 2, 6, 0, 0, []) := by decide +kernel
theorem f84_80 : pm_f 84 80 = some (.iload_n 2, 1, 2, 0, 0, []) := by decide +kernel
theorem f84_81 : pm_f 84 81 = some (.ifCond .ne 9, 3, 90, 0, 0, []) := by decide +kernel
theorem f84_84 : pm_f 84 84 = some (.aload 6, 2, 6, 0, 0, []) := by decide +kernel
theorem f84_86 : pm_f 84 86 = some (.invokevirtual 186, 3, 55, 0, 5, []) := by decide +kernel
theorem f84_89 : pm_f 84 89 = some (.ireturn, 1, 0, 0, 0, []) := by decide +kernel
theorem f84_90 : pm_f 84 90 = some (.iload_n 2, 1, 2, 0, 0, []) := by decide +kernel
theorem f84_91 : pm_f 84 91 = some (.iconst 1, 1, 0, 0, 1, []) := by decide +kernel
theorem f84_92 : pm_f 84 92 = some (.if_icmp .ne 9, 3, 101, 0, 0, []) := by decide +kernel
theorem f84_95 : pm_f 84 95 = some (.aload 6, 2, 6, 0, 0, []) := by decide +kernel
theorem f84_97 : pm_f 84 97 = some (.getfield 183, 3, 5, 9, 0, []) := by decide +kernel
theorem f84_100 : pm_f 84 100 = some (.ireturn, 1, 0, 0, 0, []) := by decide +kernel
theorem f84_101 : pm_f 84 101 = some (.aload 6, 2, 6, 0, 0, []) := by decide +kernel
theorem f84_103 : pm_f 84 103 = some (.iload_n 3, 1, 3, 0, 0, []) := by decide +kernel
theorem f84_104 : pm_f 84 104 = some (.invokevirtual 110, 3, 50, 1, 5, []) := by decide +kernel
theorem f84_107 : pm_f 84 107 = some (.ifCond .eq 13, 3, 120, 0, 0, []) := by decide +kernel
theorem f84_110 : pm_f 84 110 = some (.aload 6, 2, 6, 0, 0, []) := by decide +kernel
theorem f84_112 : pm_f 84 112 = some (.getfield 129, 3, 5, 5, 2, []) := by decide +kernel
theorem f84_115 : pm_f 84 115 = some (.iload_n 3, 1, 3, 0, 0, []) := by decide +kernel
theorem f84_116 : pm_f 84 116 = some (.iaload, 1, 0, 0, 0, []) := by decide +kernel
theorem f84_117 : pm_f 84 117 = some (.goto 25, 3, 142, 0, 0, []) := by decide +kernel
theorem f84_120 : pm_f 84 120 = some (.aload 6, 2, 6, 0, 0, []) := by decide +kernel
theorem f84_122 : pm_f 84 122 = some (.iload 4, 2, 4, 0, 0, []) := by decide +kernel
theorem f84_124 : pm_f 84 124 = some (.invokevirtual 110, 3, 50, 1, 5, []) := by decide +kernel
theorem f84_127 : pm_f 84 127 = some (.ifCond .eq 14, 3, 141, 0, 0, []) := by decide +kernel
theorem f84_130 : pm_f 84 130 = some (.aload 6, 2, 6, 0, 0, []) := by decide +kernel
theorem f84_132 : pm_f 84 132 = some (.getfield 126, 3, 5, 4, 2, []) := by decide +kernel
theorem f84_135 : pm_f 84 135 = some (.iload 4, 2, 4, 0, 0, []) := by decide +kernel
theorem f84_137 : pm_f 84 137 = some (.iaload, 1, 0, 0, 0, []) := by decide +kernel
theorem f84_138 : pm_f 84 138 = some (.goto 4, 3, 142, 0, 0, []) := by decide +kernel
theorem f84_141 : pm_f 84 141 = some (.iconst (-1), 1, 0, 0, (-1), []) := by decide +kernel
theorem f84_142 : pm_f 84 142 = some (.ireturn, 1, 0, 0, 0, []) := by decide +kernel
theorem f85_0 : pm_f 85 0 = some (.aload_n 0, 1, 0, 0, 0, []) := by decide +kernel
theorem f85_1 : pm_f 85 1 = some (.getfield 87, 3, 7, 12, 2, []) := by decide +kernel
theorem f85_4 : pm_f 85 4 = some (.invokevirtual 209, 3, 8, 0, 1, []) := by decide +kernel
theorem f85_7 : pm_f 85 7 = some (.aload_n 0, 1, 0, 0, 0, []) := by decide +kernel
theorem f85_8 : pm_f 85 8 = some (.getfield 87, 3, 7, 12, 2, []) := by decide +kernel
theorem f85_11 : pm_f 85 11 = some (.bipush 60, 2, 0, 0, 60, []) := by decide +kernel
theorem f85_13 : pm_f 85 13 = some (.bipush (-5), 2, 0, 0, (-5), []) := by decide +kernel
theorem f85_15 : pm_f 85 15 = some (.invokevirtual 212, 3, 11, 2, 1, []) := by decide +kernel
theorem f85_18 : pm_f 85 18 = some (.ireturn, 1, 0, 0, 0, []) := by decide +kernel
theorem f86_0 : pm_f 86 0 = some (.aload_n 0, 1, 0, 0, 0, []) := by decide +kernel
theorem f86_1 : pm_f 86 1 = some (.getfield 87, 3, 7, 12, 2, []) := by decide +kernel
theorem f86_4 : pm_f 86 4 = some (.invokevirtual 209, 3, 8, 0, 1, []) := by decide +kernel
theorem f86_7 : pm_f 86 7 = some (.aload_n 0, 1, 0, 0, 0, []) := by decide +kernel
theorem f86_8 : pm_f 86 8 = some (.getfield 87, 3, 7, 12, 2, []) := by decide +kernel
theorem f86_11 : pm_f 86 11 = some (.bipush 60, 2, 0, 0, 60, []) := by decide +kernel
theorem f86_13 : pm_f 86 13 = some (.bipush (-5), 2, 0, 0, (-5), []) := by decide +kernel
theorem f86_15 : pm_f 86 15 = some (.invokevirtual 216, 3, 10, 2, 1, []) := by decide +kernel
theorem f86_18 : pm_f 86 18 = some (.ireturn, 1, 0, 0, 0, []) := by decide +kernel
theorem f87_0 : pm_f 87 0 = some (.iload_n 1, 1, 1, 0, 0, []) := by decide +kernel
theorem f87_1 : pm_f 87 1 = some (.iconst 0, 1, 0, 0, 0, []) := by decide +kernel
theorem f87_2 : pm_f 87 2 = some (.bipush 60, 2, 0, 0, 60, []) := by decide +kernel
theorem f87_4 : pm_f 87 4 = some (.invokestatic 92, 3, 112, 3, 0, []) := by decide +kernel
theorem f87_7 : pm_f 87 7 = some (.ifCond .eq 17, 3, 24, 0, 0, []) := by decide +kernel
theorem f87_10 : pm_f 87 10 = some (.aload_n 0, 1, 0, 0, 0, []) := by decide +kernel
theorem f87_11 : pm_f 87 11 = some (.getfield 87, 3, 7, 12, 2, []) := by decide +kernel
theorem f87_14 : pm_f 87 14 = some (.iload_n 1, 1, 1, 0, 0, []) := by decide +kernel
theorem f87_15 : pm_f 87 15 = some (.invokevirtual 205, 3, 9, 1, 1, []) := by decide +kernel
theorem f87_18 : pm_f 87 18 = some (.invokevirtual 219, 3, 66, 0, 5, []) := by decide +kernel
theorem f87_21 : pm_f 87 21 = some (.goto 5, 3, 26, 0, 0, []) := by decide +kernel
theorem f87_24 : pm_f 87 24 = some (.bipush (-2), 2, 0, 0, (-2), []) := by decide +kernel
theorem f87_26 : pm_f 87 26 = some (.ireturn, 1, 0, 0, 0, []) := by decide +kernel
theorem f88_0 : pm_f 88 0 = some (.aload_n 0, 1, 0, 0, 0, []) := by decide +kernel
theorem f88_1 : pm_f 88 1 = some (.getfield 87, 3, 7, 12, 2, []) := by decide +kernel
theorem f88_4 : pm_f 88 4 = some (.invokevirtual 222, 3, 12, 0, 1, []) := by decide +kernel
theorem f88_7 : pm_f 88 7 = some (.ireturn, 1, 0, 0, 0, []) := by decide +kernel
theorem f89_0 : pm_f 89 0 = some (.aload_n 0, 1, 0, 0, 0, []) := by decide +kernel
theorem f89_1 : pm_f 89 1 = some (.getfield 87, 3, 7, 12, 2, []) := by decide +kernel
theorem f89_4 : pm_f 89 4 = some (.invokevirtual 225, 3, 13, 0, 1, []) := by decide +kernel
theorem f89_7 : pm_f 89 7 = some (.ireturn, 1, 0, 0, 0, []) := by decide +kernel
theorem f90_0 : pm_f 90 0 = some (.aload_n 0, 1, 0, 0, 0, []) := by decide +kernel
theorem f90_1 : pm_f 90 1 = some (.getfield 75, 3, 7, 3, 2, []) := by decide +kernel
theorem f90_4 : pm_f 90 4 = some (.iload_n 1, 1, 1, 0, 0, []) := by decide +kernel
theorem f90_5 : pm_f 90 5 = some (.invokevirtual 110, 3, 50, 1, 5, []) := by decide +kernel
theorem f90_8 : pm_f 90 8 = some (.ifCond .eq 14, 3, 22, 0, 0, []) := by decide +kernel
theorem f90_11 : pm_f 90 11 = some (.aload_n 0, 1, 0, 0, 0, []) := by decide +kernel
theorem f90_12 : pm_f 90 12 = some (.getfield 87, 3, 7, 12, 2, []) := by decide +kernel
theorem f90_15 : pm_f 90 15 = some (.iload_n 1, 1, 1, 0, 0, []) := by decide +kernel
theorem f90_16 : pm_f 90 16 = some (.invokevirtual 228, 3, 14, 1, 1, []) := by decide +kernel
theorem f90_19 : pm_f 90 19 = some (.goto 4, 3, 23, 0, 0, []) := by decide +kernel
theorem f90_22 : pm_f 90 22 = some (.iconst (-1), 1, 0, 0, (-1), []) := by decide +kernel
theorem f90_23 : pm_f 90 23 = some (.ireturn, 1, 0, 0, 0, []) := by decide +kernel
theorem f91_0 : pm_f 91 0 = some (.iload_n 1, 1, 1, 0, 0, []) := by decide +kernel
theorem f91_1 : pm_f 91 1 = some (.iconst 0, 1, 0, 0, 0, []) := by decide +kernel
theorem f91_2 : pm_f 91 2 = some (.bipush 60, 2, 0, 0, 60, []) := by decide +kernel
theorem f91_4 : pm_f 91 4 = some (.invokestatic 92, 3, 112, 3, 0, []) := by decide +kernel
theorem f91_7 : pm_f 91 7 = some (.ifCond .eq 14, 3, 21, 0, 0, []) := by decide +kernel
theorem f91_10 : pm_f 91 10 = some (.aload_n 0, 1, 0, 0, 0, []) := by decide +kernel
theorem f91_11 : pm_f 91 11 = some (.getfield 87, 3, 7, 12, 2, []) := by decide +kernel
theorem f91_14 : pm_f 91 14 = some (.iload_n 1, 1, 1, 0, 0, []) := by decide +kernel
theorem f91_15 : pm_f 91 15 = some (.invokevirtual 231, 3, 15, 1, 1, []) := by decide +kernel
theorem f91_18 : pm_f 91 18 = some (.goto 5, 3, 23, 0, 0, []) := by decide +kernel
theorem f91_21 : pm_f 91 21 = some (.bipush (-2), 2, 0, 0, (-2), []) := by decide +kernel
theorem f91_23 : pm_f 91 23 = some (.ireturn, 1, 0, 0, 0, []) := by decide +kernel
theorem f92_0 : pm_f 92 0 = some (.iload_n 1, 1, 1, 0, 0, []) := by decide +kernel
theorem f92_1 : pm_f 92 1 = some (.iconst (-1), 1, 0, 0, (-1), []) := by decide +kernel
theorem f92_2 : pm_f 92 2 = some (.if_icmp .ne 11, 3, 13, 0, 0, []) := by decide +kernel
theorem f92_5 : pm_f 92 5 = some (.aload_n 0, 1, 0, 0, 0, []) := by decide +kernel
theorem f92_6 : pm_f 92 6 = some (.getfield 33, 3, 7, 4, 2, []) := by decide +kernel
theorem f92_9 : pm_f 92 9 = some (.invokevirtual 234, 3, 45, 0, 4, []) := by decide +kernel
theorem f92_12 : pm_f 92 12 = some (.ireturn, 1, 0, 0, 0, []) := by decide +kernel
theorem f92_13 : pm_f 92 13 = some (.aload_n 0, 1, 0, 0, 0, []) := by decide +kernel
theorem f92_14 : pm_f 92 14 = some (.getfield 75, 3, 7, 3, 2, []) := by decide +kernel
theorem f92_17 : pm_f 92 17 = some (.iload_n 1, 1, 1, 0, 0, []) := by decide +kernel
theorem f92_18 : pm_f 92 18 = some (.invokevirtual 110, 3, 50, 1, 5, []) := by decide +kernel
theorem f92_21 : pm_f 92 21 = some (.ifCond .ne 5, 3, 26, 0, 0, []) := by decide +kernel
theorem f92_24 : pm_f 92 24 = some (.iconst (-1), 1, 0, 0, (-1), []) := by decide +kernel
theorem f92_25 : pm_f 92 25 = some (.ireturn, 1, 0, 0, 0, []) := by decide +kernel
theorem f92_26 : pm_f 92 26 = some (.iload_n 2, 1, 2, 0, 0, []) := by decide +kernel
theorem f92_27 : pm_f 92 27 = some (.invokestatic 103, 3, 115, 1, 0, []) := by decide +kernel
theorem f92_30 : pm_f 92 30 = some (.ifCond .eq 13, 3, 43, 0, 0, []) := by decide +kernel
theorem f92_33 : pm_f 92 33 = some (.iload_n 3, 1, 3, 0, 0, []) := by decide +kernel
theorem f92_34 : pm_f 92 34 = some (.iconst 0, 1, 0, 0, 0, []) := by decide +kernel
theorem f92_35 : pm_f 92 35 = some (.bipush 8, 2, 0, 0, 8, []) := by decide +kernel
theorem f92_37 : pm_f 92 37 = some (.invokestatic 92, 3, 112, 3, 0, []) := by decide +kernel
theorem f92_40 : pm_f 92 40 = some (.ifCond .ne 6, 3, 46, 0, 0, []) := by decide +kernel
theorem f92_43 : pm_f 92 43 = some (.bipush (-2), 2, 0, 0, (-2), []) := by decide +kernel
theorem f92_45 : pm_f 92 45 = some (.ireturn, 1, 0, 0, 0, []) := by decide +kernel
theorem f92_46 : pm_f 92 46 = some (.aload_n 0, 1, 0, 0, 0, []) := by decide +kernel
theorem f92_47 : pm_f 92 47 = some (.getfield 33, 3, 7, 4, 2, []) := by decide +kernel
theorem f92_50 : pm_f 92 50 = some (.iload_n 1, 1, 1, 0, 0, []) := by decide +kernel
theorem f92_51 : pm_f 92 51 = some (.iload_n 2, 1, 2, 0, 0, []) := by decide +kernel
theorem f92_52 : pm_f 92 52 = some (.iload_n 3, 1, 3, 0, 0, []) := by decide +kernel
theorem f92_53 : pm_f 92 53 = some (.invokevirtual 237, 3, 46, 3, 4, []) := by decide +kernel
theorem f92_56 : pm_f 92 56 = some (.ireturn, 1, 0, 0, 0, []) := by decide +kernel
theorem f93_0 : pm_f 93 0 = some (.aload_n 0, 1, 0, 0, 0, []) := by decide +kernel
theorem f93_1 : pm_f 93 1 = some (.getfield 87, 3, 7, 12, 2, []) := by decide +kernel
theorem f93_4 : pm_f 93 4 = some (.aload_n 0, 1, 0, 0, 0, []) := by decide +kernel
theorem f93_5 : pm_f 93 5 = some (.getfield 33, 3, 7, 4, 2, []) := by decide +kernel
theorem f93_8 : pm_f 93 8 = some (.invokevirtual 241, 3, 16, 1, 1, []) := by decide +kernel
theorem f93_11 : pm_f 93 11 = some (.ireturn, 1, 0, 0, 0, []) := by decide +kernel
theorem f94_0 : pm_f 94 0 = some (.aload_n 0, 1, 0, 0, 0, []) := by decide +kernel
theorem f94_1 : pm_f 94 1 = some (.getfield 75, 3, 7, 3, 2, []) := by decide +kernel
theorem f94_4 : pm_f 94 4 = some (.iload_n 1, 1, 1, 0, 0, []) := by decide +kernel
theorem f94_5 : pm_f 94 5 = some (.invokevirtual 110, 3, 50, 1, 5, []) := by decide +kernel
theorem f94_8 : pm_f 94 8 = some (.ifCond .ne 5, 3, 13, 0, 0, []) := by decide +kernel
theorem f94_11 : pm_f 94 11 = some (.iconst (-1), 1, 0, 0, (-1), []) := by decide +kernel
theorem f94_12 : pm_f 94 12 = some (.ireturn, 1, 0, 0, 0, []) := by decide +kernel
theorem f94_13 : pm_f 94 13 = some (.iload_n 2, 1, 2, 0, 0, []) := by decide +kernel
theorem f94_14 : pm_f 94 14 = some (.lookupswitch 54 #[(0, 26), (1, 40)], 26, 68, 0, 0, [(0, 40), (1, 54)]) := by decide +kernel
theorem f94_40 : pm_f 94 40 = some (.aload_n 0, 1, 0, 0, 0, []) := by decide +kernel
theorem f94_41 : pm_f 94 41 = some (.getfield 87, 3, 7, 12, 2, []) := by decide +kernel
theorem f94_44 : pm_f 94 44 = some (.iload_n 1, 1, 1, 0, 0, []) := by decide +kernel
theorem f94_45 : pm_f 94 45 = some (.aload_n 0, 1, 0, 0, 0, []) := by decide +kernel
theorem f94_46 : pm_f 94 46 = some (.getfield 33, 3, 7, 4, 2, []) := by decide +kernel
theorem f94_49 : pm_f 94 49 = some (.iconst 0, 1, 0, 0, 0, []) := by decide +kernel
theorem f94_50 : pm_f 94 50 = some (.invokevirtual 245, 3, 17, 3, 1, []) := by decide +kernel
theorem f94_53 : pm_f 94 53 = some (.ireturn, 1, 0, 0, 0, []) := by decide +kernel
theorem f94_54 : pm_f 94 54 = some (.aload_n 0, 1, 0, 0, 0, []) := by decide +kernel
theorem f94_55 : pm_f 94 55 = some (.getfield 87, 3, 7, 12, 2, []) := by decide +kernel
theorem f94_58 : pm_f 94 58 = some (.iload_n 1, 1, 1, 0, 0, []) := by decide +kernel
theorem f94_59 : pm_f 94 59 = some (.aload_n 0, 1, 0, 0, 0, []) := by decide +kernel
theorem f94_60 : pm_f 94 60 = some (.getfield 33, 3, 7, 4, 2, []) := by decide +kernel
theorem f94_63 : pm_f 94 63 = some (.iconst 1, 1, 0, 0, 1, []) := by decide +kernel
theorem f94_64 : pm_f 94 64 = some (.invokevirtual 245, 3, 17, 3, 1, []) := by decide +kernel
theorem f94_67 : pm_f 94 67 = some (.ireturn, 1, 0, 0, 0, []) := by decide +kernel
theorem f94_68 : pm_f 94 68 = some (.iconst (-1), 1, 0, 0, (-1), []) := by decide +kernel
theorem f94_69 : pm_f 94 69 = some (.ireturn, 1, 0, 0, 0, []) := by decide +kernel
theorem f95_0 : pm_f 95 0 = some (.iload_n 1, 1, 1, 0, 0, []) := by decide +kernel
theorem f95_1 : pm_f 95 1 = some (.iconst 0, 1, 0, 0, 0, []) := by decide +kernel
theorem f95_2 : pm_f 95 2 = some (.bipush 30, 2, 0, 0, 30, []) := by decide +kernel
theorem f95_4 : pm_f 95 4 = some (.invokestatic 92, 3, 112, 3, 0, []) := by decide +kernel
theorem f95_7 : pm_f 95 7 = some (.ifCond .eq 23, 3, 30, 0, 0, []) := by decide +kernel
theorem f95_10 : pm_f 95 10 = some (.iload_n 2, 1, 2, 0, 0, []) := by decide +kernel
theorem f95_11 : pm_f 95 11 = some (.iconst 0, 1, 0, 0, 0, []) := by decide +kernel
theorem f95_12 : pm_f 95 12 = some (.iconst 1, 1, 0, 0, 1, []) := by decide +kernel
theorem f95_13 : pm_f 95 13 = some (.invokestatic 92, 3, 112, 3, 0, []) := by decide +kernel
theorem f95_16 : pm_f 95 16 = some (.ifCond .eq 14, 3, 30, 0, 0, []) := by decide +kernel
theorem f95_19 : pm_f 95 19 = some (.aload_n 0, 1, 0, 0, 0, []) := by decide +kernel
theorem f95_20 : pm_f 95 20 = some (.getfield 75, 3, 7, 3, 2, []) := by decide +kernel
theorem f95_23 : pm_f 95 23 = some (.getfield 249, 3, 5, 0, 0, []) := by decide +kernel
theorem f95_26 : pm_f 95 26 = some (.iconst 1, 1, 0, 0, 1, []) := by decide +kernel
theorem f95_27 : pm_f 95 27 = some (.if_icmp .ge 7, 3, 34, 0, 0, []) := by decide +kernel
theorem f95_30 : pm_f 95 30 = some (.ldc2_w 252, 3, 0, 0, (-9223372036854775808), []) := by decide +kernel
theorem f95_33 : pm_f 95 33 = some (.lreturn, 1, 0, 0, 0, []) := by decide +kernel
theorem f95_34 : pm_f 95 34 = some (.aload_n 0, 1, 0, 0, 0, []) := by decide +kernel
theorem f95_35 : pm_f 95 35 = some (.getfield 87, 3, 7, 12, 2, []) := by decide +kernel
theorem f95_38 : pm_f 95 38 = some (.iload_n 1, 1, 1, 0, 0, []) := by decide +kernel
theorem f95_39 : pm_f 95 39 = some (.invokevirtual 254, 3, 20, 1, 1, []) := by decide +kernel
theorem f95_42 : pm_f 95 42 = some (.aload_n 0, 1, 0, 0, 0, []) := by decide +kernel
theorem f95_43 : pm_f 95 43 = some (.getfield 75, 3, 7, 3, 2, []) := by decide +kernel
theorem f95_46 : pm_f 95 46 = some (.getfield 249, 3, 5, 0, 0, []) := by decide +kernel
theorem f95_49 : pm_f 95 49 = some (.iload_n 2, 1, 2, 0, 0, []) := by decide +kernel
theorem f95_50 : pm_f 95 50 = some (.invokestatic 257, 3, 120, 3, 0, []) := by decide +kernel
theorem f95_53 : pm_f 95 53 = some (.i2l, 1, 0, 0, 0, []) := by decide +kernel
theorem f95_54 : pm_f 95 54 = some (.lreturn, 1, 0, 0, 0, []) := by decide +kernel
theorem f96_0 : pm_f 96 0 = some (.iload_n 1, 1, 1, 0, 0, []) := by decide +kernel
theorem f96_1 : pm_f 96 1 = some (.iconst 0, 1, 0, 0, 0, []) := by decide +kernel
theorem f96_2 : pm_f 96 2 = some (.bipush 60, 2, 0, 0, 60, []) := by decide +kernel
theorem f96_4 : pm_f 96 4 = some (.invokestatic 92, 3, 112, 3, 0, []) := by decide +kernel
theorem f96_7 : pm_f 96 7 = some (.ifCond .eq 23, 3, 30, 0, 0, []) := by decide +kernel
theorem f96_10 : pm_f 96 10 = some (.iload_n 2, 1, 2, 0, 0, []) := by decide +kernel
theorem f96_11 : pm_f 96 11 = some (.iconst 0, 1, 0, 0, 0, []) := by decide +kernel
theorem f96_12 : pm_f 96 12 = some (.iconst 1, 1, 0, 0, 1, []) := by decide +kernel
theorem f96_13 : pm_f 96 13 = some (.invokestatic 92, 3, 112, 3, 0, []) := by decide +kernel
theorem f96_16 : pm_f 96 16 = some (.ifCond .eq 14, 3, 30, 0, 0, []) := by decide +kernel
theorem f96_19 : pm_f 96 19 = some (.aload_n 0, 1, 0, 0, 0, []) := by decide +kernel
theorem f96_20 : pm_f 96 20 = some (.getfield 75, 3, 7, 3, 2, []) := by decide +kernel
theorem f96_23 : pm_f 96 23 = some (.getfield 249, 3, 5, 0, 0, []) := by decide +kernel
theorem f96_26 : pm_f 96 26 = some (.iconst 1, 1, 0, 0, 1, []) := by decide +kernel
theorem f96_27 : pm_f 96 27 = some (.if_icmp .ge 7, 3, 34, 0, 0, []) := by decide +kernel
theorem f96_30 : pm_f 96 30 = some (.ldc2_w 252, 3, 0, 0, (-9223372036854775808), []) := by decide +kernel
theorem f96_33 : pm_f 96 33 = some (.lreturn, 1, 0, 0, 0, []) := by decide +kernel
theorem f96_34 : pm_f 96 34 = some (.aload_n 0, 1, 0, 0, 0, []) := by decide +kernel
theorem f96_35 : pm_f 96 35 = some (.getfield 87, 3, 7, 12, 2, []) := by decide +kernel
theorem f96_38 : pm_f 96 38 = some (.iload_n 1, 1, 1, 0, 0, []) := by decide +kernel
theorem f96_39 : pm_f 96 39 = some (.invokevirtual 205, 3, 9, 1, 1, []) := by decide +kernel
theorem f96_42 : pm_f 96 42 = some (.invokevirtual 260, 3, 67, 0, 5, []) := by decide +kernel
theorem f96_45 : pm_f 96 45 = some (.aload_n 0, 1, 0, 0, 0, []) := by decide +kernel
theorem f96_46 : pm_f 96 46 = some (.getfield 75, 3, 7, 3, 2, []) := by decide +kernel
theorem f96_49 : pm_f 96 49 = some (.getfield 249, 3, 5, 0, 0, []) := by decide +kernel
theorem f96_52 : pm_f 96 52 = some (.iload_n 2, 1, 2, 0, 0, []) := by decide +kernel
theorem f96_53 : pm_f 96 53 = some (.invokestatic 257, 3, 120, 3, 0, []) := by decide +kernel
theorem f96_56 : pm_f 96 56 = some (.i2l, 1, 0, 0, 0, []) := by decide +kernel
theorem f96_57 : pm_f 96 57 = some (.lreturn, 1, 0, 0, 0, []) := by decide +kernel
theorem f97_0 : pm_f 97 0 = some (.iload_n 1, 1, 1, 0, 0, []) := by decide +kernel
theorem f97_1 : pm_f 97 1 = some (.iconst (-1), 1, 0, 0, (-1), []) := by decide +kernel
theorem f97_2 : pm_f 97 2 = some (.if_icmp .ne 11, 3, 13, 0, 0, []) := by decide +kernel
theorem f97_5 : pm_f 97 5 = some (.aload_n 0, 1, 0, 0, 0, []) := by decide +kernel
theorem f97_6 : pm_f 97 6 = some (.getfield 37, 3, 7, 5, 2, []) := by decide +kernel
theorem f97_9 : pm_f 97 9 = some (.invokevirtual 234, 3, 45, 0, 4, []) := by decide +kernel
theorem f97_12 : pm_f 97 12 = some (.ireturn, 1, 0, 0, 0, []) := by decide +kernel
theorem f97_13 : pm_f 97 13 = some (.iload_n 1, 1, 1, 0, 0, []) := by decide +kernel
theorem f97_14 : pm_f 97 14 = some (.iconst 0, 1, 0, 0, 0, []) := by decide +kernel
theorem f97_15 : pm_f 97 15 = some (.iconst 2, 1, 0, 0, 2, []) := by decide +kernel
theorem f97_16 : pm_f 97 16 = some (.invokestatic 92, 3, 112, 3, 0, []) := by decide +kernel
theorem f97_19 : pm_f 97 19 = some (.ifCond .eq 18, 3, 37, 0, 0, []) := by decide +kernel
theorem f97_22 : pm_f 97 22 = some (.iload_n 1, 1, 1, 0, 0, []) := by decide +kernel
theorem f97_23 : pm_f 97 23 = some (.ifCond .eq 16, 3, 39, 0, 0, []) := by decide +kernel
theorem f97_26 : pm_f 97 26 = some (.aload_n 0, 1, 0, 0, 0, []) := by decide +kernel
theorem f97_27 : pm_f 97 27 = some (.getfield 75, 3, 7, 3, 2, []) := by decide +kernel
theorem f97_30 : pm_f 97 30 = some (.iload_n 2, 1, 2, 0, 0, []) := by decide +kernel
theorem f97_31 : pm_f 97 31 = some (.invokevirtual 110, 3, 50, 1, 5, []) := by decide +kernel
theorem f97_34 : pm_f 97 34 = some (.ifCond .ne 5, 3, 39, 0, 0, []) := by decide +kernel
theorem f97_37 : pm_f 97 37 = some (.iconst (-1), 1, 0, 0, (-1), []) := by decide +kernel
theorem f97_38 : pm_f 97 38 = some (.ireturn, 1, 0, 0, 0, []) := by decide +kernel
theorem f97_39 : pm_f 97 39 = some (.aload_n 0, 1, 0, 0, 0, []) := by decide +kernel
theorem f97_40 : pm_f 97 40 = some (.getfield 37, 3, 7, 5, 2, []) := by decide +kernel
theorem f97_43 : pm_f 97 43 = some (.iload_n 1, 1, 1, 0, 0, []) := by decide +kernel
theorem f97_44 : pm_f 97 44 = some (.iload_n 2, 1, 2, 0, 0, []) := by decide +kernel
theorem f97_45 : pm_f 97 45 = some (.iconst 0, 1, 0, 0, 0, []) := by decide +kernel
theorem f97_46 : pm_f 97 46 = some (.invokevirtual 237, 3, 46, 3, 4, []) := by decide +kernel
theorem f97_49 : pm_f 97 49 = some (.ireturn, 1, 0, 0, 0, []) := by decide +kernel
theorem f98_0 : pm_f 98 0 = some (.iload_n 1, 1, 1, 0, 0, []) := by decide +kernel
theorem f98_1 : pm_f 98 1 = some (.iconst 0, 1, 0, 0, 0, []) := by decide +kernel
theorem f98_2 : pm_f 98 2 = some (.iconst 1, 1, 0, 0, 1, []) := by decide +kernel
theorem f98_3 : pm_f 98 3 = some (.invokestatic 92, 3, 112, 3, 0, []) := by decide +kernel
theorem f98_6 : pm_f 98 6 = some (.ifCond .ne 5, 3, 11, 0, 0, []) := by decide +kernel
theorem f98_9 : pm_f 98 9 = some (.iconst (-1), 1, 0, 0, (-1), []) := by decide +kernel
theorem f98_10 : pm_f 98 10 = some (.ireturn, 1, 0, 0, 0, []) := by decide +kernel
theorem f98_11 : pm_f 98 11 = some (.aload_n 0, 1, 0, 0, 0, []) := by decide +kernel
theorem f98_12 : pm_f 98 12 = some (.getfield 87, 3, 7, 12, 2, []) := by decide +kernel
theorem f98_15 : pm_f 98 15 = some (.aload_n 0, 1, 0, 0, 0, []) := by decide +kernel
theorem f98_16 : pm_f 98 16 = some (.getfield 37, 3, 7, 5, 2, []) := by decide +kernel
theorem f98_19 : pm_f 98 19 = some (.invokevirtual 263, 3, 21, 1, 1, []) := by decide +kernel
theorem f98_22 : pm_f 98 22 = some (.astore_n 2, 1, 2, 0, 0, []) := by decide +kernel
theorem f98_23 : pm_f 98 23 = some (.iload_n 1, 1, 1, 0, 0, []) := by decide +kernel
theorem f98_24 : pm_f 98 24 = some (.ifCond .ne 10, 3, 34, 0, 0, []) := by decide +kernel
theorem f98_27 : pm_f 98 27 = some (.aload_n 2, 1, 2, 0, 0, []) := by decide +kernel
theorem f98_28 : pm_f 98 28 = some (.invokevirtual 186, 3, 55, 0, 5, []) := by decide +kernel
theorem f98_31 : pm_f 98 31 = some (.goto 7, 3, 38, 0, 0, []) := by decide +kernel
theorem f98_34 : pm_f 98 34 = some (.aload_n 2, 1, 2, 0, 0, []) := by decide +kernel
theorem f98_35 : pm_f 98 35 = some (.getfield 183, 3, 5, 9, 0, []) := by decide +kernel
theorem f98_38 : pm_f 98 38 = some (.ireturn, 1, 0, 0, 0, []) := by decide +kernel
theorem f99_0 : pm_f 99 0 = some (.iload_n 1, 1, 1, 0, 0, []) := by decide +kernel
theorem f99_1 : pm_f 99 1 = some (.iconst (-1), 1, 0, 0, (-1), []) := by decide +kernel
theorem f99_2 : pm_f 99 2 = some (.if_icmp .ne 11, 3, 13, 0, 0, []) := by decide +kernel
theorem f99_5 : pm_f 99 5 = some (.aload_n 0, 1, 0, 0, 0, []) := by decide +kernel
theorem f99_6 : pm_f 99 6 = some (.getfield 40, 3, 7, 6, 2, []) := by decide +kernel
theorem f99_9 : pm_f 99 9 = some (.invokevirtual 234, 3, 45, 0, 4, []) := by decide +kernel
theorem f99_12 : pm_f 99 12 = some (.ireturn, 1, 0, 0, 0, []) := by decide +kernel
theorem f99_13 : pm_f 99 13 = some (.aload_n 0, 1, 0, 0, 0, []) := by decide +kernel
theorem f99_14 : pm_f 99 14 = some (.getfield 75, 3, 7, 3, 2, []) := by decide +kernel
theorem f99_17 : pm_f 99 17 = some (.iload_n 1, 1, 1, 0, 0, []) := by decide +kernel
theorem f99_18 : pm_f 99 18 = some (.invokevirtual 110, 3, 50, 1, 5, []) := by decide +kernel
theorem f99_21 : pm_f 99 21 = some (.ifCond .ne 5, 3, 26, 0, 0, []) := by decide +kernel
theorem f99_24 : pm_f 99 24 = some (.iconst (-1), 1, 0, 0, (-1), []) := by decide +kernel
theorem f99_25 : pm_f 99 25 = some (.ireturn, 1, 0, 0, 0, []) := by decide +kernel
theorem f99_26 : pm_f 99 26 = some (.iload_n 2, 1, 2, 0, 0, []) := by decide +kernel
theorem f99_27 : pm_f 99 27 = some (.invokestatic 103, 3, 115, 1, 0, []) := by decide +kernel
theorem f99_30 : pm_f 99 30 = some (.ifCond .eq 16, 3, 46, 0, 0, []) := by decide +kernel
theorem f99_33 : pm_f 99 33 = some (.aload_n 0, 1, 0, 0, 0, []) := by decide +kernel
theorem f99_34 : pm_f 99 34 = some (.getfield 40, 3, 7, 6, 2, []) := by decide +kernel
theorem f99_37 : pm_f 99 37 = some (.iload_n 1, 1, 1, 0, 0, []) := by decide +kernel
theorem f99_38 : pm_f 99 38 = some (.iload_n 2, 1, 2, 0, 0, []) := by decide +kernel
theorem f99_39 : pm_f 99 39 = some (.iconst 0, 1, 0, 0, 0, []) := by decide +kernel
theorem f99_40 : pm_f 99 40 = some (.invokevirtual 237, 3, 46, 3, 4, []) := by decide +kernel
theorem f99_43 : pm_f 99 43 = some (.goto 5, 3, 48, 0, 0, []) := by decide +kernel
theorem f99_46 : pm_f 99 46 = some (.bipush (-2), 2, 0, 0, (-2), []) := by decide +kernel
theorem f99_48 : pm_f 99 48 = some (.ireturn, 1, 0, 0, 0, []) := by decide +kernel
theorem f100_0 : pm_f 100 0 = some (.iconst 0, 1, 0, 0, 0, []) := by decide +kernel
theorem f100_1 : pm_f 100 1 = some (.istore_n 1, 1, 1, 0, 0, []) := by decide +kernel
theorem f100_2 : pm_f 100 2 = some (.iload_n 1, 1, 1, 0, 0, []) := by decide +kernel
theorem f100_3 : pm_f 100 3 = some (.aload_n 0, 1, 0, 0, 0, []) := by decide +kernel
theorem f100_4 : pm_f 100 4 = some (.getfield 40, 3, 7, 6, 2, []) := by decide +kernel
theorem f100_7 : pm_f 100 7 = some (.getfield 267, 3, 4, 0, 0, []) := by decide +kernel
theorem f100_10 : pm_f 100 10 = some (.if_icmp .ge 53, 3, 63, 0, 0, []) := by decide +kernel
theorem f100_13 : pm_f 100 13 = some (.aload_n 0, 1, 0, 0, 0, []) := by decide +kernel
theorem f100_14 : pm_f 100 14 = some (.getfield 40, 3, 7, 6, 2, []) := by decide +kernel
theorem f100_17 : pm_f 100 17 = some (.getfield 268, 3, 4, 1, 2, []) := by decide +kernel
theorem f100_20 : pm_f 100 20 = some (.iload_n 1, 1, 1, 0, 0, []) := by decide +kernel
theorem f100_21 : pm_f 100 21 = some (.iaload, 1, 0, 0, 0, []) := by decide +kernel
theorem f100_22 : pm_f 100 22 = some (.istore_n 2, 1, 2, 0, 0, []) := by decide +kernel
theorem f100_23 : pm_f 100 23 = some (.aload_n 0, 1, 0, 0, 0, []) := by decide +kernel
theorem f100_24 : pm_f 100 24 = some (.getfield 75, 3, 7, 3, 2, []) := by decide +kernel
theorem f100_27 : pm_f 100 27 = some (.iload_n 2, 1, 2, 0, 0, []) := by decide +kernel
theorem f100_28 : pm_f 100 28 = some (.invokevirtual 110, 3, 50, 1, 5, []) := by decide +kernel
theorem f100_31 : pm_f 100 31 = some (.ifCond .eq 26, 3, 57, 0, 0, []) := by decide +kernel
theorem f100_34 : pm_f 100 34 = some (.aload_n 0, 1, 0, 0, 0, []) := by decide +kernel
theorem f100_35 : pm_f 100 35 = some (.getfield 75, 3, 7, 3, 2, []) := by decide +kernel
theorem f100_38 : pm_f 100 38 = some (.getfield 129, 3, 5, 5, 2, []) := by decide +kernel
theorem f100_41 : pm_f 100 41 = some (.iload_n 2, 1, 2, 0, 0, []) := by decide +kernel
theorem f100_42 : pm_f 100 42 = some (.iaload, 1, 0, 0, 0, []) := by decide +kernel
theorem f100_43 : pm_f 100 43 = some (.aload_n 0, 1, 0, 0, 0, []) := by decide +kernel
theorem f100_44 : pm_f 100 44 = some (.getfield 40, 3, 7, 6, 2, []) := by decide +kernel
theorem f100_47 : pm_f 100 47 = some (.getfield 271, 3, 4, 2, 2, []) := by decide +kernel
theorem f100_50 : pm_f 100 50 = some (.iload_n 1, 1, 1, 0, 0, []) := by decide +kernel
theorem f100_51 : pm_f 100 51 = some (.iaload, 1, 0, 0, 0, []) := by decide +kernel
theorem f100_52 : pm_f 100 52 = some (.if_icmp .eq 5, 3, 57, 0, 0, []) := by decide +kernel
theorem f100_55 : pm_f 100 55 = some (.iload_n 1, 1, 1, 0, 0, []) := by decide +kernel
theorem f100_56 : pm_f 100 56 = some (.ireturn, 1, 0, 0, 0, []) := by decide +kernel
theorem f100_57 : pm_f 100 57 = some (.iinc 1 1, 3, 1, 0, 1, []) := by decide +kernel
theorem f100_60 : pm_f 100 60 = some (.goto (-58), 3, 2, 0, 0, []) := by decide +kernel
theorem f100_63 : pm_f 100 63 = some (.bipush (-5), 2, 0, 0, (-5), []) := by decide +kernel
theorem f100_65 : pm_f 100 65 = some (.ireturn, 1, 0, 0, 0, []) := by decide +kernel
theorem f101_0 : pm_f 101 0 = some (.iload_n 1, 1, 1, 0, 0, []) := by decide +kernel
theorem f101_1 : pm_f 101 1 = some (.invokestatic 274, 3, 116, 1, 0, []) := by decide +kernel
theorem f101_4 : pm_f 101 4 = some (.ifCond .ne 5, 3, 9, 0, 0, []) := by decide +kernel
theorem f101_7 : pm_f 101 7 = some (.iconst (-1), 1, 0, 0, (-1), []) := by decide +kernel
theorem f101_8 : pm_f 101 8 = some (.ireturn, 1, 0, 0, 0, []) := by decide +kernel
theorem f101_9 : pm_f 101 9 = some (.aload_n 0, 1, 0, 0, 0, []) := by decide +kernel
theorem f101_10 : pm_f 101 10 = some (.getfield 65, 3, 7, 14, 2, []) := by decide +kernel
theorem f101_13 : pm_f 101 13 = some (.iload_n 1, 1, 1, 0, 0, []) := by decide +kernel
theorem f101_14 : pm_f 101 14 = some (.aaload, 1, 10, 0, 0, []) := by decide +kernel
theorem f101_15 : pm_f 101 15 = some (.astore_n 3, 1, 3, 0, 0, []) := by decide +kernel
theorem f101_16 : pm_f 101 16 = some (.aload_n 3, 1, 3, 0, 0, []) := by decide +kernel
theorem f101_17 : pm_f 101 17 = some (.invokevirtual 277, 3, 70, 0, 6, []) := by decide +kernel
theorem f101_20 : pm_f 101 20 = some (.ifCond .eq 14, 3, 34, 0, 0, []) := by decide +kernel
theorem f101_23 : pm_f 101 23 = some (.aload_n 3, 1, 3, 0, 0, []) := by decide +kernel
theorem f101_24 : pm_f 101 24 = some (.getfield 281, 3, 6, 0, 0, []) := by decide +kernel
theorem f101_27 : pm_f 101 27 = some (.iconst 1, 1, 0, 0, 1, []) := by decide +kernel
theorem f101_28 : pm_f 101 28 = some (.if_icmp .eq 6, 3, 34, 0, 0, []) := by decide +kernel
theorem f101_31 : pm_f 101 31 = some (.bipush (-12), 2, 0, 0, (-12), []) := by decide +kernel
theorem f101_33 : pm_f 101 33 = some (.ireturn, 1, 0, 0, 0, []) := by decide +kernel
theorem f101_34 : pm_f 101 34 = some (.iload_n 2, 1, 2, 0, 0, []) := by decide +kernel
theorem f101_35 : pm_f 101 35 = some (.iconst 0, 1, 0, 0, 0, []) := by decide +kernel
theorem f101_36 : pm_f 101 36 = some (.aload_n 3, 1, 3, 0, 0, []) := by decide +kernel
theorem f101_37 : pm_f 101 37 = some (.getfield 284, 3, 6, 1, 0, []) := by decide +kernel
theorem f101_40 : pm_f 101 40 = some (.invokestatic 92, 3, 112, 3, 0, []) := by decide +kernel
theorem f101_43 : pm_f 101 43 = some (.ifCond .eq 12, 3, 55, 0, 0, []) := by decide +kernel
theorem f101_46 : pm_f 101 46 = some (.aload_n 3, 1, 3, 0, 0, []) := by decide +kernel
theorem f101_47 : pm_f 101 47 = some (.getfield 284, 3, 6, 1, 0, []) := by decide +kernel
theorem f101_50 : pm_f 101 50 = some (.iload_n 2, 1, 2, 0, 0, []) := by decide +kernel
theorem f101_51 : pm_f 101 51 = some (.isub, 1, 0, 0, 0, []) := by decide +kernel
theorem f101_52 : pm_f 101 52 = some (.goto 4, 3, 56, 0, 0, []) := by decide +kernel
theorem f101_55 : pm_f 101 55 = some (.iconst 0, 1, 0, 0, 0, []) := by decide +kernel
theorem f101_56 : pm_f 101 56 = some (.istore 4, 2, 4, 0, 0, []) := by decide +kernel
theorem f101_58 : pm_f 101 58 = some (.iconst 0, 1, 0, 0, 0, []) := by decide +kernel
theorem f101_59 : pm_f 101 59 = some (.istore 5, 2, 5, 0, 0, []) := by decide +kernel
theorem f101_61 : pm_f 101 61 = some (.iload 5, 2, 5, 0, 0, []) := by decide +kernel
theorem f101_63 : pm_f 101 63 = some (.aload_n 0, 1, 0, 0, 0, []) := by decide +kernel
theorem f101_64 : pm_f 101 64 = some (.getfield 75, 3, 7, 3, 2, []) := by decide +kernel
theorem f101_67 : pm_f 101 67 = some (.getfield 249, 3, 5, 0, 0, []) := by decide +kernel
theorem f101_70 : pm_f 101 70 = some (.if_icmp .ge 49, 3, 119, 0, 0, []) := by decide +kernel
theorem f101_73 : pm_f 101 73 = some (.iload 5, 2, 5, 0, 0, []) := by decide +kernel
theorem f101_75 : pm_f 101 75 = some (.iload 4, 2, 4, 0, 0, []) := by decide +kernel
theorem f101_77 : pm_f 101 77 = some (.if_icmp .lt 9, 3, 86, 0, 0, []) := by decide +kernel
theorem f101_80 : pm_f 101 80 = some (.bipush 100, 2, 0, 0, 100, []) := by decide +kernel
theorem f101_82 : pm_f 101 82 = some (.iload 5, 2, 5, 0, 0, []) := by decide +kernel
theorem f101_84 : pm_f 101 84 = some (.iadd, 1, 0, 0, 0, []) := by decide +kernel
theorem f101_85 : pm_f 101 85 = some (.ireturn, 1, 0, 0, 0, []) := by decide +kernel
theorem f101_86 : pm_f 101 86 = some (.aload_n 3, 1, 3, 0, 0, []) := by decide +kernel
theorem f101_87 : pm_f 101 87 = some (.getfield 285, 3, 6, 2, 2, []) := by decide +kernel
theorem f101_90 : pm_f 101 90 = some (.iload_n 2, 1, 2, 0, 0, []) := by decide +kernel
theorem f101_91 : pm_f 101 91 = some (.iload 5, 2, 5, 0, 0, []) := by decide +kernel
theorem f101_93 : pm_f 101 93 = some (.iadd, 1, 0, 0, 0, []) := by decide +kernel
theorem f101_94 : pm_f 101 94 = some (.laload, 1, 0, 0, 0, []) := by decide +kernel
theorem f101_95 : pm_f 101 95 = some (.aload_n 0, 1, 0, 0, 0, []) := by decide +kernel
theorem f101_96 : pm_f 101 96 = some (.getfield 75, 3, 7, 3, 2, []) := by decide +kernel
theorem f101_99 : pm_f 101 99 = some (.getfield 129, 3, 5, 5, 2, []) := by decide +kernel
theorem f101_102 : pm_f 101 102 = some (.iload 5, 2, 5, 0, 0, []) := by decide +kernel
theorem f101_104 : pm_f 101 104 = some (.iaload, 1, 0, 0, 0, []) := by decide +kernel
theorem f101_105 : pm_f 101 105 = some (.i2l, 1, 0, 0, 0, []) := by decide +kernel
theorem f101_106 : pm_f 101 106 = some (.lcmp, 1, 0, 0, 0, []) := by decide +kernel
theorem f101_107 : pm_f 101 107 = some (.ifCond .eq 6, 3, 113, 0, 0, []) := by decide +kernel
theorem f101_110 : pm_f 101 110 = some (.iload 5, 2, 5, 0, 0, []) := by decide +kernel
theorem f101_112 : pm_f 101 112 = some (.ireturn, 1, 0, 0, 0, []) := by decide +kernel
theorem f101_113 : pm_f 101 113 = some (.iinc 5 1, 3, 5, 0, 1, []) := by decide +kernel
theorem f101_116 : pm_f 101 116 = some (.goto (-55), 3, 61, 0, 0, []) := by decide +kernel
theorem f101_119 : pm_f 101 119 = some (.bipush (-5), 2, 0, 0, (-5), []) := by decide +kernel
theorem f101_121 : pm_f 101 121 = some (.ireturn, 1, 0, 0, 0, []) := by decide +kernel
theorem f102_0 : pm_f 102 0 = some (.aload_n 0, 1, 0, 0, 0, []) := by decide +kernel
theorem f102_1 : pm_f 102 1 = some (.getfield 79, 3, 7, 8, 2, []) := by decide +kernel
theorem f102_4 : pm_f 102 4 = some (.aload_n 0, 1, 0, 0, 0, []) := by decide +kernel
theorem f102_5 : pm_f 102 5 = some (.getfield 75, 3, 7, 3, 2, []) := by decide +kernel
theorem f102_8 : pm_f 102 8 = some (.invokevirtual 289, 3, 49, 1, 5, []) := by decide +kernel
theorem f102_11 : pm_f 102 11 = some (.aload_n 0, 1, 0, 0, 0, []) := by decide +kernel
theorem f102_12 : pm_f 102 12 = some (.getfield 47, 3, 7, 9, 2, []) := by decide +kernel
theorem f102_15 : pm_f 102 15 = some (.aload_n 0, 1, 0, 0, 0, []) := by decide +kernel
theorem f102_16 : pm_f 102 16 = some (.getfield 33, 3, 7, 4, 2, []) := by decide +kernel
theorem f102_19 : pm_f 102 19 = some (.invokevirtual 293, 3, 47, 1, 4, []) := by decide +kernel
theorem f102_22 : pm_f 102 22 = some (.aload_n 0, 1, 0, 0, 0, []) := by decide +kernel
theorem f102_23 : pm_f 102 23 = some (.getfield 50, 3, 7, 10, 2, []) := by decide +kernel
theorem f102_26 : pm_f 102 26 = some (.aload_n 0, 1, 0, 0, 0, []) := by decide +kernel
theorem f102_27 : pm_f 102 27 = some (.getfield 37, 3, 7, 5, 2, []) := by decide +kernel
theorem f102_30 : pm_f 102 30 = some (.invokevirtual 293, 3, 47, 1, 4, []) := by decide +kernel
theorem f102_33 : pm_f 102 33 = some (.aload_n 0, 1, 0, 0, 0, []) := by decide +kernel
theorem f102_34 : pm_f 102 34 = some (.getfield 53, 3, 7, 11, 2, []) := by decide +kernel
theorem f102_37 : pm_f 102 37 = some (.aload_n 0, 1, 0, 0, 0, []) := by decide +kernel
theorem f102_38 : pm_f 102 38 = some (.getfield 40, 3, 7, 6, 2, []) := by decide +kernel
theorem f102_41 : pm_f 102 41 = some (.invokevirtual 293, 3, 47, 1, 4, []) := by decide +kernel
theorem f102_44 : pm_f 102 44 = some (.aload_n 0, 1, 0, 0, 0, []) := by decide +kernel
theorem f102_45 : pm_f 102 45 = some (.iconst 1, 1, 0, 0, 1, []) := by decide +kernel
theorem f102_46 : pm_f 102 46 = some (.putfield 43, 3, 7, 7, 1, []) := by decide +kernel
theorem f102_49 : pm_f 102 49 = some (.aload_n 0, 1, 0, 0, 0, []) := by decide +kernel
theorem f102_50 : pm_f 102 50 = some (.getfield 75, 3, 7, 3, 2, []) := by decide +kernel
theorem f102_53 : pm_f 102 53 = some (.getfield 249, 3, 5, 0, 0, []) := by decide +kernel
theorem f102_56 : pm_f 102 56 = some (.ireturn, 1, 0, 0, 0, []) := by decide +kernel
theorem f103_0 : pm_f 103 0 = some (.aload_n 0, 1, 0, 0, 0, []) := by decide +kernel
theorem f103_1 : pm_f 103 1 = some (.getfield 43, 3, 7, 7, 0, []) := by decide +kernel
theorem f103_4 : pm_f 103 4 = some (.ifCond .ne 6, 3, 10, 0, 0, []) := by decide +kernel
theorem f103_7 : pm_f 103 7 = some (.bipush (-3), 2, 0, 0, (-3), []) := by decide +kernel
theorem f103_9 : pm_f 103 9 = some (.ireturn, 1, 0, 0, 0, []) := by decide +kernel
theorem f103_10 : pm_f 103 10 = some (.aload_n 0, 1, 0, 0, 0, []) := by decide +kernel
theorem f103_11 : pm_f 103 11 = some (.getfield 75, 3, 7, 3, 2, []) := by decide +kernel
theorem f103_14 : pm_f 103 14 = some (.aload_n 0, 1, 0, 0, 0, []) := by decide +kernel
theorem f103_15 : pm_f 103 15 = some (.getfield 79, 3, 7, 8, 2, []) := by decide +kernel
theorem f103_18 : pm_f 103 18 = some (.invokevirtual 289, 3, 49, 1, 5, []) := by decide +kernel
theorem f103_21 : pm_f 103 21 = some (.aload_n 0, 1, 0, 0, 0, []) := by decide +kernel
theorem f103_22 : pm_f 103 22 = some (.getfield 33, 3, 7, 4, 2, []) := by decide +kernel
theorem f103_25 : pm_f 103 25 = some (.aload_n 0, 1, 0, 0, 0, []) := by decide +kernel
theorem f103_26 : pm_f 103 26 = some (.getfield 47, 3, 7, 9, 2, []) := by decide +kernel
theorem f103_29 : pm_f 103 29 = some (.invokevirtual 293, 3, 47, 1, 4, []) := by decide +kernel
theorem f103_32 : pm_f 103 32 = some (.aload_n 0, 1, 0, 0, 0, []) := by decide +kernel
theorem f103_33 : pm_f 103 33 = some (.getfield 37, 3, 7, 5, 2, []) := by decide +kernel
theorem f103_36 : pm_f 103 36 = some (.aload_n 0, 1, 0, 0, 0, []) := by decide +kernel
theorem f103_37 : pm_f 103 37 = some (.getfield 50, 3, 7, 10, 2, []) := by decide +kernel
theorem f103_40 : pm_f 103 40 = some (.invokevirtual 293, 3, 47, 1, 4, []) := by decide +kernel
theorem f103_43 : pm_f 103 43 = some (.aload_n 0, 1, 0, 0, 0, []) := by decide +kernel
theorem f103_44 : pm_f 103 44 = some (.getfield 40, 3, 7, 6, 2, []) := by decide +kernel
theorem f103_47 : pm_f 103 47 = some (.aload_n 0, 1, 0, 0, 0, []) := by decide +kernel
theorem f103_48 : pm_f 103 48 = some (.getfield 53, 3, 7, 11, 2, []) := by decide +kernel
theorem f103_51 : pm_f 103 51 = some (.invokevirtual 293, 3, 47, 1, 4, []) := by decide +kernel
theorem f103_54 : pm_f 103 54 = some (.aload_n 0, 1, 0, 0, 0, []) := by decide +kernel
theorem f103_55 : pm_f 103 55 = some (.getfield 75, 3, 7, 3, 2, []) := by decide +kernel
theorem f103_58 : pm_f 103 58 = some (.getfield 249, 3, 5, 0, 0, []) := by decide +kernel
theorem f103_61 : pm_f 103 61 = some (.ireturn, 1, 0, 0, 0, []) := by decide +kernel
theorem f104_0 : pm_f 104 0 = some (.aload_n 0, 1, 0, 0, 0, []) := by decide +kernel
theorem f104_1 : pm_f 104 1 = some (.getfield 59, 3, 7, 13, 2, []) := by decide +kernel
theorem f104_4 : pm_f 104 4 = some (.invokevirtual 296, 3, 1, 0, 0, []) := by decide +kernel
theorem f104_7 : pm_f 104 7 = some (.aload_n 0, 1, 0, 0, 0, []) := by decide +kernel
theorem f104_8 : pm_f 104 8 = some (.getfield 75, 3, 7, 3, 2, []) := by decide +kernel
theorem f104_11 : pm_f 104 11 = some (.iload_n 1, 1, 1, 0, 0, []) := by decide +kernel
theorem f104_12 : pm_f 104 12 = some (.invokevirtual 110, 3, 50, 1, 5, []) := by decide +kernel
theorem f104_15 : pm_f 104 15 = some (.ifCond .eq 12, 3, 27, 0, 0, []) := by decide +kernel
theorem f104_18 : pm_f 104 18 = some (.iload_n 2, 1, 2, 0, 0, []) := by decide +kernel
theorem f104_19 : pm_f 104 19 = some (.iconst 0, 1, 0, 0, 0, []) := by decide +kernel
theorem f104_20 : pm_f 104 20 = some (.iconst 2, 1, 0, 0, 2, []) := by decide +kernel
theorem f104_21 : pm_f 104 21 = some (.invokestatic 92, 3, 112, 3, 0, []) := by decide +kernel
theorem f104_24 : pm_f 104 24 = some (.ifCond .ne 5, 3, 29, 0, 0, []) := by decide +kernel
theorem f104_27 : pm_f 104 27 = some (.iconst 0, 1, 0, 0, 0, []) := by decide +kernel
theorem f104_28 : pm_f 104 28 = some (.ireturn, 1, 0, 0, 0, []) := by decide +kernel
theorem f104_29 : pm_f 104 29 = some (.aload_n 0, 1, 0, 0, 0, []) := by decide +kernel
theorem f104_30 : pm_f 104 30 = some (.getfield 59, 3, 7, 13, 2, []) := by decide +kernel
theorem f104_33 : pm_f 104 33 = some (.iload_n 1, 1, 1, 0, 0, []) := by decide +kernel
theorem f104_34 : pm_f 104 34 = some (.aload_n 0, 1, 0, 0, 0, []) := by decide +kernel
theorem f104_35 : pm_f 104 35 = some (.getfield 75, 3, 7, 3, 2, []) := by decide +kernel
theorem f104_38 : pm_f 104 38 = some (.getfield 116, 3, 5, 1, 2, []) := by decide +kernel
theorem f104_41 : pm_f 104 41 = some (.iload_n 1, 1, 1, 0, 0, []) := by decide +kernel
theorem f104_42 : pm_f 104 42 = some (.iaload, 1, 0, 0, 0, []) := by decide +kernel
theorem f104_43 : pm_f 104 43 = some (.aload_n 0, 1, 0, 0, 0, []) := by decide +kernel
theorem f104_44 : pm_f 104 44 = some (.getfield 75, 3, 7, 3, 2, []) := by decide +kernel
theorem f104_47 : pm_f 104 47 = some (.getfield 120, 3, 5, 2, 2, []) := by decide +kernel
theorem f104_50 : pm_f 104 50 = some (.iload_n 1, 1, 1, 0, 0, []) := by decide +kernel
theorem f104_51 : pm_f 104 51 = some (.iaload, 1, 0, 0, 0, []) := by decide +kernel
theorem f104_52 : pm_f 104 52 = some (.iload_n 2, 1, 2, 0, 0, []) := by decide +kernel
theorem f104_53 : pm_f 104 53 = some (.iload_n 3, 1, 3, 0, 0, []) := by decide +kernel
theorem f104_54 : pm_f 104 54 = some (.invokevirtual 299, 3, 3, 5, 0, []) := by decide +kernel
theorem f104_57 : pm_f 104 57 = some (.ireturn, 1, 0, 0, 0, []) := by decide +kernel
theorem f105_0 : pm_f 105 0 = some (.iload_n 1, 1, 1, 0, 0, []) := by decide +kernel
theorem f105_1 : pm_f 105 1 = some (.iconst 0, 1, 0, 0, 0, []) := by decide +kernel
theorem f105_2 : pm_f 105 2 = some (.aload_n 0, 1, 0, 0, 0, []) := by decide +kernel
theorem f105_3 : pm_f 105 3 = some (.getfield 59, 3, 7, 13, 2, []) := by decide +kernel
theorem f105_6 : pm_f 105 6 = some (.invokevirtual 301, 3, 2, 0, 0, []) := by decide +kernel
theorem f105_9 : pm_f 105 9 = some (.iconst 1, 1, 0, 0, 1, []) := by decide +kernel
theorem f105_10 : pm_f 105 10 = some (.isub, 1, 0, 0, 0, []) := by decide +kernel
theorem f105_11 : pm_f 105 11 = some (.invokestatic 92, 3, 112, 3, 0, []) := by decide +kernel
theorem f105_14 : pm_f 105 14 = some (.ifCond .eq 15, 3, 29, 0, 0, []) := by decide +kernel
theorem f105_17 : pm_f 105 17 = some (.aload_n 0, 1, 0, 0, 0, []) := by decide +kernel
theorem f105_18 : pm_f 105 18 = some (.getfield 59, 3, 7, 13, 2, []) := by decide +kernel
theorem f105_21 : pm_f 105 21 = some (.getfield 304, 3, 0, 0, 2, []) := by decide +kernel
theorem f105_24 : pm_f 105 24 = some (.iload_n 1, 1, 1, 0, 0, []) := by decide +kernel
theorem f105_25 : pm_f 105 25 = some (.iaload, 1, 0, 0, 0, []) := by decide +kernel
theorem f105_26 : pm_f 105 26 = some (.goto 4, 3, 30, 0, 0, []) := by decide +kernel
theorem f105_29 : pm_f 105 29 = some (.iconst (-1), 1, 0, 0, (-1), []) := by decide +kernel
theorem f105_30 : pm_f 105 30 = some (.ireturn, 1, 0, 0, 0, []) := by decide +kernel
theorem f106_0 : pm_f 106 0 = some (.iload_n 2, 1, 2, 0, 0, []) := by decide +kernel
theorem f106_1 : pm_f 106 1 = some (.iconst 0, 1, 0, 0, 0, []) := by decide +kernel
theorem f106_2 : pm_f 106 2 = some (.bipush 6, 2, 0, 0, 6, []) := by decide +kernel
theorem f106_4 : pm_f 106 4 = some (.invokestatic 92, 3, 112, 3, 0, []) := by decide +kernel
theorem f106_7 : pm_f 106 7 = some (.ifCond .ne 6, 3, 13, 0, 0, []) := by decide +kernel
theorem f106_10 : pm_f 106 10 = some (.bipush (-2), 2, 0, 0, (-2), []) := by decide +kernel
theorem f106_12 : pm_f 106 12 = some (.ireturn, 1, 0, 0, 0, []) := by decide +kernel
theorem f106_13 : pm_f 106 13 = some (.aload_n 0, 1, 0, 0, 0, []) := by decide +kernel
theorem f106_14 : pm_f 106 14 = some (.getfield 75, 3, 7, 3, 2, []) := by decide +kernel
theorem f106_17 : pm_f 106 17 = some (.iload_n 1, 1, 1, 0, 0, []) := by decide +kernel
theorem f106_18 : pm_f 106 18 = some (.invokevirtual 110, 3, 50, 1, 5, []) := by decide +kernel
theorem f106_21 : pm_f 106 21 = some (.ifCond .ne 6, 3, 27, 0, 0, []) := by decide +kernel
theorem f106_24 : pm_f 106 24 = some (.bipush (-11), 2, 0, 0, (-11), []) := by decide +kernel
theorem f106_26 : pm_f 106 26 = some (.ireturn, 1, 0, 0, 0, []) := by decide +kernel
theorem f106_27 : pm_f 106 27 = some (.aload_n 0, 1, 0, 0, 0, []) := by decide +kernel
theorem f106_28 : pm_f 106 28 = some (.getfield 75, 3, 7, 3, 2, []) := by decide +kernel
theorem f106_31 : pm_f 106 31 = some (.getfield 116, 3, 5, 1, 2, []) := by decide +kernel
theorem f106_34 : pm_f 106 34 = some (.iload_n 1, 1, 1, 0, 0, []) := by decide +kernel
theorem f106_35 : pm_f 106 35 = some (.iaload, 1, 0, 0, 0, []) := by decide +kernel
theorem f106_36 : pm_f 106 36 = some (.istore_n 3, 1, 3, 0, 0, []) := by decide +kernel
theorem f106_37 : pm_f 106 37 = some (.iload_n 3, 1, 3, 0, 0, []) := by decide +kernel
theorem f106_38 : pm_f 106 38 = some (.iload_n 2, 1, 2, 0, 0, []) := by decide +kernel
theorem f106_39 : pm_f 106 39 = some (.invokestatic 307, 3, 119, 2, 0, []) := by decide +kernel
theorem f106_42 : pm_f 106 42 = some (.ifCond .eq 7, 3, 49, 0, 0, []) := by decide +kernel
theorem f106_45 : pm_f 106 45 = some (.iload_n 3, 1, 3, 0, 0, []) := by decide +kernel
theorem f106_46 : pm_f 106 46 = some (.goto 5, 3, 51, 0, 0, []) := by decide +kernel
theorem f106_49 : pm_f 106 49 = some (.bipush (-12), 2, 0, 0, (-12), []) := by decide +kernel
theorem f106_51 : pm_f 106 51 = some (.ireturn, 1, 0, 0, 0, []) := by decide +kernel
theorem f107_0 : pm_f 107 0 = some (.iload_n 1, 1, 1, 0, 0, []) := by decide +kernel
theorem f107_1 : pm_f 107 1 = some (.tableswitch 96 0 6 #[43, 51, 56, 64, 72, 80, 88], 43, 97, 0, 0, [(0, 44), (1, 52), (2, 57), (3, 65), (4, 73), (5, 81), (6, 89)]) := by decide +kernel
theorem f107_44 : pm_f 107 44 = some (.aload_n 0, 1, 0, 0, 0, []) := by decide +kernel
theorem f107_45 : pm_f 107 45 = some (.getfield 75, 3, 7, 3, 2, []) := by decide +kernel
theorem f107_48 : pm_f 107 48 = some (.getfield 249, 3, 5, 0, 0, []) := by decide +kernel
theorem f107_51 : pm_f 107 51 = some (.ireturn, 1, 0, 0, 0, []) := by decide +kernel
theorem f107_52 : pm_f 107 52 = some (.aload_n 0, 1, 0, 0, 0, []) := by decide +kernel
theorem f107_53 : pm_f 107 53 = some (.getfield 17, 3, 7, 1, 0, []) := by decide +kernel
theorem f107_56 : pm_f 107 56 = some (.ireturn, 1, 0, 0, 0, []) := by decide +kernel
theorem f107_57 : pm_f 107 57 = some (.aload_n 0, 1, 0, 0, 0, []) := by decide +kernel
theorem f107_58 : pm_f 107 58 = some (.getfield 33, 3, 7, 4, 2, []) := by decide +kernel
theorem f107_61 : pm_f 107 61 = some (.getfield 267, 3, 4, 0, 0, []) := by decide +kernel
theorem f107_64 : pm_f 107 64 = some (.ireturn, 1, 0, 0, 0, []) := by decide +kernel
theorem f107_65 : pm_f 107 65 = some (.aload_n 0, 1, 0, 0, 0, []) := by decide +kernel
theorem f107_66 : pm_f 107 66 = some (.getfield 37, 3, 7, 5, 2, []) := by decide +kernel
theorem f107_69 : pm_f 107 69 = some (.getfield 267, 3, 4, 0, 0, []) := by decide +kernel
theorem f107_72 : pm_f 107 72 = some (.ireturn, 1, 0, 0, 0, []) := by decide +kernel
theorem f107_73 : pm_f 107 73 = some (.aload_n 0, 1, 0, 0, 0, []) := by decide +kernel
theorem f107_74 : pm_f 107 74 = some (.getfield 40, 3, 7, 6, 2, []) := by decide +kernel
theorem f107_77 : pm_f 107 77 = some (.getfield 267, 3, 4, 0, 0, []) := by decide +kernel
theorem f107_80 : pm_f 107 80 = some (.ireturn, 1, 0, 0, 0, []) := by decide +kernel
theorem f107_81 : pm_f 107 81 = some (.aload_n 0, 1, 0, 0, 0, []) := by decide +kernel
theorem f107_82 : pm_f 107 82 = some (.getfield 24, 3, 7, 2, 2, []) := by decide +kernel
theorem f107_85 : pm_f 107 85 = some (.getfield 174, 3, 3, 0, 0, []) := by decide +kernel
theorem f107_88 : pm_f 107 88 = some (.ireturn, 1, 0, 0, 0, []) := by decide +kernel
theorem f107_89 : pm_f 107 89 = some (.aload_n 0, 1, 0, 0, 0, []) := by decide +kernel
theorem f107_90 : pm_f 107 90 = some (.getfield 59, 3, 7, 13, 2, []) := by decide +kernel
theorem f107_93 : pm_f 107 93 = some (.getfield 311, 3, 0, 1, 0, []) := by decide +kernel
theorem f107_96 : pm_f 107 96 = some (.ireturn, 1, 0, 0, 0, []) := by decide +kernel
theorem f107_97 : pm_f 107 97 = some (.bipush (-2), 2, 0, 0, (-2), []) := by decide +kernel
theorem f107_99 : pm_f 107 99 = some (.ireturn, 1, 0, 0, 0, []) := by decide +kernel
theorem f108_0 : pm_f 108 0 = some (.iload_n 1, 1, 1, 0, 0, []) := by decide +kernel
theorem f108_1 : pm_f 108 1 = some (.invokestatic 274, 3, 116, 1, 0, []) := by decide +kernel
theorem f108_4 : pm_f 108 4 = some (.ifCond .ne 5, 3, 9, 0, 0, []) := by decide +kernel
theorem f108_7 : pm_f 108 7 = some (.iconst (-1), 1, 0, 0, (-1), []) := by decide +kernel
theorem f108_8 : pm_f 108 8 = some (.ireturn, 1, 0, 0, 0, []) := by decide +kernel
theorem f108_9 : pm_f 108 9 = some (.iload_n 2, 1, 2, 0, 0, []) := by decide +kernel
theorem f108_10 : pm_f 108 10 = some (.iconst (-1), 1, 0, 0, (-1), []) := by decide +kernel
theorem f108_11 : pm_f 108 11 = some (.if_icmp .ne 15, 3, 26, 0, 0, []) := by decide +kernel
theorem f108_14 : pm_f 108 14 = some (.aload_n 0, 1, 0, 0, 0, []) := by decide +kernel
theorem f108_15 : pm_f 108 15 = some (.getfield 65, 3, 7, 14, 2, []) := by decide +kernel
theorem f108_18 : pm_f 108 18 = some (.iload_n 1, 1, 1, 0, 0, []) := by decide +kernel
theorem f108_19 : pm_f 108 19 = some (.aaload, 1, 10, 0, 0, []) := by decide +kernel
theorem f108_20 : pm_f 108 20 = some (.iload_n 2, 1, 2, 0, 0, []) := by decide +kernel
theorem f108_21 : pm_f 108 21 = some (.iconst 0, 1, 0, 0, 0, []) := by decide +kernel
theorem f108_22 : pm_f 108 22 = some (.invokevirtual 314, 3, 71, 2, 6, []) := by decide +kernel
theorem f108_25 : pm_f 108 25 = some (.ireturn, 1, 0, 0, 0, []) := by decide +kernel
theorem f108_26 : pm_f 108 26 = some (.iload_n 2, 1, 2, 0, 0, []) := by decide +kernel
theorem f108_27 : pm_f 108 27 = some (.iconst 0, 1, 0, 0, 0, []) := by decide +kernel
theorem f108_28 : pm_f 108 28 = some (.iconst 4, 1, 0, 0, 4, []) := by decide +kernel
theorem f108_29 : pm_f 108 29 = some (.invokestatic 92, 3, 112, 3, 0, []) := by decide +kernel
theorem f108_32 : pm_f 108 32 = some (.ifCond .eq 9, 3, 41, 0, 0, []) := by decide +kernel
theorem f108_35 : pm_f 108 35 = some (.iload_n 3, 1, 3, 0, 0, []) := by decide +kernel
theorem f108_36 : pm_f 108 36 = some (.bipush 60, 2, 0, 0, 60, []) := by decide +kernel
theorem f108_38 : pm_f 108 38 = some (.if_icmp .le 6, 3, 44, 0, 0, []) := by decide +kernel
theorem f108_41 : pm_f 108 41 = some (.bipush (-2), 2, 0, 0, (-2), []) := by decide +kernel
theorem f108_43 : pm_f 108 43 = some (.ireturn, 1, 0, 0, 0, []) := by decide +kernel
theorem f108_44 : pm_f 108 44 = some (.iload_n 3, 1, 3, 0, 0, []) := by decide +kernel
theorem f108_45 : pm_f 108 45 = some (.ifCond .ge 8, 3, 53, 0, 0, []) := by decide +kernel
theorem f108_48 : pm_f 108 48 = some (.bipush (-14), 2, 0, 0, (-14), []) := by decide +kernel
theorem f108_50 : pm_f 108 50 = some (.goto 14, 3, 64, 0, 0, []) := by decide +kernel
theorem f108_53 : pm_f 108 53 = some (.aload_n 0, 1, 0, 0, 0, []) := by decide +kernel
theorem f108_54 : pm_f 108 54 = some (.getfield 65, 3, 7, 14, 2, []) := by decide +kernel
theorem f108_57 : pm_f 108 57 = some (.iload_n 1, 1, 1, 0, 0, []) := by decide +kernel
theorem f108_58 : pm_f 108 58 = some (.aaload, 1, 10, 0, 0, []) := by decide +kernel
theorem f108_59 : pm_f 108 59 = some (.iload_n 2, 1, 2, 0, 0, []) := by decide +kernel
theorem f108_60 : pm_f 108 60 = some (.iload_n 3, 1, 3, 0, 0, []) := by decide +kernel
theorem f108_61 : pm_f 108 61 = some (.invokevirtual 314, 3, 71, 2, 6, []) := by decide +kernel
theorem f108_64 : pm_f 108 64 = some (.ireturn, 1, 0, 0, 0, []) := by decide +kernel
theorem f109_0 : pm_f 109 0 = some (.iload_n 1, 1, 1, 0, 0, []) := by decide +kernel
theorem f109_1 : pm_f 109 1 = some (.invokestatic 274, 3, 116, 1, 0, []) := by decide +kernel
theorem f109_4 : pm_f 109 4 = some (.ifCond .ne 5, 3, 9, 0, 0, []) := by decide +kernel
theorem f109_7 : pm_f 109 7 = some (.iconst (-1), 1, 0, 0, (-1), []) := by decide +kernel
theorem f109_8 : pm_f 109 8 = some (.ireturn, 1, 0, 0, 0, []) := by decide +kernel
theorem f109_9 : pm_f 109 9 = some (.aload_n 0, 1, 0, 0, 0, []) := by decide +kernel
theorem f109_10 : pm_f 109 10 = some (.getfield 65, 3, 7, 14, 2, []) := by decide +kernel
theorem f109_13 : pm_f 109 13 = some (.iload_n 1, 1, 1, 0, 0, []) := by decide +kernel
theorem f109_14 : pm_f 109 14 = some (.aaload, 1, 10, 0, 0, []) := by decide +kernel
theorem f109_15 : pm_f 109 15 = some (.astore 5, 2, 5, 0, 0, []) := by decide +kernel
theorem f109_17 : pm_f 109 17 = some (.aload 5, 2, 5, 0, 0, []) := by decide +kernel
theorem f109_19 : pm_f 109 19 = some (.invokevirtual 277, 3, 70, 0, 6, []) := by decide +kernel
theorem f109_22 : pm_f 109 22 = some (.ifCond .ne 6, 3, 28, 0, 0, []) := by decide +kernel
theorem f109_25 : pm_f 109 25 = some (.bipush (-11), 2, 0, 0, (-11), []) := by decide +kernel
theorem f109_27 : pm_f 109 27 = some (.ireturn, 1, 0, 0, 0, []) := by decide +kernel
theorem f109_28 : pm_f 109 28 = some (.iload_n 2, 1, 2, 0, 0, []) := by decide +kernel
theorem f109_29 : pm_f 109 29 = some (.iconst 0, 1, 0, 0, 0, []) := by decide +kernel
theorem f109_30 : pm_f 109 30 = some (.aload 5, 2, 5, 0, 0, []) := by decide +kernel
theorem f109_32 : pm_f 109 32 = some (.getfield 284, 3, 6, 1, 0, []) := by decide +kernel
theorem f109_35 : pm_f 109 35 = some (.iconst 1, 1, 0, 0, 1, []) := by decide +kernel
theorem f109_36 : pm_f 109 36 = some (.isub, 1, 0, 0, 0, []) := by decide +kernel
theorem f109_37 : pm_f 109 37 = some (.invokestatic 92, 3, 112, 3, 0, []) := by decide +kernel
theorem f109_40 : pm_f 109 40 = some (.ifCond .ne 6, 3, 46, 0, 0, []) := by decide +kernel
theorem f109_43 : pm_f 109 43 = some (.bipush (-13), 2, 0, 0, (-13), []) := by decide +kernel
theorem f109_45 : pm_f 109 45 = some (.ireturn, 1, 0, 0, 0, []) := by decide +kernel
theorem f109_46 : pm_f 109 46 = some (.aload 5, 2, 5, 0, 0, []) := by decide +kernel
theorem f109_48 : pm_f 109 48 = some (.getfield 285, 3, 6, 2, 2, []) := by decide +kernel
theorem f109_51 : pm_f 109 51 = some (.iload_n 2, 1, 2, 0, 0, []) := by decide +kernel
theorem f109_52 : pm_f 109 52 = some (.aload 5, 2, 5, 0, 0, []) := by decide +kernel
theorem f109_54 : pm_f 109 54 = some (.lload_n 3, 1, 3, 0, 0, []) := by decide +kernel
theorem f109_55 : pm_f 109 55 = some (.invokevirtual 317, 3, 72, 1, 6, []) := by decide +kernel
theorem f109_58 : pm_f 109 58 = some (.lastore, 1, 0, 0, 0, []) := by decide +kernel
theorem f109_59 : pm_f 109 59 = some (.iconst 1, 1, 0, 0, 1, []) := by decide +kernel
theorem f109_60 : pm_f 109 60 = some (.ireturn, 1, 0, 0, 0, []) := by decide +kernel
theorem f110_0 : pm_f 110 0 = some (.iload_n 1, 1, 1, 0, 0, []) := by decide +kernel
theorem f110_1 : pm_f 110 1 = some (.invokestatic 274, 3, 116, 1, 0, []) := by decide +kernel
theorem f110_4 : pm_f 110 4 = some (.ifCond .eq 36, 3, 40, 0, 0, []) := by decide +kernel
theorem f110_7 : pm_f 110 7 = some (.iload_n 2, 1, 2, 0, 0, []) := by decide +kernel
theorem f110_8 : pm_f 110 8 = some (.iconst 0, 1, 0, 0, 0, []) := by decide +kernel
theorem f110_9 : pm_f 110 9 = some (.aload_n 0, 1, 0, 0, 0, []) := by decide +kernel
theorem f110_10 : pm_f 110 10 = some (.getfield 65, 3, 7, 14, 2, []) := by decide +kernel
theorem f110_13 : pm_f 110 13 = some (.iload_n 1, 1, 1, 0, 0, []) := by decide +kernel
theorem f110_14 : pm_f 110 14 = some (.aaload, 1, 10, 0, 0, []) := by decide +kernel
theorem f110_15 : pm_f 110 15 = some (.getfield 284, 3, 6, 1, 0, []) := by decide +kernel
theorem f110_18 : pm_f 110 18 = some (.iconst 1, 1, 0, 0, 1, []) := by decide +kernel
theorem f110_19 : pm_f 110 19 = some (.isub, 1, 0, 0, 0, []) := by decide +kernel
theorem f110_20 : pm_f 110 20 = some (.invokestatic 92, 3, 112, 3, 0, []) := by decide +kernel
theorem f110_23 : pm_f 110 23 = some (.ifCond .eq 17, 3, 40, 0, 0, []) := by decide +kernel
theorem f110_26 : pm_f 110 26 = some (.aload_n 0, 1, 0, 0, 0, []) := by decide +kernel
theorem f110_27 : pm_f 110 27 = some (.getfield 65, 3, 7, 14, 2, []) := by decide +kernel
theorem f110_30 : pm_f 110 30 = some (.iload_n 1, 1, 1, 0, 0, []) := by decide +kernel
theorem f110_31 : pm_f 110 31 = some (.aaload, 1, 10, 0, 0, []) := by decide +kernel
theorem f110_32 : pm_f 110 32 = some (.getfield 285, 3, 6, 2, 2, []) := by decide +kernel
theorem f110_35 : pm_f 110 35 = some (.iload_n 2, 1, 2, 0, 0, []) := by decide +kernel
theorem f110_36 : pm_f 110 36 = some (.laload, 1, 0, 0, 0, []) := by decide +kernel
theorem f110_37 : pm_f 110 37 = some (.goto 6, 3, 43, 0, 0, []) := by decide +kernel
theorem f110_40 : pm_f 110 40 = some (.ldc2_w 252, 3, 0, 0, (-9223372036854775808), []) := by decide +kernel
theorem f110_43 : pm_f 110 43 = some (.lreturn, 1, 0, 0, 0, []) := by decide +kernel
theorem f111_0 : pm_f 111 0 = some (.iload_n 1, 1, 1, 0, 0, []) := by decide +kernel
theorem f111_1 : pm_f 111 1 = some (.invokestatic 274, 3, 116, 1, 0, []) := by decide +kernel
theorem f111_4 : pm_f 111 4 = some (.ifCond .eq 10, 3, 14, 0, 0, []) := by decide +kernel
theorem f111_7 : pm_f 111 7 = some (.iload_n 3, 1, 3, 0, 0, []) := by decide +kernel
theorem f111_8 : pm_f 111 8 = some (.invokestatic 274, 3, 116, 1, 0, []) := by decide +kernel
theorem f111_11 : pm_f 111 11 = some (.ifCond .ne 5, 3, 16, 0, 0, []) := by decide +kernel
theorem f111_14 : pm_f 111 14 = some (.iconst (-1), 1, 0, 0, (-1), []) := by decide +kernel
theorem f111_15 : pm_f 111 15 = some (.ireturn, 1, 0, 0, 0, []) := by decide +kernel
theorem f111_16 : pm_f 111 16 = some (.aload_n 0, 1, 0, 0, 0, []) := by decide +kernel
theorem f111_17 : pm_f 111 17 = some (.getfield 65, 3, 7, 14, 2, []) := by decide +kernel
theorem f111_20 : pm_f 111 20 = some (.iload_n 1, 1, 1, 0, 0, []) := by decide +kernel
theorem f111_21 : pm_f 111 21 = some (.aaload, 1, 10, 0, 0, []) := by decide +kernel
theorem f111_22 : pm_f 111 22 = some (.astore 6, 2, 6, 0, 0, []) := by decide +kernel
theorem f111_24 : pm_f 111 24 = some (.aload_n 0, 1, 0, 0, 0, []) := by decide +kernel
theorem f111_25 : pm_f 111 25 = some (.getfield 65, 3, 7, 14, 2, []) := by decide +kernel
theorem f111_28 : pm_f 111 28 = some (.iload_n 3, 1, 3, 0, 0, []) := by decide +kernel
theorem f111_29 : pm_f 111 29 = some (.aaload, 1, 10, 0, 0, []) := by decide +kernel
theorem f111_30 : pm_f 111 30 = some (.astore 7, 2, 7, 0, 0, []) := by decide +kernel
theorem f111_32 : pm_f 111 32 = some (.aload 6, 2, 6, 0, 0, []) := by decide +kernel
theorem f111_34 : pm_f 111 34 = some (.invokevirtual 277, 3, 70, 0, 6, []) := by decide +kernel
theorem f111_37 : pm_f 111 37 = some (.ifCond .eq 11, 3, 48, 0, 0, []) := by decide +kernel
theorem f111_40 : pm_f 111 40 = some (.aload 7, 2, 7, 0, 0, []) := by decide +kernel
theorem f111_42 : pm_f 111 42 = some (.invokevirtual 277, 3, 70, 0, 6, []) := by decide +kernel
theorem f111_45 : pm_f 111 45 = some (.ifCond .ne 6, 3, 51, 0, 0, []) := by decide +kernel
theorem f111_48 : pm_f 111 48 = some (.bipush (-11), 2, 0, 0, (-11), []) := by decide +kernel
theorem f111_50 : pm_f 111 50 = some (.ireturn, 1, 0, 0, 0, []) := by decide +kernel
theorem f111_51 : pm_f 111 51 = some (.aload 6, 2, 6, 0, 0, []) := by decide +kernel
theorem f111_53 : pm_f 111 53 = some (.getfield 281, 3, 6, 0, 0, []) := by decide +kernel
theorem f111_56 : pm_f 111 56 = some (.aload 7, 2, 7, 0, 0, []) := by decide +kernel
theorem f111_58 : pm_f 111 58 = some (.getfield 281, 3, 6, 0, 0, []) := by decide +kernel
theorem f111_61 : pm_f 111 61 = some (.if_icmp .eq 6, 3, 67, 0, 0, []) := by decide +kernel
theorem f111_64 : pm_f 111 64 = some (.bipush (-12), 2, 0, 0, (-12), []) := by decide +kernel
theorem f111_66 : pm_f 111 66 = some (.ireturn, 1, 0, 0, 0, []) := by decide +kernel
theorem f111_67 : pm_f 111 67 = some (.aload 6, 2, 6, 0, 0, []) := by decide +kernel
theorem f111_69 : pm_f 111 69 = some (.iload_n 2, 1, 2, 0, 0, []) := by decide +kernel
theorem f111_70 : pm_f 111 70 = some (.iload 5, 2, 5, 0, 0, []) := by decide +kernel
theorem f111_72 : pm_f 111 72 = some (.invokevirtual 321, 3, 73, 2, 6, []) := by decide +kernel
theorem f111_75 : pm_f 111 75 = some (.ifCond .eq 15, 3, 90, 0, 0, []) := by decide +kernel
theorem f111_78 : pm_f 111 78 = some (.aload 7, 2, 7, 0, 0, []) := by decide +kernel
theorem f111_80 : pm_f 111 80 = some (.iload 4, 2, 4, 0, 0, []) := by decide +kernel
theorem f111_82 : pm_f 111 82 = some (.iload 5, 2, 5, 0, 0, []) := by decide +kernel
theorem f111_84 : pm_f 111 84 = some (.invokevirtual 321, 3, 73, 2, 6, []) := by decide +kernel
theorem f111_87 : pm_f 111 87 = some (.ifCond .ne 6, 3, 93, 0, 0, []) := by decide +kernel
theorem f111_90 : pm_f 111 90 = some (.bipush (-13), 2, 0, 0, (-13), []) := by decide +kernel
theorem f111_92 : pm_f 111 92 = some (.ireturn, 1, 0, 0, 0, []) := by decide +kernel
theorem f111_93 : pm_f 111 93 = some (.aload 6, 2, 6, 0, 0, []) := by decide +kernel
theorem f111_95 : pm_f 111 95 = some (.getfield 285, 3, 6, 2, 2, []) := by decide +kernel
theorem f111_98 : pm_f 111 98 = some (.iload_n 2, 1, 2, 0, 0, []) := by decide +kernel
theorem f111_99 : pm_f 111 99 = some (.aload 7, 2, 7, 0, 0, []) := by decide +kernel
theorem f111_101 : pm_f 111 101 = some (.getfield 285, 3, 6, 2, 2, []) := by decide +kernel
theorem f111_104 : pm_f 111 104 = some (.iload 4, 2, 4, 0, 0, []) := by decide +kernel
theorem f111_106 : pm_f 111 106 = some (.iload 5, 2, 5, 0, 0, []) := by decide +kernel
theorem f111_108 : pm_f 111 108 = some (.invokestatic 324, 3, 0, 0, 5, []) := by decide +kernel
theorem f111_111 : pm_f 111 111 = some (.iload 5, 2, 5, 0, 0, []) := by decide +kernel
theorem f111_113 : pm_f 111 113 = some (.ireturn, 1, 0, 0, 0, []) := by decide +kernel
theorem f112_0 : pm_f 112 0 = some (.iload_n 0, 1, 0, 0, 0, []) := by decide +kernel
theorem f112_1 : pm_f 112 1 = some (.iload_n 1, 1, 1, 0, 0, []) := by decide +kernel
theorem f112_2 : pm_f 112 2 = some (.if_icmp .lt 12, 3, 14, 0, 0, []) := by decide +kernel
theorem f112_5 : pm_f 112 5 = some (.iload_n 0, 1, 0, 0, 0, []) := by decide +kernel
theorem f112_6 : pm_f 112 6 = some (.iload_n 2, 1, 2, 0, 0, []) := by decide +kernel
theorem f112_7 : pm_f 112 7 = some (.if_icmp .gt 7, 3, 14, 0, 0, []) := by decide +kernel
theorem f112_10 : pm_f 112 10 = some (.iconst 1, 1, 0, 0, 1, []) := by decide +kernel
theorem f112_11 : pm_f 112 11 = some (.goto 4, 3, 15, 0, 0, []) := by decide +kernel
theorem f112_14 : pm_f 112 14 = some (.iconst 0, 1, 0, 0, 0, []) := by decide +kernel
theorem f112_15 : pm_f 112 15 = some (.ireturn, 1, 0, 0, 1, []) := by decide +kernel
theorem f113_0 : pm_f 113 0 = some (.iload_n 0, 1, 0, 0, 0, []) := by decide +kernel
theorem f113_1 : pm_f 113 1 = some (.iconst 0, 1, 0, 0, 0, []) := by decide +kernel
theorem f113_2 : pm_f 113 2 = some (.bipush 19, 2, 0, 0, 19, []) := by decide +kernel
theorem f113_4 : pm_f 113 4 = some (.invokestatic 92, 3, 112, 3, 0, []) := by decide +kernel
theorem f113_7 : pm_f 113 7 = some (.ireturn, 1, 0, 0, 1, []) := by decide +kernel
theorem f114_0 : pm_f 114 0 = some (.iload_n 0, 1, 0, 0, 0, []) := by decide +kernel
theorem f114_1 : pm_f 114 1 = some (.iconst 0, 1, 0, 0, 0, []) := by decide +kernel
theorem f114_2 : pm_f 114 2 = some (.bipush 99, 2, 0, 0, 99, []) := by decide +kernel
theorem f114_4 : pm_f 114 4 = some (.invokestatic 92, 3, 112, 3, 0, []) := by decide +kernel
theorem f114_7 : pm_f 114 7 = some (.ireturn, 1, 0, 0, 1, []) := by decide +kernel
theorem f115_0 : pm_f 115 0 = some (.iload_n 0, 1, 0, 0, 0, []) := by decide +kernel
theorem f115_1 : pm_f 115 1 = some (.iconst 1, 1, 0, 0, 1, []) := by decide +kernel
theorem f115_2 : pm_f 115 2 = some (.sipush 200, 3, 0, 0, 200, []) := by decide +kernel
theorem f115_5 : pm_f 115 5 = some (.invokestatic 92, 3, 112, 3, 0, []) := by decide +kernel
theorem f115_8 : pm_f 115 8 = some (.ireturn, 1, 0, 0, 1, []) := by decide +kernel
theorem f116_0 : pm_f 116 0 = some (.iload_n 0, 1, 0, 0, 0, []) := by decide +kernel
theorem f116_1 : pm_f 116 1 = some (.iconst 0, 1, 0, 0, 0, []) := by decide +kernel
theorem f116_2 : pm_f 116 2 = some (.iconst 5, 1, 0, 0, 5, []) := by decide +kernel
theorem f116_3 : pm_f 116 3 = some (.invokestatic 92, 3, 112, 3, 0, []) := by decide +kernel
theorem f116_6 : pm_f 116 6 = some (.ireturn, 1, 0, 0, 1, []) := by decide +kernel
theorem f117_0 : pm_f 117 0 = some (.iload_n 1, 1, 1, 0, 0, []) := by decide +kernel
theorem f117_1 : pm_f 117 1 = some (.iload_n 2, 1, 2, 0, 0, []) := by decide +kernel
theorem f117_2 : pm_f 117 2 = some (.iload_n 0, 1, 0, 0, 0, []) := by decide +kernel
theorem f117_3 : pm_f 117 3 = some (.invokestatic 330, 3, 0, 0, 2, []) := by decide +kernel
theorem f117_6 : pm_f 117 6 = some (.invokestatic 335, 3, 0, 0, 1, []) := by decide +kernel
theorem f117_9 : pm_f 117 9 = some (.ireturn, 1, 0, 0, 0, []) := by decide +kernel
theorem f118_0 : pm_f 118 0 = some (.iload_n 1, 1, 1, 0, 0, []) := by decide +kernel
theorem f118_1 : pm_f 118 1 = some (.iconst 0, 1, 0, 0, 0, []) := by decide +kernel
theorem f118_2 : pm_f 118 2 = some (.aload_n 0, 1, 0, 0, 0, []) := by decide +kernel
theorem f118_3 : pm_f 118 3 = some (.arraylength, 1, 0, 0, 0, []) := by decide +kernel
theorem f118_4 : pm_f 118 4 = some (.iconst 1, 1, 0, 0, 1, []) := by decide +kernel
theorem f118_5 : pm_f 118 5 = some (.isub, 1, 0, 0, 0, []) := by decide +kernel
theorem f118_6 : pm_f 118 6 = some (.invokestatic 92, 3, 112, 3, 0, []) := by decide +kernel
theorem f118_9 : pm_f 118 9 = some (.ifCond .ne 5, 3, 14, 0, 0, []) := by decide +kernel
theorem f118_12 : pm_f 118 12 = some (.iconst (-1), 1, 0, 0, (-1), []) := by decide +kernel
theorem f118_13 : pm_f 118 13 = some (.ireturn, 1, 0, 0, 0, []) := by decide +kernel
theorem f118_14 : pm_f 118 14 = some (.aload_n 0, 1, 0, 0, 0, []) := by decide +kernel
theorem f118_15 : pm_f 118 15 = some (.iload_n 1, 1, 1, 0, 0, []) := by decide +kernel
theorem f118_16 : pm_f 118 16 = some (.iaload, 1, 0, 0, 0, []) := by decide +kernel
theorem f118_17 : pm_f 118 17 = some (.istore_n 3, 1, 3, 0, 0, []) := by decide +kernel
theorem f118_18 : pm_f 118 18 = some (.aload_n 0, 1, 0, 0, 0, []) := by decide +kernel
theorem f118_19 : pm_f 118 19 = some (.iload_n 1, 1, 1, 0, 0, []) := by decide +kernel
theorem f118_20 : pm_f 118 20 = some (.iload_n 2, 1, 2, 0, 0, []) := by decide +kernel
theorem f118_21 : pm_f 118 21 = some (.iastore, 1, 0, 0, 0, []) := by decide +kernel
theorem f118_22 : pm_f 118 22 = some (.iload_n 3, 1, 3, 0, 0, []) := by decide +kernel
theorem f118_23 : pm_f 118 23 = some (.ireturn, 1, 0, 0, 0, []) := by decide +kernel
theorem f119_0 : pm_f 119 0 = some (.iload_n 0, 1, 0, 0, 0, []) := by decide +kernel
theorem f119_1 : pm_f 119 1 = some (.istore_n 2, 1, 2, 0, 0, []) := by decide +kernel
theorem f119_2 : pm_f 119 2 = some (.iconst 0, 1, 0, 0, 0, []) := by decide +kernel
theorem f119_3 : pm_f 119 3 = some (.istore_n 3, 1, 3, 0, 0, []) := by decide +kernel
theorem f119_4 : pm_f 119 4 = some (.iload_n 3, 1, 3, 0, 0, []) := by decide +kernel
theorem f119_5 : pm_f 119 5 = some (.bipush 7, 2, 0, 0, 7, []) := by decide +kernel
theorem f119_7 : pm_f 119 7 = some (.if_icmp .ge 32, 3, 39, 0, 0, []) := by decide +kernel
theorem f119_10 : pm_f 119 10 = some (.iload_n 2, 1, 2, 0, 0, []) := by decide +kernel
theorem f119_11 : pm_f 119 11 = some (.iconst 0, 1, 0, 0, 0, []) := by decide +kernel
theorem f119_12 : pm_f 119 12 = some (.bipush 6, 2, 0, 0, 6, []) := by decide +kernel
theorem f119_14 : pm_f 119 14 = some (.invokestatic 92, 3, 112, 3, 0, []) := by decide +kernel
theorem f119_17 : pm_f 119 17 = some (.ifCond .eq 22, 3, 39, 0, 0, []) := by decide +kernel
theorem f119_20 : pm_f 119 20 = some (.iload_n 2, 1, 2, 0, 0, []) := by decide +kernel
theorem f119_21 : pm_f 119 21 = some (.iload_n 1, 1, 1, 0, 0, []) := by decide +kernel
theorem f119_22 : pm_f 119 22 = some (.if_icmp .ne 5, 3, 27, 0, 0, []) := by decide +kernel
theorem f119_25 : pm_f 119 25 = some (.iconst 1, 1, 0, 0, 1, []) := by decide +kernel
theorem f119_26 : pm_f 119 26 = some (.ireturn, 1, 0, 0, 1, []) := by decide +kernel
theorem f119_27 : pm_f 119 27 = some (.getstatic 338, 3, 1000001, 0, 1, []) := by decide +kernel
theorem f119_30 : pm_f 119 30 = some (.iload_n 2, 1, 2, 0, 0, []) := by decide +kernel
theorem f119_31 : pm_f 119 31 = some (.iaload, 1, 1, 0, 0, []) := by decide +kernel
theorem f119_32 : pm_f 119 32 = some (.istore_n 2, 1, 2, 0, 0, []) := by decide +kernel
theorem f119_33 : pm_f 119 33 = some (.iinc 3 1, 3, 3, 0, 1, []) := by decide +kernel
theorem f119_36 : pm_f 119 36 = some (.goto (-32), 3, 4, 0, 0, []) := by decide +kernel
theorem f119_39 : pm_f 119 39 = some (.iconst 0, 1, 0, 0, 0, []) := by decide +kernel
theorem f119_40 : pm_f 119 40 = some (.ireturn, 1, 0, 0, 1, []) := by decide +kernel
theorem f120_0 : pm_f 120 0 = some (.iload_n 1, 1, 1, 0, 0, []) := by decide +kernel
theorem f120_1 : pm_f 120 1 = some (.istore_n 3, 1, 3, 0, 0, []) := by decide +kernel
theorem f120_2 : pm_f 120 2 = some (.iload_n 3, 1, 3, 0, 0, []) := by decide +kernel
theorem f120_3 : pm_f 120 3 = some (.iconst 1, 1, 0, 0, 1, []) := by decide +kernel
theorem f120_4 : pm_f 120 4 = some (.if_icmp .le 35, 3, 39, 0, 0, []) := by decide +kernel
theorem f120_7 : pm_f 120 7 = some (.iload_n 0, 1, 0, 0, 0, []) := by decide +kernel
theorem f120_8 : pm_f 120 8 = some (.iload_n 3, 1, 3, 0, 0, []) := by decide +kernel
theorem f120_9 : pm_f 120 9 = some (.irem, 1, 0, 0, 0, []) := by decide +kernel
theorem f120_10 : pm_f 120 10 = some (.ifCond .ne 23, 3, 33, 0, 0, []) := by decide +kernel
theorem f120_13 : pm_f 120 13 = some (.iload_n 1, 1, 1, 0, 0, []) := by decide +kernel
theorem f120_14 : pm_f 120 14 = some (.iload_n 3, 1, 3, 0, 0, []) := by decide +kernel
theorem f120_15 : pm_f 120 15 = some (.irem, 1, 0, 0, 0, []) := by decide +kernel
theorem f120_16 : pm_f 120 16 = some (.ifCond .ne 17, 3, 33, 0, 0, []) := by decide +kernel
theorem f120_19 : pm_f 120 19 = some (.iload_n 2, 1, 2, 0, 0, []) := by decide +kernel
theorem f120_20 : pm_f 120 20 = some (.ifCond .ne 9, 3, 29, 0, 0, []) := by decide +kernel
theorem f120_23 : pm_f 120 23 = some (.iload_n 0, 1, 0, 0, 0, []) := by decide +kernel
theorem f120_24 : pm_f 120 24 = some (.iload_n 3, 1, 3, 0, 0, []) := by decide +kernel
theorem f120_25 : pm_f 120 25 = some (.idiv, 1, 0, 0, 0, []) := by decide +kernel
theorem f120_26 : pm_f 120 26 = some (.goto 6, 3, 32, 0, 0, []) := by decide +kernel
theorem f120_29 : pm_f 120 29 = some (.iload_n 1, 1, 1, 0, 0, []) := by decide +kernel
theorem f120_30 : pm_f 120 30 = some (.iload_n 3, 1, 3, 0, 0, []) := by decide +kernel
theorem f120_31 : pm_f 120 31 = some (.idiv, 1, 0, 0, 0, []) := by decide +kernel
theorem f120_32 : pm_f 120 32 = some (.ireturn, 1, 0, 0, 0, []) := by decide +kernel
theorem f120_33 : pm_f 120 33 = some (.iinc 3 (-1), 3, 3, 0, (-1), []) := by decide +kernel
theorem f120_36 : pm_f 120 36 = some (.goto (-34), 3, 2, 0, 0, []) := by decide +kernel
theorem f120_39 : pm_f 120 39 = some (.iload_n 2, 1, 2, 0, 0, []) := by decide +kernel
theorem f120_40 : pm_f 120 40 = some (.ifCond .ne 7, 3, 47, 0, 0, []) := by decide +kernel
theorem f120_43 : pm_f 120 43 = some (.iload_n 0, 1, 0, 0, 0, []) := by decide +kernel
theorem f120_44 : pm_f 120 44 = some (.goto 4, 3, 48, 0, 0, []) := by decide +kernel
theorem f120_47 : pm_f 120 47 = some (.iload_n 1, 1, 1, 0, 0, []) := by decide +kernel
theorem f120_48 : pm_f 120 48 = some (.ireturn, 1, 0, 0, 0, []) := by decide +kernel
theorem f121_0 : pm_f 121 0 = some (.aload_n 0, 1, 0, 0, 0, []) := by decide +kernel
theorem f121_1 : pm_f 121 1 = some (.invokespecial 1, 3, 0, 0, (-1), []) := by decide +kernel
theorem f121_4 : pm_f 121 4 = some (.aload_n 0, 1, 0, 0, 0, []) := by decide +kernel
theorem f121_5 : pm_f 121 5 = some (.iconst 0, 1, 0, 0, 0, []) := by decide +kernel
theorem f121_6 : pm_f 121 6 = some (.putfield 7, 3, 8, 0, 0, []) := by decide +kernel
theorem f121_9 : pm_f 121 9 = some (.aload_n 0, 1, 0, 0, 0, []) := by decide +kernel
theorem f121_10 : pm_f 121 10 = some (.iconst 0, 1, 0, 0, 0, []) := by decide +kernel
theorem f121_11 : pm_f 121 11 = some (.putfield 13, 3, 8, 1, 0, []) := by decide +kernel
theorem f121_14 : pm_f 121 14 = some (.aload_n 0, 1, 0, 0, 0, []) := by decide +kernel
theorem f121_15 : pm_f 121 15 = some (.iconst 0, 1, 0, 0, 0, []) := by decide +kernel
theorem f121_16 : pm_f 121 16 = some (.putfield 16, 3, 8, 2, 0, []) := by decide +kernel
theorem f121_19 : pm_f 121 19 = some (.aload_n 0, 1, 0, 0, 0, []) := by decide +kernel
theorem f121_20 : pm_f 121 20 = some (.iconst 0, 1, 0, 0, 0, []) := by decide +kernel
theorem f121_21 : pm_f 121 21 = some (.putfield 19, 3, 8, 3, 0, []) := by decide +kernel
theorem f121_24 : pm_f 121 24 = some (.aload_n 0, 1, 0, 0, 0, []) := by decide +kernel
theorem f121_25 : pm_f 121 25 = some (.bipush 6, 2, 0, 0, 6, []) := by decide +kernel
theorem f121_27 : pm_f 121 27 = some (.newarray .int, 2, 1, 0, 0, []) := by decide +kernel
theorem f121_29 : pm_f 121 29 = some (.putfield 22, 3, 8, 4, 2, []) := by decide +kernel
theorem f121_32 : pm_f 121 32 = some (.aload_n 0, 1, 0, 0, 0, []) := by decide +kernel
theorem f121_33 : pm_f 121 33 = some (.bipush 6, 2, 0, 0, 6, []) := by decide +kernel
theorem f121_35 : pm_f 121 35 = some (.newarray .int, 2, 1, 0, 0, []) := by decide +kernel
theorem f121_37 : pm_f 121 37 = some (.putfield 26, 3, 8, 5, 2, []) := by decide +kernel
theorem f121_40 : pm_f 121 40 = some (.aload_n 0, 1, 0, 0, 0, []) := by decide +kernel
theorem f121_41 : pm_f 121 41 = some (.bipush 6, 2, 0, 0, 6, []) := by decide +kernel
theorem f121_43 : pm_f 121 43 = some (.newarray .int, 2, 1, 0, 0, []) := by decide +kernel
theorem f121_45 : pm_f 121 45 = some (.putfield 29, 3, 8, 6, 2, []) := by decide +kernel
theorem f121_48 : pm_f 121 48 = some (.aload_n 0, 1, 0, 0, 0, []) := by decide +kernel
theorem f121_49 : pm_f 121 49 = some (.bipush 6, 2, 0, 0, 6, []) := by decide +kernel
theorem f121_51 : pm_f 121 51 = some (.newarray .int, 2, 1, 0, 0, []) := by decide +kernel
theorem f121_53 : pm_f 121 53 = some (.putfield 32, 3, 8, 7, 2, []) := by decide +kernel
theorem f121_56 : pm_f 121 56 = some (.aload_n 0, 1, 0, 0, 0, []) := by decide +kernel
theorem f121_57 : pm_f 121 57 = some (.bipush 6, 2, 0, 0, 6, []) := by decide +kernel
theorem f121_59 : pm_f 121 59 = some (.newarray .int, 2, 1, 0, 0, []) := by decide +kernel
theorem f121_61 : pm_f 121 61 = some (.putfield 35, 3, 8, 8, 2, []) := by decide +kernel
theorem f121_64 : pm_f 121 64 = some (.aload_n 0, 1, 0, 0, 0, []) := by decide +kernel
theorem f121_65 : pm_f 121 65 = some (.bipush 24, 2, 0, 0, 24, []) := by decide +kernel
theorem f121_67 : pm_f 121 67 = some (.newarray .int, 2, 1, 0, 0, []) := by decide +kernel
theorem f121_69 : pm_f 121 69 = some (.putfield 38, 3, 8, 9, 2, []) := by decide +kernel
theorem f121_72 : pm_f 121 72 = some (.aload_n 0, 1, 0, 0, 0, []) := by decide +kernel
theorem f121_73 : pm_f 121 73 = some (.iconst 0, 1, 0, 0, 0, []) := by decide +kernel
theorem f121_74 : pm_f 121 74 = some (.putfield 41, 3, 8, 10, 0, []) := by decide +kernel
theorem f121_77 : pm_f 121 77 = some (.aload_n 0, 1, 0, 0, 0, []) := by decide +kernel
theorem f121_78 : pm_f 121 78 = some (.iconst (-1), 1, 0, 0, (-1), []) := by decide +kernel
theorem f121_79 : pm_f 121 79 = some (.putfield 44, 3, 8, 11, 0, []) := by decide +kernel
theorem f121_82 : pm_f 121 82 = some (.aload_n 0, 1, 0, 0, 0, []) := by decide +kernel
theorem f121_83 : pm_f 121 83 = some (.iconst 0, 1, 0, 0, 0, []) := by decide +kernel
theorem f121_84 : pm_f 121 84 = some (.putfield 47, 3, 8, 12, 0, []) := by decide +kernel
theorem f121_87 : pm_f 121 87 = some (.aload_n 0, 1, 0, 0, 0, []) := by decide +kernel
theorem f121_88 : pm_f 121 88 = some (.iconst 0, 1, 0, 0, 0, []) := by decide +kernel
theorem f121_89 : pm_f 121 89 = some (.putfield 50, 3, 8, 13, 0, []) := by decide +kernel
theorem f121_92 : pm_f 121 92 = some (.aload_n 0, 1, 0, 0, 0, []) := by decide +kernel
theorem f121_93 : pm_f 121 93 = some (.iconst 0, 1, 0, 0, 0, []) := by decide +kernel
theorem f121_94 : pm_f 121 94 = some (.putfield 53, 3, 8, 14, 0, []) := by decide +kernel
theorem f121_97 : pm_f 121 97 = some (.aload_n 0, 1, 0, 0, 0, []) := by decide +kernel
theorem f121_98 : pm_f 121 98 = some (.bipush 100, 2, 0, 0, 100, []) := by decide +kernel
theorem f121_100 : pm_f 121 100 = some (.newarray .int, 2, 1, 0, 0, []) := by decide +kernel
theorem f121_102 : pm_f 121 102 = some (.putfield 56, 3, 8, 15, 2, []) := by decide +kernel
theorem f121_105 : pm_f 121 105 = some (.aload_n 0, 1, 0, 0, 0, []) := by decide +kernel
theorem f121_106 : pm_f 121 106 = some (.bipush 6, 2, 0, 0, 6, []) := by decide +kernel
theorem f121_108 : pm_f 121 108 = some (.newarray .int, 2, 1, 0, 0, []) := by decide +kernel
theorem f121_110 : pm_f 121 110 = some (.putfield 59, 3, 8, 16, 2, []) := by decide +kernel
theorem f121_113 : pm_f 121 113 = some (.aload_n 0, 1, 0, 0, 0, []) := by decide +kernel
theorem f121_114 : pm_f 121 114 = some (.bipush 60, 2, 0, 0, 60, []) := by decide +kernel
theorem f121_116 : pm_f 121 116 = some (.newarray .int, 2, 1, 0, 0, []) := by decide +kernel
theorem f121_118 : pm_f 121 118 = some (.putfield 62, 3, 8, 17, 2, []) := by decide +kernel
theorem f121_121 : pm_f 121 121 = some (.aload_n 0, 1, 0, 0, 0, []) := by decide +kernel
theorem f121_122 : pm_f 121 122 = some (.bipush 60, 2, 0, 0, 60, []) := by decide +kernel
theorem f121_124 : pm_f 121 124 = some (.newarray .int, 2, 1, 0, 0, []) := by decide +kernel
theorem f121_126 : pm_f 121 126 = some (.putfield 65, 3, 8, 18, 2, []) := by decide +kernel
theorem f121_129 : pm_f 121 129 = some (.aload_n 0, 1, 0, 0, 0, []) := by decide +kernel
theorem f121_130 : pm_f 121 130 = some (.bipush 60, 2, 0, 0, 60, []) := by decide +kernel
theorem f121_132 : pm_f 121 132 = some (.newarray .int, 2, 1, 0, 0, []) := by decide +kernel
theorem f121_134 : pm_f 121 134 = some (.putfield 68, 3, 8, 19, 2, []) := by decide +kernel
theorem f121_137 : pm_f 121 137 = some (.aload_n 0, 1, 0, 0, 0, []) := by decide +kernel
theorem f121_138 : pm_f 121 138 = some (.bipush 60, 2, 0, 0, 60, []) := by decide +kernel
theorem f121_140 : pm_f 121 140 = some (.newarray .int, 2, 1, 0, 0, []) := by decide +kernel
theorem f121_142 : pm_f 121 142 = some (.putfield 71, 3, 8, 20, 2, []) := by decide +kernel
theorem f121_145 : pm_f 121 145 = some (.aload_n 0, 1, 0, 0, 0, []) := by decide +kernel
theorem f121_146 : pm_f 121 146 = some (.sipush 600, 3, 0, 0, 600, []) := by decide +kernel
theorem f121_149 : pm_f 121 149 = some (.newarray .int, 2, 1, 0, 0, []) := by decide +kernel
theorem f121_151 : pm_f 121 151 = some (.putfield 74, 3, 8, 21, 2, []) := by decide +kernel
theorem f121_154 : pm_f 121 154 = some (.aload_n 0, 1, 0, 0, 0, []) := by decide +kernel
theorem f121_155 : pm_f 121 155 = some (.bipush 101, 2, 0, 0, 101, []) := by decide +kernel
theorem f121_157 : pm_f 121 157 = some (.newarray .int, 2, 1, 0, 0, []) := by decide +kernel
theorem f121_159 : pm_f 121 159 = some (.putfield 77, 3, 8, 22, 2, []) := by decide +kernel
theorem f121_162 : pm_f 121 162 = some (.aload_n 0, 1, 0, 0, 0, []) := by decide +kernel
theorem f121_163 : pm_f 121 163 = some (.iconst 0, 1, 0, 0, 0, []) := by decide +kernel
theorem f121_164 : pm_f 121 164 = some (.putfield 80, 3, 8, 23, 0, []) := by decide +kernel
theorem f121_167 : pm_f 121 167 = some (.aload_n 0, 1, 0, 0, 0, []) := by decide +kernel
theorem f121_168 : pm_f 121 168 = some (.iconst 0, 1, 0, 0, 0, []) := by decide +kernel
theorem f121_169 : pm_f 121 169 = some (.putfield 83, 3, 8, 24, 0, []) := by decide +kernel
theorem f121_172 : pm_f 121 172 = some (.aload_n 0, 1, 0, 0, 0, []) := by decide +kernel
theorem f121_173 : pm_f 121 173 = some (.iconst 0, 1, 0, 0, 0, []) := by decide +kernel
theorem f121_174 : pm_f 121 174 = some (.putfield 86, 3, 8, 25, 0, []) := by decide +kernel
theorem f121_177 : pm_f 121 177 = some (.aload_n 0, 1, 0, 0, 0, []) := by decide +kernel
theorem f121_178 : pm_f 121 178 = some (.bipush 23, 2, 0, 0, 23, []) := by decide +kernel
theorem f121_180 : pm_f 121 180 = some (.newarray .int, 2, 1, 0, 0, []) := by decide +kernel
theorem f121_182 : pm_f 121 182 = some (.dup, 1, 0, 0, 0, []) := by decide +kernel
theorem f121_183 : pm_f 121 183 = some (.iconst 0, 1, 0, 0, 0, []) := by decide +kernel
theorem f121_184 : pm_f 121 184 = some (.bipush 108, 2, 0, 0, 108, []) := by decide +kernel
theorem f121_186 : pm_f 121 186 = some (.iastore, 1, 0, 0, 0, []) := by decide +kernel
theorem f121_187 : pm_f 121 187 = some (.dup, 1, 0, 0, 0, []) := by decide +kernel
theorem f121_188 : pm_f 121 188 = some (.iconst 1, 1, 0, 0, 1, []) := by decide +kernel
theorem f121_189 : pm_f 121 189 = some (.bipush 111, 2, 0, 0, 111, []) := by decide +kernel
theorem f121_191 : pm_f 121 191 = some (.iastore, 1, 0, 0, 0, []) := by decide +kernel
theorem f121_192 : pm_f 121 192 = some (.dup, 1, 0, 0, 0, []) := by decide +kernel
theorem f121_193 : pm_f 121 193 = some (.iconst 2, 1, 0, 0, 2, []) := by decide +kernel
theorem f121_194 : pm_f 121 194 = some (.bipush 117, 2, 0, 0, 117, []) := by decide +kernel
theorem f121_196 : pm_f 121 196 = some (.iastore, 1, 0, 0, 0, []) := by decide +kernel
theorem f121_197 : pm_f 121 197 = some (.dup, 1, 0, 0, 0, []) := by decide +kernel
theorem f121_198 : pm_f 121 198 = some (.iconst 3, 1, 0, 0, 3, []) := by decide +kernel
theorem f121_199 : pm_f 121 199 = some (.bipush 100, 2, 0, 0, 100, []) := by decide +kernel
theorem f121_201 : pm_f 121 201 = some (.iastore, 1, 0, 0, 0, []) := by decide +kernel
theorem f121_202 : pm_f 121 202 = some (.dup, 1, 0, 0, 0, []) := by decide +kernel
theorem f121_203 : pm_f 121 203 = some (.iconst 4, 1, 0, 0, 4, []) := by decide +kernel
theorem f121_204 : pm_f 121 204 = some (.bipush 101, 2, 0, 0, 101, []) := by decide +kernel
theorem f121_206 : pm_f 121 206 = some (.iastore, 1, 0, 0, 0, []) := by decide +kernel
theorem f121_207 : pm_f 121 207 = some (.dup, 1, 0, 0, 0, []) := by decide +kernel
theorem f121_208 : pm_f 121 208 = some (.iconst 5, 1, 0, 0, 5, []) := by decide +kernel
theorem f121_209 : pm_f 121 209 = some (.bipush 114, 2, 0, 0, 114, []) := by decide +kernel
theorem f121_211 : pm_f 121 211 = some (.iastore, 1, 0, 0, 0, []) := by decide +kernel
theorem f121_212 : pm_f 121 212 = some (.dup, 1, 0, 0, 0, []) := by decide +kernel
theorem f121_213 : pm_f 121 213 = some (.bipush 6, 2, 0, 0, 6, []) := by decide +kernel
theorem f121_215 : pm_f 121 215 = some (.bipush 115, 2, 0, 0, 115, []) := by decide +kernel
theorem f121_217 : pm_f 121 217 = some (.iastore, 1, 0, 0, 0, []) := by decide +kernel
theorem f121_218 : pm_f 121 218 = some (.dup, 1, 0, 0, 0, []) := by decide +kernel
theorem f121_219 : pm_f 121 219 = some (.bipush 7, 2, 0, 0, 7, []) := by decide +kernel
theorem f121_221 : pm_f 121 221 = some (.bipush 111, 2, 0, 0, 111, []) := by decide +kernel
theorem f121_223 : pm_f 121 223 = some (.iastore, 1, 0, 0, 0, []) := by decide +kernel
theorem f121_224 : pm_f 121 224 = some (.dup, 1, 0, 0, 0, []) := by decide +kernel
theorem f121_225 : pm_f 121 225 = some (.bipush 8, 2, 0, 0, 8, []) := by decide +kernel
theorem f121_227 : pm_f 121 227 = some (.bipush 102, 2, 0, 0, 102, []) := by decide +kernel
theorem f121_229 : pm_f 121 229 = some (.iastore, 1, 0, 0, 0, []) := by decide +kernel
theorem f121_230 : pm_f 121 230 = some (.dup, 1, 0, 0, 0, []) := by decide +kernel
theorem f121_231 : pm_f 121 231 = some (.bipush 9, 2, 0, 0, 9, []) := by decide +kernel
theorem f121_233 : pm_f 121 233 = some (.bipush 116, 2, 0, 0, 116, []) := by decide +kernel
theorem f121_235 : pm_f 121 235 = some (.iastore, 1, 0, 0, 0, []) := by decide +kernel
theorem f121_236 : pm_f 121 236 = some (.dup, 1, 0, 0, 0, []) := by decide +kernel
theorem f121_237 : pm_f 121 237 = some (.bipush 10, 2, 0, 0, 10, []) := by decide +kernel
theorem f121_239 : pm_f 121 239 = some (.bipush 101, 2, 0, 0, 101, []) := by decide +kernel
theorem f121_241 : pm_f 121 241 = some (.iastore, 1, 0, 0, 0, []) := by decide +kernel
theorem f121_242 : pm_f 121 242 = some (.dup, 1, 0, 0, 0, []) := by decide +kernel
theorem f121_243 : pm_f 121 243 = some (.bipush 11, 2, 0, 0, 11, []) := by decide +kernel
theorem f121_245 : pm_f 121 245 = some (.bipush 114, 2, 0, 0, 114, []) := by decide +kernel
theorem f121_247 : pm_f 121 247 = some (.iastore, 1, 0, 0, 0, []) := by decide +kernel
theorem f121_248 : pm_f 121 248 = some (.dup, 1, 0, 0, 0, []) := by decide +kernel
theorem f121_249 : pm_f 121 249 = some (.bipush 12, 2, 0, 0, 12, []) := by decide +kernel
theorem f121_251 : pm_f 121 251 = some (.bipush 115, 2, 0, 0, 115, []) := by decide +kernel
theorem f121_253 : pm_f 121 253 = some (.iastore, 1, 0, 0, 0, []) := by decide +kernel
theorem f121_254 : pm_f 121 254 = some (.dup, 1, 0, 0, 0, []) := by decide +kernel
theorem f121_255 : pm_f 121 255 = some (.bipush 13, 2, 0, 0, 13, []) := by decide +kernel
theorem f121_257 : pm_f 121 257 = some (.bipush 116, 2, 0, 0, 116, []) := by decide +kernel
theorem f121_259 : pm_f 121 259 = some (.iastore, 1, 0, 0, 0, []) := by decide +kernel
theorem f121_260 : pm_f 121 260 = some (.dup, 1, 0, 0, 0, []) := by decide +kernel
theorem f121_261 : pm_f 121 261 = some (.bipush 14, 2, 0, 0, 14, []) := by decide +kernel
theorem f121_263 : pm_f 121 263 = some (.bipush 101, 2, 0, 0, 101, []) := by decide +kernel
theorem f121_265 : pm_f 121 265 = some (.iastore, 1, 0, 0, 0, []) := by decide +kernel
theorem f121_266 : pm_f 121 266 = some (.dup, 1, 0, 0, 0, []) := by decide +kernel
theorem f121_267 : pm_f 121 267 = some (.bipush 15, 2, 0, 0, 15, []) := by decide +kernel
theorem f121_269 : pm_f 121 269 = some (.bipush 112, 2, 0, 0, 112, []) := by decide +kernel
theorem f121_271 : pm_f 121 271 = some (.iastore, 1, 0, 0, 0, []) := by decide +kernel
theorem f121_272 : pm_f 121 272 = some (.dup, 1, 0, 0, 0, []) := by decide +kernel
theorem f121_273 : pm_f 121 273 = some (.bipush 16, 2, 0, 0, 16, []) := by decide +kernel
theorem f121_275 : pm_f 121 275 = some (.bipush 119, 2, 0, 0, 119, []) := by decide +kernel
theorem f121_277 : pm_f 121 277 = some (.iastore, 1, 0, 0, 0, []) := by decide +kernel
theorem f121_278 : pm_f 121 278 = some (.dup, 1, 0, 0, 0, []) := by decide +kernel
theorem f121_279 : pm_f 121 279 = some (.bipush 17, 2, 0, 0, 17, []) := by decide +kernel
theorem f121_281 : pm_f 121 281 = some (.bipush 97, 2, 0, 0, 97, []) := by decide +kernel
theorem f121_283 : pm_f 121 283 = some (.iastore, 1, 0, 0, 0, []) := by decide +kernel
theorem f121_284 : pm_f 121 284 = some (.dup, 1, 0, 0, 0, []) := by decide +kernel
theorem f121_285 : pm_f 121 285 = some (.bipush 18, 2, 0, 0, 18, []) := by decide +kernel
theorem f121_287 : pm_f 121 287 = some (.bipush 107, 2, 0, 0, 107, []) := by decide +kernel
theorem f121_289 : pm_f 121 289 = some (.iastore, 1, 0, 0, 0, []) := by decide +kernel
theorem f121_290 : pm_f 121 290 = some (.dup, 1, 0, 0, 0, []) := by decide +kernel
theorem f121_291 : pm_f 121 291 = some (.bipush 19, 2, 0, 0, 19, []) := by decide +kernel
theorem f121_293 : pm_f 121 293 = some (.bipush 101, 2, 0, 0, 101, []) := by decide +kernel
theorem f121_295 : pm_f 121 295 = some (.iastore, 1, 0, 0, 0, []) := by decide +kernel
theorem f121_296 : pm_f 121 296 = some (.dup, 1, 0, 0, 0, []) := by decide +kernel
theorem f121_297 : pm_f 121 297 = some (.bipush 20, 2, 0, 0, 20, []) := by decide +kernel
theorem f121_299 : pm_f 121 299 = some (.bipush 112, 2, 0, 0, 112, []) := by decide +kernel
theorem f121_301 : pm_f 121 301 = some (.iastore, 1, 0, 0, 0, []) := by decide +kernel
theorem f121_302 : pm_f 121 302 = some (.dup, 1, 0, 0, 0, []) := by decide +kernel
theorem f121_303 : pm_f 121 303 = some (.bipush 21, 2, 0, 0, 21, []) := by decide +kernel
theorem f121_305 : pm_f 121 305 = some (.bipush 97, 2, 0, 0, 97, []) := by decide +kernel
theorem f121_307 : pm_f 121 307 = some (.iastore, 1, 0, 0, 0, []) := by decide +kernel
theorem f121_308 : pm_f 121 308 = some (.dup, 1, 0, 0, 0, []) := by decide +kernel
theorem f121_309 : pm_f 121 309 = some (.bipush 22, 2, 0, 0, 22, []) := by decide +kernel
theorem f121_311 : pm_f 121 311 = some (.bipush 121, 2, 0, 0, 121, []) := by decide +kernel
theorem f121_313 : pm_f 121 313 = some (.iastore, 1, 0, 0, 0, []) := by decide +kernel
theorem f121_314 : pm_f 121 314 = some (.putfield 89, 3, 8, 26, 2, []) := by decide +kernel
theorem f121_317 : pm_f 121 317 = some (.aload_n 0, 1, 0, 0, 0, []) := by decide +kernel
theorem f121_318 : pm_f 121 318 = some (.bipush 100, 2, 0, 0, 100, []) := by decide +kernel
theorem f121_320 : pm_f 121 320 = some (.newarray .boolean, 2, 2, 0, 0, []) := by decide +kernel
theorem f121_322 : pm_f 121 322 = some (.putfield 92, 3, 8, 27, 2, []) := by decide +kernel
theorem f121_325 : pm_f 121 325 = some (.aload_n 0, 1, 0, 0, 0, []) := by decide +kernel
theorem f121_326 : pm_f 121 326 = some (.bipush 6, 2, 0, 0, 6, []) := by decide +kernel
theorem f121_328 : pm_f 121 328 = some (.newarray .int, 2, 1, 0, 0, []) := by decide +kernel
theorem f121_330 : pm_f 121 330 = some (.putfield 96, 3, 8, 28, 2, []) := by decide +kernel
theorem f121_333 : pm_f 121 333 = some (.aload_n 0, 1, 0, 0, 0, []) := by decide +kernel
theorem f121_334 : pm_f 121 334 = some (.bipush 6, 2, 0, 0, 6, []) := by decide +kernel
theorem f121_336 : pm_f 121 336 = some (.newarray .int, 2, 1, 0, 0, []) := by decide +kernel
theorem f121_338 : pm_f 121 338 = some (.putfield 99, 3, 8, 29, 2, []) := by decide +kernel
theorem f121_341 : pm_f 121 341 = some (.aload_n 0, 1, 0, 0, 0, []) := by decide +kernel
theorem f121_342 : pm_f 121 342 = some (.iconst 0, 1, 0, 0, 0, []) := by decide +kernel
theorem f121_343 : pm_f 121 343 = some (.putfield 102, 3, 8, 30, 0, []) := by decide +kernel
theorem f121_346 : pm_f 121 346 = some (.aload_n 0, 1, 0, 0, 0, []) := by decide +kernel
theorem f121_347 : pm_f 121 347 = some (.iconst 0, 1, 0, 0, 0, []) := by decide +kernel
theorem f121_348 : pm_f 121 348 = some (.putfield 105, 3, 8, 31, 0, []) := by decide +kernel
theorem f121_351 : pm_f 121 351 = some (.aload_n 0, 1, 0, 0, 0, []) := by decide +kernel
theorem f121_352 : pm_f 121 352 = some (.iconst 0, 1, 0, 0, 0, []) := by decide +kernel
theorem f121_353 : pm_f 121 353 = some (.putfield 108, 3, 8, 32, 0, []) := by decide +kernel
theorem f121_356 : pm_f 121 356 = some (.aload_n 0, 1, 0, 0, 0, []) := by decide +kernel
theorem f121_357 : pm_f 121 357 = some (.bipush 6, 2, 0, 0, 6, []) := by decide +kernel
theorem f121_359 : pm_f 121 359 = some (.newarray .int, 2, 1, 0, 0, []) := by decide +kernel
theorem f121_361 : pm_f 121 361 = some (.putfield 111, 3, 8, 33, 2, []) := by decide +kernel
theorem f121_364 : pm_f 121 364 = some (.aload_n 0, 1, 0, 0, 0, []) := by decide +kernel
theorem f121_365 : pm_f 121 365 = some (.bipush 6, 2, 0, 0, 6, []) := by decide +kernel
theorem f121_367 : pm_f 121 367 = some (.newarray .int, 2, 1, 0, 0, []) := by decide +kernel
theorem f121_369 : pm_f 121 369 = some (.putfield 114, 3, 8, 34, 2, []) := by decide +kernel
theorem f121_372 : pm_f 121 372 = some (.aload_n 0, 1, 0, 0, 0, []) := by decide +kernel
theorem f121_373 : pm_f 121 373 = some (.bipush 6, 2, 0, 0, 6, []) := by decide +kernel
theorem f121_375 : pm_f 121 375 = some (.newarray .int, 2, 1, 0, 0, []) := by decide +kernel
theorem f121_377 : pm_f 121 377 = some (.putfield 117, 3, 8, 35, 2, []) := by decide +kernel
theorem f121_380 : pm_f 121 380 = some (.aload_n 0, 1, 0, 0, 0, []) := by decide +kernel
theorem f121_381 : pm_f 121 381 = some (.bipush 6, 2, 0, 0, 6, []) := by decide +kernel
theorem f121_383 : pm_f 121 383 = some (.newarray .int, 2, 1, 0, 0, []) := by decide +kernel
theorem f121_385 : pm_f 121 385 = some (.putfield 120, 3, 8, 36, 2, []) := by decide +kernel
theorem f121_388 : pm_f 121 388 = some (.aload_n 0, 1, 0, 0, 0, []) := by decide +kernel
theorem f121_389 : pm_f 121 389 = some (.iconst 0, 1, 0, 0, 0, []) := by decide +kernel
theorem f121_390 : pm_f 121 390 = some (.putfield 123, 3, 8, 37, 0, []) := by decide +kernel
theorem f121_393 : pm_f 121 393 = some (.aload_n 0, 1, 0, 0, 0, []) := by decide +kernel
theorem f121_394 : pm_f 121 394 = some (.iconst 5, 1, 0, 0, 5, []) := by decide +kernel
theorem f121_395 : pm_f 121 395 = some (.newarray .int, 2, 1, 0, 0, []) := by decide +kernel
theorem f121_397 : pm_f 121 397 = some (.putfield 126, 3, 8, 38, 2, []) := by decide +kernel
theorem f121_400 : pm_f 121 400 = some (.aload_n 0, 1, 0, 0, 0, []) := by decide +kernel
theorem f121_401 : pm_f 121 401 = some (.iconst 5, 1, 0, 0, 5, []) := by decide +kernel
theorem f121_402 : pm_f 121 402 = some (.newarray .int, 2, 1, 0, 0, []) := by decide +kernel
theorem f121_404 : pm_f 121 404 = some (.putfield 129, 3, 8, 39, 2, []) := by decide +kernel
theorem f121_407 : pm_f 121 407 = some (.aload_n 0, 1, 0, 0, 0, []) := by decide +kernel
theorem f121_408 : pm_f 121 408 = some (.iconst 5, 1, 0, 0, 5, []) := by decide +kernel
theorem f121_409 : pm_f 121 409 = some (.newarray .int, 2, 1, 0, 0, []) := by decide +kernel
theorem f121_411 : pm_f 121 411 = some (.putfield 132, 3, 8, 40, 2, []) := by decide +kernel
theorem f121_414 : pm_f 121 414 = some (.aload_n 0, 1, 0, 0, 0, []) := by decide +kernel
theorem f121_415 : pm_f 121 415 = some (.iconst 0, 1, 0, 0, 0, []) := by decide +kernel
theorem f121_416 : pm_f 121 416 = some (.putfield 135, 3, 8, 41, 0, []) := by decide +kernel
theorem f121_419 : pm_f 121 419 = some (.aload_n 0, 1, 0, 0, 0, []) := by decide +kernel
theorem f121_420 : pm_f 121 420 = some (.iconst 0, 1, 0, 0, 0, []) := by decide +kernel
theorem f121_421 : pm_f 121 421 = some (.putfield 138, 3, 8, 42, 0, []) := by decide +kernel
theorem f121_424 : pm_f 121 424 = some (.aload_n 0, 1, 0, 0, 0, []) := by decide +kernel
theorem f121_425 : pm_f 121 425 = some (.bipush 10, 2, 0, 0, 10, []) := by decide +kernel
theorem f121_427 : pm_f 121 427 = some (.newarray .int, 2, 1, 0, 0, []) := by decide +kernel
theorem f121_429 : pm_f 121 429 = some (.putfield 141, 3, 8, 43, 2, []) := by decide +kernel
theorem f121_432 : pm_f 121 432 = some (.aload_n 0, 1, 0, 0, 0, []) := by decide +kernel
theorem f121_433 : pm_f 121 433 = some (.bipush 10, 2, 0, 0, 10, []) := by decide +kernel
theorem f121_435 : pm_f 121 435 = some (.newarray .int, 2, 1, 0, 0, []) := by decide +kernel
theorem f121_437 : pm_f 121 437 = some (.putfield 144, 3, 8, 44, 2, []) := by decide +kernel
theorem f121_440 : pm_f 121 440 = some (.aload_n 0, 1, 0, 0, 0, []) := by decide +kernel
theorem f121_441 : pm_f 121 441 = some (.bipush 8, 2, 0, 0, 8, []) := by decide +kernel
theorem f121_443 : pm_f 121 443 = some (.newarray .int, 2, 1, 0, 0, []) := by decide +kernel
theorem f121_445 : pm_f 121 445 = some (.putfield 147, 3, 8, 45, 2, []) := by decide +kernel
theorem f121_448 : pm_f 121 448 = some (.aload_n 0, 1, 0, 0, 0, []) := by decide +kernel
theorem f121_449 : pm_f 121 449 = some (.bipush 8, 2, 0, 0, 8, []) := by decide +kernel
theorem f121_451 : pm_f 121 451 = some (.newarray .int, 2, 1, 0, 0, []) := by decide +kernel
theorem f121_453 : pm_f 121 453 = some (.putfield 150, 3, 8, 46, 2, []) := by decide +kernel
theorem f121_456 : pm_f 121 456 = some (.aload_n 0, 1, 0, 0, 0, []) := by decide +kernel
theorem f121_457 : pm_f 121 457 = some (.iconst 0, 1, 0, 0, 0, []) := by decide +kernel
theorem f121_458 : pm_f 121 458 = some (.putfield 153, 3, 8, 47, 1, []) := by decide +kernel
theorem f121_461 : pm_f 121 461 = some (.aload_n 0, 1, 0, 0, 0, []) := by decide +kernel
theorem f121_462 : pm_f 121 462 = some (.iconst (-1), 1, 0, 0, (-1), []) := by decide +kernel
theorem f121_463 : pm_f 121 463 = some (.putfield 157, 3, 8, 48, 0, []) := by decide +kernel
theorem f121_466 : pm_f 121 466 = some (.aload_n 0, 1, 0, 0, 0, []) := by decide +kernel
theorem f121_467 : pm_f 121 467 = some (.iconst 0, 1, 0, 0, 0, []) := by decide +kernel
theorem f121_468 : pm_f 121 468 = some (.putfield 160, 3, 8, 49, 0, []) := by decide +kernel
theorem f121_471 : pm_f 121 471 = some (.aload_n 0, 1, 0, 0, 0, []) := by decide +kernel
theorem f121_472 : pm_f 121 472 = some (.iconst 0, 1, 0, 0, 0, []) := by decide +kernel
theorem f121_473 : pm_f 121 473 = some (.putfield 163, 3, 8, 50, 0, []) := by decide +kernel
theorem f121_476 : pm_f 121 476 = some (.aload_n 0, 1, 0, 0, 0, []) := by decide +kernel
theorem f121_477 : pm_f 121 477 = some (.iconst 0, 1, 0, 0, 0, []) := by decide +kernel
theorem f121_478 : pm_f 121 478 = some (.putfield 166, 3, 8, 51, 0, []) := by decide +kernel
theorem f121_481 : pm_f 121 481 = some (.aload_n 0, 1, 0, 0, 0, []) := by decide +kernel
theorem f121_482 : pm_f 121 482 = some (.iconst 0, 1, 0, 0, 0, []) := by decide +kernel
theorem f121_483 : pm_f 121 483 = some (.putfield 169, 3, 8, 52, 0, []) := by decide +kernel
theorem f121_486 : pm_f 121 486 = some (.aload_n 0, 1, 0, 0, 0, []) := by decide +kernel
theorem f121_487 : pm_f 121 487 = some (.iconst 0, 1, 0, 0, 0, []) := by decide +kernel
theorem f121_488 : pm_f 121 488 = some (.putfield 172, 3, 8, 53, 0, []) := by decide +kernel
theorem f121_491 : pm_f 121 491 = some (.aload_n 0, 1, 0, 0, 0, []) := by decide +kernel
theorem f121_492 : pm_f 121 492 = some (.iconst 0, 1, 0, 0, 0, []) := by decide +kernel
theorem f121_493 : pm_f 121 493 = some (.putfield 175, 3, 8, 54, 0, []) := by decide +kernel
theorem f121_496 : pm_f 121 496 = some (.aload_n 0, 1, 0, 0, 0, []) := by decide +kernel
theorem f121_497 : pm_f 121 497 = some (.iconst 0, 1, 0, 0, 0, []) := by decide +kernel
theorem f121_498 : pm_f 121 498 = some (.putfield 178, 3, 8, 55, 0, []) := by decide +kernel
theorem f121_501 : pm_f 121 501 = some (.aload_n 0, 1, 0, 0, 0, []) := by decide +kernel
theorem f121_502 : pm_f 121 502 = some (.bipush 6, 2, 0, 0, 6, []) := by decide +kernel
theorem f121_504 : pm_f 121 504 = some (.newarray .int, 2, 1, 0, 0, []) := by decide +kernel
theorem f121_506 : pm_f 121 506 = some (.putfield 181, 3, 8, 56, 2, []) := by decide +kernel
theorem f121_509 : pm_f 121 509 = some (.aload_n 0, 1, 0, 0, 0, []) := by decide +kernel
theorem f121_510 : pm_f 121 510 = some (.bipush 6, 2, 0, 0, 6, []) := by decide +kernel
theorem f121_512 : pm_f 121 512 = some (.newarray .int, 2, 1, 0, 0, []) := by decide +kernel
theorem f121_514 : pm_f 121 514 = some (.putfield 184, 3, 8, 57, 2, []) := by decide +kernel
theorem f121_517 : pm_f 121 517 = some (.aload_n 0, 1, 0, 0, 0, []) := by decide +kernel
theorem f121_518 : pm_f 121 518 = some (.bipush 6, 2, 0, 0, 6, []) := by decide +kernel
theorem f121_520 : pm_f 121 520 = some (.newarray .int, 2, 1, 0, 0, []) := by decide +kernel
theorem f121_522 : pm_f 121 522 = some (.putfield 187, 3, 8, 58, 2, []) := by decide +kernel
theorem f121_525 : pm_f 121 525 = some (.aload_n 0, 1, 0, 0, 0, []) := by decide +kernel
theorem f121_526 : pm_f 121 526 = some (.bipush 6, 2, 0, 0, 6, []) := by decide +kernel
theorem f121_528 : pm_f 121 528 = some (.newarray .int, 2, 1, 0, 0, []) := by decide +kernel
theorem f121_530 : pm_f 121 530 = some (.putfield 190, 3, 8, 59, 2, []) := by decide +kernel
theorem f121_533 : pm_f 121 533 = some (.aload_n 0, 1, 0, 0, 0, []) := by decide +kernel
theorem f121_534 : pm_f 121 534 = some (.bipush 6, 2, 0, 0, 6, []) := by decide +kernel
theorem f121_536 : pm_f 121 536 = some (.newarray .int, 2, 1, 0, 0, []) := by decide +kernel
theorem f121_538 : pm_f 121 538 = some (.putfield 193, 3, 8, 60, 2, []) := by decide +kernel
theorem f121_541 : pm_f 121 541 = some (.aload_n 0, 1, 0, 0, 0, []) := by decide +kernel
theorem f121_542 : pm_f 121 542 = some (.bipush 24, 2, 0, 0, 24, []) := by decide +kernel
theorem f121_544 : pm_f 121 544 = some (.newarray .int, 2, 1, 0, 0, []) := by decide +kernel
theorem f121_546 : pm_f 121 546 = some (.putfield 196, 3, 8, 61, 2, []) := by decide +kernel
theorem f121_549 : pm_f 121 549 = some (.aload_n 0, 1, 0, 0, 0, []) := by decide +kernel
theorem f121_550 : pm_f 121 550 = some (.iconst 5, 1, 0, 0, 5, []) := by decide +kernel
theorem f121_551 : pm_f 121 551 = some (.newarray .int, 2, 1, 0, 0, []) := by decide +kernel
theorem f121_553 : pm_f 121 553 = some (.putfield 199, 3, 8, 62, 2, []) := by decide +kernel
theorem f121_556 : pm_f 121 556 = some (.aload_n 0, 1, 0, 0, 0, []) := by decide +kernel
theorem f121_557 : pm_f 121 557 = some (.iconst 5, 1, 0, 0, 5, []) := by decide +kernel
theorem f121_558 : pm_f 121 558 = some (.newarray .int, 2, 1, 0, 0, []) := by decide +kernel
theorem f121_560 : pm_f 121 560 = some (.putfield 202, 3, 8, 63, 2, []) := by decide +kernel
theorem f121_563 : pm_f 121 563 = some (.aload_n 0, 1, 0, 0, 0, []) := by decide +kernel
theorem f121_564 : pm_f 121 564 = some (.iconst 5, 1, 0, 0, 5, []) := by decide +kernel
theorem f121_565 : pm_f 121 565 = some (.newarray .int, 2, 1, 0, 0, []) := by decide +kernel
theorem f121_567 : pm_f 121 567 = some (.putfield 205, 3, 8, 64, 2, []) := by decide +kernel
theorem f121_570 : pm_f 121 570 = some (.aload_n 0, 1, 0, 0, 0, []) := by decide +kernel
theorem f121_571 : pm_f 121 571 = some (.bipush 10, 2, 0, 0, 10, []) := by decide +kernel
theorem f121_573 : pm_f 121 573 = some (.newarray .int, 2, 1, 0, 0, []) := by decide +kernel
theorem f121_575 : pm_f 121 575 = some (.putfield 208, 3, 8, 65, 2, []) := by decide +kernel
theorem f121_578 : pm_f 121 578 = some (.aload_n 0, 1, 0, 0, 0, []) := by decide +kernel
theorem f121_579 : pm_f 121 579 = some (.bipush 10, 2, 0, 0, 10, []) := by decide +kernel
theorem f121_581 : pm_f 121 581 = some (.newarray .int, 2, 1, 0, 0, []) := by decide +kernel
theorem f121_583 : pm_f 121 583 = some (.putfield 211, 3, 8, 66, 2, []) := by decide +kernel
theorem f121_586 : pm_f 121 586 = some (.aload_n 0, 1, 0, 0, 0, []) := by decide +kernel
theorem f121_587 : pm_f 121 587 = some (.bipush 8, 2, 0, 0, 8, []) := by decide +kernel
theorem f121_589 : pm_f 121 589 = some (.newarray .int, 2, 1, 0, 0, []) := by decide +kernel
theorem f121_591 : pm_f 121 591 = some (.putfield 214, 3, 8, 67, 2, []) := by decide +kernel
theorem f121_594 : pm_f 121 594 = some (.aload_n 0, 1, 0, 0, 0, []) := by decide +kernel
theorem f121_595 : pm_f 121 595 = some (.bipush 8, 2, 0, 0, 8, []) := by decide +kernel
theorem f121_597 : pm_f 121 597 = some (.newarray .int, 2, 1, 0, 0, []) := by decide +kernel
theorem f121_599 : pm_f 121 599 = some (.putfield 217, 3, 8, 68, 2, []) := by decide +kernel
theorem f121_602 : pm_f 121 602 = some (.aload_n 0, 1, 0, 0, 0, []) := by decide +kernel
theorem f121_603 : pm_f 121 603 = some (.iconst 0, 1, 0, 0, 0, []) := by decide +kernel
theorem f121_604 : pm_f 121 604 = some (.putfield 220, 3, 8, 69, 0, []) := by decide +kernel
theorem f121_607 : pm_f 121 607 = some (.aload_n 0, 1, 0, 0, 0, []) := by decide +kernel
theorem f121_608 : pm_f 121 608 = some (.bipush 20, 2, 0, 0, 20, []) := by decide +kernel
theorem f121_610 : pm_f 121 610 = some (.newarray .int, 2, 1, 0, 0, []) := by decide +kernel
theorem f121_612 : pm_f 121 612 = some (.putfield 223, 3, 8, 70, 2, []) := by decide +kernel
theorem f121_615 : pm_f 121 615 = some (.aload_n 0, 1, 0, 0, 0, []) := by decide +kernel
theorem f121_616 : pm_f 121 616 = some (.bipush 6, 2, 0, 0, 6, []) := by decide +kernel
theorem f121_618 : pm_f 121 618 = some (.newarray .int, 2, 1, 0, 0, []) := by decide +kernel
theorem f121_620 : pm_f 121 620 = some (.dup, 1, 0, 0, 0, []) := by decide +kernel
theorem f121_621 : pm_f 121 621 = some (.iconst 0, 1, 0, 0, 0, []) := by decide +kernel
theorem f121_622 : pm_f 121 622 = some (.iconst (-1), 1, 0, 0, (-1), []) := by decide +kernel
theorem f121_623 : pm_f 121 623 = some (.iastore, 1, 0, 0, 0, []) := by decide +kernel
theorem f121_624 : pm_f 121 624 = some (.dup, 1, 0, 0, 0, []) := by decide +kernel
theorem f121_625 : pm_f 121 625 = some (.iconst 1, 1, 0, 0, 1, []) := by decide +kernel
theorem f121_626 : pm_f 121 626 = some (.iconst (-1), 1, 0, 0, (-1), []) := by decide +kernel
theorem f121_627 : pm_f 121 627 = some (.iastore, 1, 0, 0, 0, []) := by decide +kernel
theorem f121_628 : pm_f 121 628 = some (.dup, 1, 0, 0, 0, []) := by decide +kernel
theorem f121_629 : pm_f 121 629 = some (.iconst 2, 1, 0, 0, 2, []) := by decide +kernel
theorem f121_630 : pm_f 121 630 = some (.iconst (-1), 1, 0, 0, (-1), []) := by decide +kernel
theorem f121_631 : pm_f 121 631 = some (.iastore, 1, 0, 0, 0, []) := by decide +kernel
theorem f121_632 : pm_f 121 632 = some (.dup, 1, 0, 0, 0, []) := by decide +kernel
theorem f121_633 : pm_f 121 633 = some (.iconst 3, 1, 0, 0, 3, []) := by decide +kernel
theorem f121_634 : pm_f 121 634 = some (.iconst (-1), 1, 0, 0, (-1), []) := by decide +kernel
theorem f121_635 : pm_f 121 635 = some (.iastore, 1, 0, 0, 0, []) := by decide +kernel
theorem f121_636 : pm_f 121 636 = some (.dup, 1, 0, 0, 0, []) := by decide +kernel
theorem f121_637 : pm_f 121 637 = some (.iconst 4, 1, 0, 0, 4, []) := by decide +kernel
theorem f121_638 : pm_f 121 638 = some (.iconst (-1), 1, 0, 0, (-1), []) := by decide +kernel
theorem f121_639 : pm_f 121 639 = some (.iastore, 1, 0, 0, 0, []) := by decide +kernel
theorem f121_640 : pm_f 121 640 = some (.dup, 1, 0, 0, 0, []) := by decide +kernel
theorem f121_641 : pm_f 121 641 = some (.iconst 5, 1, 0, 0, 5, []) := by decide +kernel
theorem f121_642 : pm_f 121 642 = some (.iconst (-1), 1, 0, 0, (-1), []) := by decide +kernel
theorem f121_643 : pm_f 121 643 = some (.iastore, 1, 0, 0, 0, []) := by decide +kernel
theorem f121_644 : pm_f 121 644 = some (.putfield 226, 3, 8, 71, 2, []) := by decide +kernel
theorem f121_647 : pm_f 121 647 = some (.aload_n 0, 1, 0, 0, 0, []) := by decide +kernel
theorem f121_648 : pm_f 121 648 = some (.bipush 6, 2, 0, 0, 6, []) := by decide +kernel
theorem f121_650 : pm_f 121 650 = some (.newarray .int, 2, 1, 0, 0, []) := by decide +kernel
theorem f121_652 : pm_f 121 652 = some (.putfield 229, 3, 8, 72, 2, []) := by decide +kernel
theorem f121_655 : pm_f 121 655 = some (.aload_n 0, 1, 0, 0, 0, []) := by decide +kernel
theorem f121_656 : pm_f 121 656 = some (.sipush 360, 3, 0, 0, 360, []) := by decide +kernel
theorem f121_659 : pm_f 121 659 = some (.newarray .long, 2, 3, 0, 0, []) := by decide +kernel
theorem f121_661 : pm_f 121 661 = some (.putfield 232, 3, 8, 73, 2, []) := by decide +kernel
theorem f121_664 : pm_f 121 664 = some (.aload_n 0, 1, 0, 0, 0, []) := by decide +kernel
theorem f121_665 : pm_f 121 665 = some (.bipush 60, 2, 0, 0, 60, []) := by decide +kernel
theorem f121_667 : pm_f 121 667 = some (.newarray .long, 2, 3, 0, 0, []) := by decide +kernel
theorem f121_669 : pm_f 121 669 = some (.putfield 236, 3, 8, 74, 2, []) := by decide +kernel
theorem f121_672 : pm_f 121 672 = some (.return_, 1, 0, 0, 0, []) := by decide +kernel
theorem f122_0 : pm_f 122 0 = some (.iload_n 1, 1, 1, 0, 0, []) := by decide +kernel
theorem f122_1 : pm_f 122 1 = some (.iload_n 2, 1, 2, 0, 0, []) := by decide +kernel
theorem f122_2 : pm_f 122 2 = some (.if_icmp .lt 12, 3, 14, 0, 0, []) := by decide +kernel
theorem f122_5 : pm_f 122 5 = some (.iload_n 1, 1, 1, 0, 0, []) := by decide +kernel
theorem f122_6 : pm_f 122 6 = some (.iload_n 3, 1, 3, 0, 0, []) := by decide +kernel
theorem f122_7 : pm_f 122 7 = some (.if_icmp .gt 7, 3, 14, 0, 0, []) := by decide +kernel
theorem f122_10 : pm_f 122 10 = some (.iconst 1, 1, 0, 0, 1, []) := by decide +kernel
theorem f122_11 : pm_f 122 11 = some (.goto 4, 3, 15, 0, 0, []) := by decide +kernel
theorem f122_14 : pm_f 122 14 = some (.iconst 0, 1, 0, 0, 0, []) := by decide +kernel
theorem f122_15 : pm_f 122 15 = some (.ireturn, 1, 0, 0, 1, []) := by decide +kernel
theorem f123_0 : pm_f 123 0 = some (.iload_n 1, 1, 1, 0, 0, []) := by decide +kernel
theorem f123_1 : pm_f 123 1 = some (.iload_n 2, 1, 2, 0, 0, []) := by decide +kernel
theorem f123_2 : pm_f 123 2 = some (.if_icmp .ge 7, 3, 9, 0, 0, []) := by decide +kernel
theorem f123_5 : pm_f 123 5 = some (.iload_n 2, 1, 2, 0, 0, []) := by decide +kernel
theorem f123_6 : pm_f 123 6 = some (.goto 13, 3, 19, 0, 0, []) := by decide +kernel
theorem f123_9 : pm_f 123 9 = some (.iload_n 1, 1, 1, 0, 0, []) := by decide +kernel
theorem f123_10 : pm_f 123 10 = some (.iload_n 3, 1, 3, 0, 0, []) := by decide +kernel
theorem f123_11 : pm_f 123 11 = some (.if_icmp .le 7, 3, 18, 0, 0, []) := by decide +kernel
theorem f123_14 : pm_f 123 14 = some (.iload_n 3, 1, 3, 0, 0, []) := by decide +kernel
theorem f123_15 : pm_f 123 15 = some (.goto 4, 3, 19, 0, 0, []) := by decide +kernel
theorem f123_18 : pm_f 123 18 = some (.iload_n 1, 1, 1, 0, 0, []) := by decide +kernel
theorem f123_19 : pm_f 123 19 = some (.ireturn, 1, 0, 0, 0, []) := by decide +kernel
theorem f124_0 : pm_f 124 0 = some (.iload_n 1, 1, 1, 0, 0, []) := by decide +kernel
theorem f124_1 : pm_f 124 1 = some (.iload_n 2, 1, 2, 0, 0, []) := by decide +kernel
theorem f124_2 : pm_f 124 2 = some (.ishr, 1, 0, 0, 0, []) := by decide +kernel
theorem f124_3 : pm_f 124 3 = some (.iconst 1, 1, 0, 0, 1, []) := by decide +kernel
theorem f124_4 : pm_f 124 4 = some (.iand, 1, 0, 0, 0, []) := by decide +kernel
theorem f124_5 : pm_f 124 5 = some (.iconst 1, 1, 0, 0, 1, []) := by decide +kernel
theorem f124_6 : pm_f 124 6 = some (.if_icmp .ne 7, 3, 13, 0, 0, []) := by decide +kernel
theorem f124_9 : pm_f 124 9 = some (.iconst 1, 1, 0, 0, 1, []) := by decide +kernel
theorem f124_10 : pm_f 124 10 = some (.goto 4, 3, 14, 0, 0, []) := by decide +kernel
theorem f124_13 : pm_f 124 13 = some (.iconst 0, 1, 0, 0, 0, []) := by decide +kernel
theorem f124_14 : pm_f 124 14 = some (.ireturn, 1, 0, 0, 1, []) := by decide +kernel
theorem f125_0 : pm_f 125 0 = some (.aload_n 0, 1, 0, 0, 0, []) := by decide +kernel
theorem f125_1 : pm_f 125 1 = some (.iload_n 1, 1, 1, 0, 0, []) := by decide +kernel
theorem f125_2 : pm_f 125 2 = some (.iconst 0, 1, 0, 0, 0, []) := by decide +kernel
theorem f125_3 : pm_f 125 3 = some (.aload_n 0, 1, 0, 0, 0, []) := by decide +kernel
theorem f125_4 : pm_f 125 4 = some (.getfield 7, 3, 8, 0, 0, []) := by decide +kernel
theorem f125_7 : pm_f 125 7 = some (.iconst 1, 1, 0, 0, 1, []) := by decide +kernel
theorem f125_8 : pm_f 125 8 = some (.isub, 1, 0, 0, 0, []) := by decide +kernel
theorem f125_9 : pm_f 125 9 = some (.invokevirtual 239, 3, 122, 3, 8, []) := by decide +kernel
theorem f125_12 : pm_f 125 12 = some (.ireturn, 1, 0, 0, 1, []) := by decide +kernel
theorem f126_0 : pm_f 126 0 = some (.aload_n 0, 1, 0, 0, 0, []) := by decide +kernel
theorem f126_1 : pm_f 126 1 = some (.iload_n 1, 1, 1, 0, 0, []) := by decide +kernel
theorem f126_2 : pm_f 126 2 = some (.iconst 1, 1, 0, 0, 1, []) := by decide +kernel
theorem f126_3 : pm_f 126 3 = some (.sipush 200, 3, 0, 0, 200, []) := by decide +kernel
theorem f126_6 : pm_f 126 6 = some (.invokevirtual 239, 3, 122, 3, 8, []) := by decide +kernel
theorem f126_9 : pm_f 126 9 = some (.ireturn, 1, 0, 0, 1, []) := by decide +kernel
theorem f127_0 : pm_f 127 0 = some (.aload_n 0, 1, 0, 0, 0, []) := by decide +kernel
theorem f127_1 : pm_f 127 1 = some (.iload_n 1, 1, 1, 0, 0, []) := by decide +kernel
theorem f127_2 : pm_f 127 2 = some (.iconst 0, 1, 0, 0, 0, []) := by decide +kernel
theorem f127_3 : pm_f 127 3 = some (.bipush 60, 2, 0, 0, 60, []) := by decide +kernel
theorem f127_5 : pm_f 127 5 = some (.invokevirtual 239, 3, 122, 3, 8, []) := by decide +kernel
theorem f127_8 : pm_f 127 8 = some (.ireturn, 1, 0, 0, 1, []) := by decide +kernel
theorem f128_0 : pm_f 128 0 = some (.aload_n 0, 1, 0, 0, 0, []) := by decide +kernel
theorem f128_1 : pm_f 128 1 = some (.iload_n 1, 1, 1, 0, 0, []) := by decide +kernel
theorem f128_2 : pm_f 128 2 = some (.iconst 0, 1, 0, 0, 0, []) := by decide +kernel
theorem f128_3 : pm_f 128 3 = some (.bipush 6, 2, 0, 0, 6, []) := by decide +kernel
theorem f128_5 : pm_f 128 5 = some (.invokevirtual 239, 3, 122, 3, 8, []) := by decide +kernel
theorem f128_8 : pm_f 128 8 = some (.ifCond .ne 5, 3, 13, 0, 0, []) := by decide +kernel
theorem f128_11 : pm_f 128 11 = some (.iconst (-1), 1, 0, 0, (-1), []) := by decide +kernel
theorem f128_12 : pm_f 128 12 = some (.ireturn, 1, 0, 0, 0, []) := by decide +kernel
theorem f128_13 : pm_f 128 13 = some (.aload_n 0, 1, 0, 0, 0, []) := by decide +kernel
theorem f128_14 : pm_f 128 14 = some (.iload_n 2, 1, 2, 0, 0, []) := by decide +kernel
theorem f128_15 : pm_f 128 15 = some (.iconst 0, 1, 0, 0, 0, []) := by decide +kernel
theorem f128_16 : pm_f 128 16 = some (.bipush 9, 2, 0, 0, 9, []) := by decide +kernel
theorem f128_18 : pm_f 128 18 = some (.invokevirtual 239, 3, 122, 3, 8, []) := by decide +kernel
theorem f128_21 : pm_f 128 21 = some (.ifCond .eq 35, 3, 56, 0, 0, []) := by decide +kernel
theorem f128_24 : pm_f 128 24 = some (.aload_n 0, 1, 0, 0, 0, []) := by decide +kernel
theorem f128_25 : pm_f 128 25 = some (.iload_n 3, 1, 3, 0, 0, []) := by decide +kernel
theorem f128_26 : pm_f 128 26 = some (.iconst 0, 1, 0, 0, 0, []) := by decide +kernel
theorem f128_27 : pm_f 128 27 = some (.bipush 19, 2, 0, 0, 19, []) := by decide +kernel
theorem f128_29 : pm_f 128 29 = some (.invokevirtual 239, 3, 122, 3, 8, []) := by decide +kernel
theorem f128_32 : pm_f 128 32 = some (.ifCond .eq 24, 3, 56, 0, 0, []) := by decide +kernel
theorem f128_35 : pm_f 128 35 = some (.aload_n 0, 1, 0, 0, 0, []) := by decide +kernel
theorem f128_36 : pm_f 128 36 = some (.iload 4, 2, 4, 0, 0, []) := by decide +kernel
theorem f128_38 : pm_f 128 38 = some (.iconst 0, 1, 0, 0, 0, []) := by decide +kernel
theorem f128_39 : pm_f 128 39 = some (.bipush 99, 2, 0, 0, 99, []) := by decide +kernel
theorem f128_41 : pm_f 128 41 = some (.invokevirtual 239, 3, 122, 3, 8, []) := by decide +kernel
theorem f128_44 : pm_f 128 44 = some (.ifCond .eq 12, 3, 56, 0, 0, []) := by decide +kernel
theorem f128_47 : pm_f 128 47 = some (.aload_n 0, 1, 0, 0, 0, []) := by decide +kernel
theorem f128_48 : pm_f 128 48 = some (.iload 5, 2, 5, 0, 0, []) := by decide +kernel
theorem f128_50 : pm_f 128 50 = some (.invokevirtual 243, 3, 126, 1, 8, []) := by decide +kernel
theorem f128_53 : pm_f 128 53 = some (.ifCond .ne 6, 3, 59, 0, 0, []) := by decide +kernel
theorem f128_56 : pm_f 128 56 = some (.bipush (-2), 2, 0, 0, (-2), []) := by decide +kernel
theorem f128_58 : pm_f 128 58 = some (.ireturn, 1, 0, 0, 0, []) := by decide +kernel
theorem f128_59 : pm_f 128 59 = some (.aload_n 0, 1, 0, 0, 0, []) := by decide +kernel
theorem f128_60 : pm_f 128 60 = some (.getfield 7, 3, 8, 0, 0, []) := by decide +kernel
theorem f128_63 : pm_f 128 63 = some (.bipush 6, 2, 0, 0, 6, []) := by decide +kernel
theorem f128_65 : pm_f 128 65 = some (.if_icmp .ne 6, 3, 71, 0, 0, []) := by decide +kernel
theorem f128_68 : pm_f 128 68 = some (.bipush (-4), 2, 0, 0, (-4), []) := by decide +kernel
theorem f128_70 : pm_f 128 70 = some (.ireturn, 1, 0, 0, 0, []) := by decide +kernel
theorem f128_71 : pm_f 128 71 = some (.aload_n 0, 1, 0, 0, 0, []) := by decide +kernel
theorem f128_72 : pm_f 128 72 = some (.getfield 22, 3, 8, 4, 2, []) := by decide +kernel
theorem f128_75 : pm_f 128 75 = some (.aload_n 0, 1, 0, 0, 0, []) := by decide +kernel
theorem f128_76 : pm_f 128 76 = some (.getfield 7, 3, 8, 0, 0, []) := by decide +kernel
theorem f128_79 : pm_f 128 79 = some (.iload_n 1, 1, 1, 0, 0, []) := by decide +kernel
theorem f128_80 : pm_f 128 80 = some (.iastore, 1, 0, 0, 0, []) := by decide +kernel
theorem f128_81 : pm_f 128 81 = some (.aload_n 0, 1, 0, 0, 0, []) := by decide +kernel
theorem f128_82 : pm_f 128 82 = some (.getfield 26, 3, 8, 5, 2, []) := by decide +kernel
theorem f128_85 : pm_f 128 85 = some (.aload_n 0, 1, 0, 0, 0, []) := by decide +kernel
theorem f128_86 : pm_f 128 86 = some (.getfield 7, 3, 8, 0, 0, []) := by decide +kernel
theorem f128_89 : pm_f 128 89 = some (.iload_n 2, 1, 2, 0, 0, []) := by decide +kernel
theorem f128_90 : pm_f 128 90 = some (.iastore, 1, 0, 0, 0, []) := by decide +kernel
theorem f128_91 : pm_f 128 91 = some (.aload_n 0, 1, 0, 0, 0, []) := by decide +kernel
theorem f128_92 : pm_f 128 92 = some (.getfield 29, 3, 8, 6, 2, []) := by decide +kernel
theorem f128_95 : pm_f 128 95 = some (.aload_n 0, 1, 0, 0, 0, []) := by decide +kernel
theorem f128_96 : pm_f 128 96 = some (.getfield 7, 3, 8, 0, 0, []) := by decide +kernel
theorem f128_99 : pm_f 128 99 = some (.iload_n 3, 1, 3, 0, 0, []) := by decide +kernel
theorem f128_100 : pm_f 128 100 = some (.iastore, 1, 0, 0, 0, []) := by decide +kernel
theorem f128_101 : pm_f 128 101 = some (.aload_n 0, 1, 0, 0, 0, []) := by decide +kernel
theorem f128_102 : pm_f 128 102 = some (.getfield 32, 3, 8, 7, 2, []) := by decide +kernel
theorem f128_105 : pm_f 128 105 = some (.aload_n 0, 1, 0, 0, 0, []) := by decide +kernel
theorem f128_106 : pm_f 128 106 = some (.getfield 7, 3, 8, 0, 0, []) := by decide +kernel
theorem f128_109 : pm_f 128 109 = some (.iload 4, 2, 4, 0, 0, []) := by decide +kernel
theorem f128_111 : pm_f 128 111 = some (.iastore, 1, 0, 0, 0, []) := by decide +kernel
theorem f128_112 : pm_f 128 112 = some (.aload_n 0, 1, 0, 0, 0, []) := by decide +kernel
theorem f128_113 : pm_f 128 113 = some (.getfield 35, 3, 8, 8, 2, []) := by decide +kernel
theorem f128_116 : pm_f 128 116 = some (.aload_n 0, 1, 0, 0, 0, []) := by decide +kernel
theorem f128_117 : pm_f 128 117 = some (.getfield 7, 3, 8, 0, 0, []) := by decide +kernel
theorem f128_120 : pm_f 128 120 = some (.iload 5, 2, 5, 0, 0, []) := by decide +kernel
theorem f128_122 : pm_f 128 122 = some (.iastore, 1, 0, 0, 0, []) := by decide +kernel
theorem f128_123 : pm_f 128 123 = some (.aload_n 0, 1, 0, 0, 0, []) := by decide +kernel
theorem f128_124 : pm_f 128 124 = some (.dup, 1, 0, 0, 0, []) := by decide +kernel
theorem f128_125 : pm_f 128 125 = some (.getfield 19, 3, 8, 3, 0, []) := by decide +kernel
theorem f128_128 : pm_f 128 128 = some (.iconst 1, 1, 0, 0, 1, []) := by decide +kernel
theorem f128_129 : pm_f 128 129 = some (.aload_n 0, 1, 0, 0, 0, []) := by decide +kernel
theorem f128_130 : pm_f 128 130 = some (.getfield 7, 3, 8, 0, 0, []) := by decide +kernel
theorem f128_133 : pm_f 128 133 = some (.ishl, 1, 0, 0, 0, []) := by decide +kernel
theorem f128_134 : pm_f 128 134 = some (.iconst (-1), 1, 0, 0, (-1), []) := by decide +kernel
theorem f128_135 : pm_f 128 135 = some (.ixor, 1, 0, 0, 0, []) := by decide +kernel
theorem f128_136 : pm_f 128 136 = some (.iand, 1, 0, 0, 0, []) := by decide +kernel
theorem f128_137 : pm_f 128 137 = some (.putfield 19, 3, 8, 3, 0, []) := by decide +kernel
theorem f128_140 : pm_f 128 140 = some (.iconst 0, 1, 0, 0, 0, []) := by decide +kernel
theorem f128_141 : pm_f 128 141 = some (.istore 6, 2, 6, 0, 0, []) := by decide +kernel
theorem f128_143 : pm_f 128 143 = some (.iload 6, 2, 6, 0, 0, []) := by decide +kernel
theorem f128_145 : pm_f 128 145 = some (.iconst 4, 1, 0, 0, 4, []) := by decide +kernel
theorem f128_146 : pm_f 128 146 = some (.if_icmp .ge 24, 3, 170, 0, 0, []) := by decide +kernel
theorem f128_149 : pm_f 128 149 = some (.aload_n 0, 1, 0, 0, 0, []) := by decide +kernel
theorem f128_150 : pm_f 128 150 = some (.getfield 38, 3, 8, 9, 2, []) := by decide +kernel
theorem f128_153 : pm_f 128 153 = some (.iconst 4, 1, 0, 0, 4, []) := by decide +kernel
theorem f128_154 : pm_f 128 154 = some (.aload_n 0, 1, 0, 0, 0, []) := by decide +kernel
theorem f128_155 : pm_f 128 155 = some (.getfield 7, 3, 8, 0, 0, []) := by decide +kernel
theorem f128_158 : pm_f 128 158 = some (.imul, 1, 0, 0, 0, []) := by decide +kernel
theorem f128_159 : pm_f 128 159 = some (.iload 6, 2, 6, 0, 0, []) := by decide +kernel
theorem f128_161 : pm_f 128 161 = some (.iadd, 1, 0, 0, 0, []) := by decide +kernel
theorem f128_162 : pm_f 128 162 = some (.iconst 0, 1, 0, 0, 0, []) := by decide +kernel
theorem f128_163 : pm_f 128 163 = some (.iastore, 1, 0, 0, 0, []) := by decide +kernel
theorem f128_164 : pm_f 128 164 = some (.iinc 6 1, 3, 6, 0, 1, []) := by decide +kernel
theorem f128_167 : pm_f 128 167 = some (.goto (-24), 3, 143, 0, 0, []) := by decide +kernel
theorem f128_170 : pm_f 128 170 = some (.aload_n 0, 1, 0, 0, 0, []) := by decide +kernel
theorem f128_171 : pm_f 128 171 = some (.dup, 1, 0, 0, 0, []) := by decide +kernel
theorem f128_172 : pm_f 128 172 = some (.getfield 7, 3, 8, 0, 0, []) := by decide +kernel
theorem f128_175 : pm_f 128 175 = some (.iconst 1, 1, 0, 0, 1, []) := by decide +kernel
theorem f128_176 : pm_f 128 176 = some (.iadd, 1, 0, 0, 0, []) := by decide +kernel
theorem f128_177 : pm_f 128 177 = some (.putfield 7, 3, 8, 0, 0, []) := by decide +kernel
theorem f128_180 : pm_f 128 180 = some (.aload_n 0, 1, 0, 0, 0, []) := by decide +kernel
theorem f128_181 : pm_f 128 181 = some (.getfield 7, 3, 8, 0, 0, []) := by decide +kernel
theorem f128_184 : pm_f 128 184 = some (.iconst 1, 1, 0, 0, 1, []) := by decide +kernel
theorem f128_185 : pm_f 128 185 = some (.isub, 1, 0, 0, 0, []) := by decide +kernel
theorem f128_186 : pm_f 128 186 = some (.ireturn, 1, 0, 0, 0, []) := by decide +kernel
theorem f129_0 : pm_f 129 0 = some (.aload_n 0, 1, 0, 0, 0, []) := by decide +kernel
theorem f129_1 : pm_f 129 1 = some (.iload_n 1, 1, 1, 0, 0, []) := by decide +kernel
theorem f129_2 : pm_f 129 2 = some (.invokevirtual 247, 3, 125, 1, 8, []) := by decide +kernel
theorem f129_5 : pm_f 129 5 = some (.ifCond .eq 13, 3, 18, 0, 0, []) := by decide +kernel
theorem f129_8 : pm_f 129 8 = some (.aload_n 0, 1, 0, 0, 0, []) := by decide +kernel
theorem f129_9 : pm_f 129 9 = some (.iload_n 2, 1, 2, 0, 0, []) := by decide +kernel
theorem f129_10 : pm_f 129 10 = some (.iconst 0, 1, 0, 0, 0, []) := by decide +kernel
theorem f129_11 : pm_f 129 11 = some (.iconst 2, 1, 0, 0, 2, []) := by decide +kernel
theorem f129_12 : pm_f 129 12 = some (.invokevirtual 239, 3, 122, 3, 8, []) := by decide +kernel
theorem f129_15 : pm_f 129 15 = some (.ifCond .ne 5, 3, 20, 0, 0, []) := by decide +kernel
theorem f129_18 : pm_f 129 18 = some (.iconst (-1), 1, 0, 0, (-1), []) := by decide +kernel
theorem f129_19 : pm_f 129 19 = some (.ireturn, 1, 0, 0, 0, []) := by decide +kernel
theorem f129_20 : pm_f 129 20 = some (.iload_n 2, 1, 2, 0, 0, []) := by decide +kernel
theorem f129_21 : pm_f 129 21 = some (.ifCond .ne 17, 3, 38, 0, 0, []) := by decide +kernel
theorem f129_24 : pm_f 129 24 = some (.aload_n 0, 1, 0, 0, 0, []) := by decide +kernel
theorem f129_25 : pm_f 129 25 = some (.iload_n 3, 1, 3, 0, 0, []) := by decide +kernel
theorem f129_26 : pm_f 129 26 = some (.iconst 0, 1, 0, 0, 0, []) := by decide +kernel
theorem f129_27 : pm_f 129 27 = some (.bipush 19, 2, 0, 0, 19, []) := by decide +kernel
theorem f129_29 : pm_f 129 29 = some (.invokevirtual 239, 3, 122, 3, 8, []) := by decide +kernel
theorem f129_32 : pm_f 129 32 = some (.ifCond .ne 36, 3, 68, 0, 0, []) := by decide +kernel
theorem f129_35 : pm_f 129 35 = some (.goto 30, 3, 65, 0, 0, []) := by decide +kernel
theorem f129_38 : pm_f 129 38 = some (.iload_n 2, 1, 2, 0, 0, []) := by decide +kernel
theorem f129_39 : pm_f 129 39 = some (.iconst 1, 1, 0, 0, 1, []) := by decide +kernel
theorem f129_40 : pm_f 129 40 = some (.if_icmp .ne 17, 3, 57, 0, 0, []) := by decide +kernel
theorem f129_43 : pm_f 129 43 = some (.aload_n 0, 1, 0, 0, 0, []) := by decide +kernel
theorem f129_44 : pm_f 129 44 = some (.iload_n 3, 1, 3, 0, 0, []) := by decide +kernel
theorem f129_45 : pm_f 129 45 = some (.iconst 0, 1, 0, 0, 0, []) := by decide +kernel
theorem f129_46 : pm_f 129 46 = some (.bipush 99, 2, 0, 0, 99, []) := by decide +kernel
theorem f129_48 : pm_f 129 48 = some (.invokevirtual 239, 3, 122, 3, 8, []) := by decide +kernel
theorem f129_51 : pm_f 129 51 = some (.ifCond .ne 17, 3, 68, 0, 0, []) := by decide +kernel
theorem f129_54 : pm_f 129 54 = some (.goto 11, 3, 65, 0, 0, []) := by decide +kernel
theorem f129_57 : pm_f 129 57 = some (.aload_n 0, 1, 0, 0, 0, []) := by decide +kernel
theorem f129_58 : pm_f 129 58 = some (.iload_n 3, 1, 3, 0, 0, []) := by decide +kernel
theorem f129_59 : pm_f 129 59 = some (.invokevirtual 243, 3, 126, 1, 8, []) := by decide +kernel
theorem f129_62 : pm_f 129 62 = some (.ifCond .ne 6, 3, 68, 0, 0, []) := by decide +kernel
theorem f129_65 : pm_f 129 65 = some (.bipush (-2), 2, 0, 0, (-2), []) := by decide +kernel
theorem f129_67 : pm_f 129 67 = some (.ireturn, 1, 0, 0, 0, []) := by decide +kernel
theorem f129_68 : pm_f 129 68 = some (.iload_n 2, 1, 2, 0, 0, []) := by decide +kernel
theorem f129_69 : pm_f 129 69 = some (.ifCond .ne 12, 3, 81, 0, 0, []) := by decide +kernel
theorem f129_72 : pm_f 129 72 = some (.aload_n 0, 1, 0, 0, 0, []) := by decide +kernel
theorem f129_73 : pm_f 129 73 = some (.getfield 29, 3, 8, 6, 2, []) := by decide +kernel
theorem f129_76 : pm_f 129 76 = some (.iload_n 1, 1, 1, 0, 0, []) := by decide +kernel
theorem f129_77 : pm_f 129 77 = some (.iaload, 1, 0, 0, 0, []) := by decide +kernel
theorem f129_78 : pm_f 129 78 = some (.goto 23, 3, 101, 0, 0, []) := by decide +kernel
theorem f129_81 : pm_f 129 81 = some (.iload_n 2, 1, 2, 0, 0, []) := by decide +kernel
theorem f129_82 : pm_f 129 82 = some (.iconst 1, 1, 0, 0, 1, []) := by decide +kernel
theorem f129_83 : pm_f 129 83 = some (.if_icmp .ne 12, 3, 95, 0, 0, []) := by decide +kernel
theorem f129_86 : pm_f 129 86 = some (.aload_n 0, 1, 0, 0, 0, []) := by decide +kernel
theorem f129_87 : pm_f 129 87 = some (.getfield 32, 3, 8, 7, 2, []) := by decide +kernel
theorem f129_90 : pm_f 129 90 = some (.iload_n 1, 1, 1, 0, 0, []) := by decide +kernel
theorem f129_91 : pm_f 129 91 = some (.iaload, 1, 0, 0, 0, []) := by decide +kernel
theorem f129_92 : pm_f 129 92 = some (.goto 9, 3, 101, 0, 0, []) := by decide +kernel
theorem f129_95 : pm_f 129 95 = some (.aload_n 0, 1, 0, 0, 0, []) := by decide +kernel
theorem f129_96 : pm_f 129 96 = some (.getfield 35, 3, 8, 8, 2, []) := by decide +kernel
theorem f129_99 : pm_f 129 99 = some (.iload_n 1, 1, 1, 0, 0, []) := by decide +kernel
theorem f129_100 : pm_f 129 100 = some (.iaload, 1, 0, 0, 0, []) := by decide +kernel
theorem f129_101 : pm_f 129 101 = some (.istore 4, 2, 4, 0, 0, []) := by decide +kernel
theorem f129_103 : pm_f 129 103 = some (.iload_n 2, 1, 2, 0, 0, []) := by decide +kernel
theorem f129_104 : pm_f 129 104 = some (.ifCond .ne 10, 3, 114, 0, 0, []) := by decide +kernel
theorem f129_107 : pm_f 129 107 = some (.aload_n 0, 1, 0, 0, 0, []) := by decide +kernel
theorem f129_108 : pm_f 129 108 = some (.getfield 29, 3, 8, 6, 2, []) := by decide +kernel
theorem f129_111 : pm_f 129 111 = some (.iload_n 1, 1, 1, 0, 0, []) := by decide +kernel
theorem f129_112 : pm_f 129 112 = some (.iload_n 3, 1, 3, 0, 0, []) := by decide +kernel
theorem f129_113 : pm_f 129 113 = some (.iastore, 1, 0, 0, 0, []) := by decide +kernel
theorem f129_114 : pm_f 129 114 = some (.iload_n 2, 1, 2, 0, 0, []) := by decide +kernel
theorem f129_115 : pm_f 129 115 = some (.iconst 1, 1, 0, 0, 1, []) := by decide +kernel
theorem f129_116 : pm_f 129 116 = some (.if_icmp .ne 10, 3, 126, 0, 0, []) := by decide +kernel
theorem f129_119 : pm_f 129 119 = some (.aload_n 0, 1, 0, 0, 0, []) := by decide +kernel
theorem f129_120 : pm_f 129 120 = some (.getfield 32, 3, 8, 7, 2, []) := by decide +kernel
theorem f129_123 : pm_f 129 123 = some (.iload_n 1, 1, 1, 0, 0, []) := by decide +kernel
theorem f129_124 : pm_f 129 124 = some (.iload_n 3, 1, 3, 0, 0, []) := by decide +kernel
theorem f129_125 : pm_f 129 125 = some (.iastore, 1, 0, 0, 0, []) := by decide +kernel
theorem f129_126 : pm_f 129 126 = some (.iload_n 2, 1, 2, 0, 0, []) := by decide +kernel
theorem f129_127 : pm_f 129 127 = some (.iconst 2, 1, 0, 0, 2, []) := by decide +kernel
theorem f129_128 : pm_f 129 128 = some (.if_icmp .ne 10, 3, 138, 0, 0, []) := by decide +kernel
theorem f129_131 : pm_f 129 131 = some (.aload_n 0, 1, 0, 0, 0, []) := by decide +kernel
theorem f129_132 : pm_f 129 132 = some (.getfield 35, 3, 8, 8, 2, []) := by decide +kernel
theorem f129_135 : pm_f 129 135 = some (.iload_n 1, 1, 1, 0, 0, []) := by decide +kernel
theorem f129_136 : pm_f 129 136 = some (.iload_n 3, 1, 3, 0, 0, []) := by decide +kernel
theorem f129_137 : pm_f 129 137 = some (.iastore, 1, 0, 0, 0, []) := by decide +kernel
theorem f129_138 : pm_f 129 138 = some (.iload 4, 2, 4, 0, 0, []) := by decide +kernel
theorem f129_140 : pm_f 129 140 = some (.ireturn, 1, 0, 0, 0, []) := by decide +kernel
theorem f130_0 : pm_f 130 0 = some (.aload_n 0, 1, 0, 0, 0, []) := by decide +kernel
theorem f130_1 : pm_f 130 1 = some (.iload_n 2, 1, 2, 0, 0, []) := by decide +kernel
theorem f130_2 : pm_f 130 2 = some (.ifCond .eq 14, 3, 16, 0, 0, []) := by decide +kernel
theorem f130_5 : pm_f 130 5 = some (.aload_n 0, 1, 0, 0, 0, []) := by decide +kernel
theorem f130_6 : pm_f 130 6 = some (.getfield 19, 3, 8, 3, 0, []) := by decide +kernel
theorem f130_9 : pm_f 130 9 = some (.iconst 1, 1, 0, 0, 1, []) := by decide +kernel
theorem f130_10 : pm_f 130 10 = some (.iload_n 1, 1, 1, 0, 0, []) := by decide +kernel
theorem f130_11 : pm_f 130 11 = some (.ishl, 1, 0, 0, 0, []) := by decide +kernel
theorem f130_12 : pm_f 130 12 = some (.ior, 1, 0, 0, 0, []) := by decide +kernel
theorem f130_13 : pm_f 130 13 = some (.goto 13, 3, 26, 0, 0, []) := by decide +kernel
theorem f130_16 : pm_f 130 16 = some (.aload_n 0, 1, 0, 0, 0, []) := by decide +kernel
theorem f130_17 : pm_f 130 17 = some (.getfield 19, 3, 8, 3, 0, []) := by decide +kernel
theorem f130_20 : pm_f 130 20 = some (.iconst 1, 1, 0, 0, 1, []) := by decide +kernel
theorem f130_21 : pm_f 130 21 = some (.iload_n 1, 1, 1, 0, 0, []) := by decide +kernel
theorem f130_22 : pm_f 130 22 = some (.ishl, 1, 0, 0, 0, []) := by decide +kernel
theorem f130_23 : pm_f 130 23 = some (.iconst (-1), 1, 0, 0, (-1), []) := by decide +kernel
theorem f130_24 : pm_f 130 24 = some (.ixor, 1, 0, 0, 0, []) := by decide +kernel
theorem f130_25 : pm_f 130 25 = some (.iand, 1, 0, 0, 0, []) := by decide +kernel
theorem f130_26 : pm_f 130 26 = some (.putfield 19, 3, 8, 3, 0, []) := by decide +kernel
theorem f130_29 : pm_f 130 29 = some (.return_, 1, 0, 0, 0, []) := by decide +kernel
theorem f131_0 : pm_f 131 0 = some (.aload_n 0, 1, 0, 0, 0, []) := by decide +kernel
theorem f131_1 : pm_f 131 1 = some (.iload_n 1, 1, 1, 0, 0, []) := by decide +kernel
theorem f131_2 : pm_f 131 2 = some (.invokevirtual 247, 3, 125, 1, 8, []) := by decide +kernel
theorem f131_5 : pm_f 131 5 = some (.ifCond .ne 5, 3, 10, 0, 0, []) := by decide +kernel
theorem f131_8 : pm_f 131 8 = some (.iconst (-1), 1, 0, 0, (-1), []) := by decide +kernel
theorem f131_9 : pm_f 131 9 = some (.ireturn, 1, 0, 0, 0, []) := by decide +kernel
theorem f131_10 : pm_f 131 10 = some (.aload_n 0, 1, 0, 0, 0, []) := by decide +kernel
theorem f131_11 : pm_f 131 11 = some (.aload_n 0, 1, 0, 0, 0, []) := by decide +kernel
theorem f131_12 : pm_f 131 12 = some (.getfield 19, 3, 8, 3, 0, []) := by decide +kernel
theorem f131_15 : pm_f 131 15 = some (.iload_n 1, 1, 1, 0, 0, []) := by decide +kernel
theorem f131_16 : pm_f 131 16 = some (.invokevirtual 250, 3, 124, 2, 8, []) := by decide +kernel
theorem f131_19 : pm_f 131 19 = some (.ifCond .eq 7, 3, 26, 0, 0, []) := by decide +kernel
theorem f131_22 : pm_f 131 22 = some (.iconst 1, 1, 0, 0, 1, []) := by decide +kernel
theorem f131_23 : pm_f 131 23 = some (.goto 4, 3, 27, 0, 0, []) := by decide +kernel
theorem f131_26 : pm_f 131 26 = some (.iconst 0, 1, 0, 0, 0, []) := by decide +kernel
theorem f131_27 : pm_f 131 27 = some (.istore_n 3, 1, 3, 0, 0, []) := by decide +kernel
theorem f131_28 : pm_f 131 28 = some (.aload_n 0, 1, 0, 0, 0, []) := by decide +kernel
theorem f131_29 : pm_f 131 29 = some (.iload_n 1, 1, 1, 0, 0, []) := by decide +kernel
theorem f131_30 : pm_f 131 30 = some (.iload_n 2, 1, 2, 0, 0, []) := by decide +kernel
theorem f131_31 : pm_f 131 31 = some (.invokevirtual 254, 3, 130, 2, 8, []) := by decide +kernel
theorem f131_34 : pm_f 131 34 = some (.iload_n 3, 1, 3, 0, 0, []) := by decide +kernel
theorem f131_35 : pm_f 131 35 = some (.ireturn, 1, 0, 0, 0, []) := by decide +kernel
theorem f132_0 : pm_f 132 0 = some (.aload_n 0, 1, 0, 0, 0, []) := by decide +kernel
theorem f132_1 : pm_f 132 1 = some (.iload_n 1, 1, 1, 0, 0, []) := by decide +kernel
theorem f132_2 : pm_f 132 2 = some (.invokevirtual 247, 3, 125, 1, 8, []) := by decide +kernel
theorem f132_5 : pm_f 132 5 = some (.ifCond .eq 13, 3, 18, 0, 0, []) := by decide +kernel
theorem f132_8 : pm_f 132 8 = some (.aload_n 0, 1, 0, 0, 0, []) := by decide +kernel
theorem f132_9 : pm_f 132 9 = some (.iload_n 2, 1, 2, 0, 0, []) := by decide +kernel
theorem f132_10 : pm_f 132 10 = some (.iconst 0, 1, 0, 0, 0, []) := by decide +kernel
theorem f132_11 : pm_f 132 11 = some (.iconst 3, 1, 0, 0, 3, []) := by decide +kernel
theorem f132_12 : pm_f 132 12 = some (.invokevirtual 239, 3, 122, 3, 8, []) := by decide +kernel
theorem f132_15 : pm_f 132 15 = some (.ifCond .ne 5, 3, 20, 0, 0, []) := by decide +kernel
theorem f132_18 : pm_f 132 18 = some (.iconst (-1), 1, 0, 0, (-1), []) := by decide +kernel
theorem f132_19 : pm_f 132 19 = some (.ireturn, 1, 0, 0, 0, []) := by decide +kernel
theorem f132_20 : pm_f 132 20 = some (.aload_n 0, 1, 0, 0, 0, []) := by decide +kernel
theorem f132_21 : pm_f 132 21 = some (.iload_n 3, 1, 3, 0, 0, []) := by decide +kernel
theorem f132_22 : pm_f 132 22 = some (.iconst 0, 1, 0, 0, 0, []) := by decide +kernel
theorem f132_23 : pm_f 132 23 = some (.bipush 9, 2, 0, 0, 9, []) := by decide +kernel
theorem f132_25 : pm_f 132 25 = some (.invokevirtual 239, 3, 122, 3, 8, []) := by decide +kernel
theorem f132_28 : pm_f 132 28 = some (.ifCond .ne 6, 3, 34, 0, 0, []) := by decide +kernel
theorem f132_31 : pm_f 132 31 = some (.bipush (-2), 2, 0, 0, (-2), []) := by decide +kernel
theorem f132_33 : pm_f 132 33 = some (.ireturn, 1, 0, 0, 0, []) := by decide +kernel
theorem f132_34 : pm_f 132 34 = some (.aload_n 0, 1, 0, 0, 0, []) := by decide +kernel
theorem f132_35 : pm_f 132 35 = some (.getfield 22, 3, 8, 4, 2, []) := by decide +kernel
theorem f132_38 : pm_f 132 38 = some (.iload_n 1, 1, 1, 0, 0, []) := by decide +kernel
theorem f132_39 : pm_f 132 39 = some (.iaload, 1, 0, 0, 0, []) := by decide +kernel
theorem f132_40 : pm_f 132 40 = some (.bipush 6, 2, 0, 0, 6, []) := by decide +kernel
theorem f132_42 : pm_f 132 42 = some (.if_icmp .eq 6, 3, 48, 0, 0, []) := by decide +kernel
theorem f132_45 : pm_f 132 45 = some (.bipush (-3), 2, 0, 0, (-3), []) := by decide +kernel
theorem f132_47 : pm_f 132 47 = some (.ireturn, 1, 0, 0, 0, []) := by decide +kernel
theorem f132_48 : pm_f 132 48 = some (.aload_n 0, 1, 0, 0, 0, []) := by decide +kernel
theorem f132_49 : pm_f 132 49 = some (.getfield 38, 3, 8, 9, 2, []) := by decide +kernel
theorem f132_52 : pm_f 132 52 = some (.iconst 4, 1, 0, 0, 4, []) := by decide +kernel
theorem f132_53 : pm_f 132 53 = some (.iload_n 1, 1, 1, 0, 0, []) := by decide +kernel
theorem f132_54 : pm_f 132 54 = some (.imul, 1, 0, 0, 0, []) := by decide +kernel
theorem f132_55 : pm_f 132 55 = some (.iload_n 2, 1, 2, 0, 0, []) := by decide +kernel
theorem f132_56 : pm_f 132 56 = some (.iadd, 1, 0, 0, 0, []) := by decide +kernel
theorem f132_57 : pm_f 132 57 = some (.iaload, 1, 0, 0, 0, []) := by decide +kernel
theorem f132_58 : pm_f 132 58 = some (.istore 4, 2, 4, 0, 0, []) := by decide +kernel
theorem f132_60 : pm_f 132 60 = some (.aload_n 0, 1, 0, 0, 0, []) := by decide +kernel
theorem f132_61 : pm_f 132 61 = some (.getfield 38, 3, 8, 9, 2, []) := by decide +kernel
theorem f132_64 : pm_f 132 64 = some (.iconst 4, 1, 0, 0, 4, []) := by decide +kernel
theorem f132_65 : pm_f 132 65 = some (.iload_n 1, 1, 1, 0, 0, []) := by decide +kernel
theorem f132_66 : pm_f 132 66 = some (.imul, 1, 0, 0, 0, []) := by decide +kernel
theorem f132_67 : pm_f 132 67 = some (.iload_n 2, 1, 2, 0, 0, []) := by decide +kernel
theorem f132_68 : pm_f 132 68 = some (.iadd, 1, 0, 0, 0, []) := by decide +kernel
theorem f132_69 : pm_f 132 69 = some (.iload_n 3, 1, 3, 0, 0, []) := by decide +kernel
theorem f132_70 : pm_f 132 70 = some (.iastore, 1, 0, 0, 0, []) := by decide +kernel
theorem f132_71 : pm_f 132 71 = some (.iload 4, 2, 4, 0, 0, []) := by decide +kernel
theorem f132_73 : pm_f 132 73 = some (.ireturn, 1, 0, 0, 0, []) := by decide +kernel
theorem f133_0 : pm_f 133 0 = some (.aload_n 0, 1, 0, 0, 0, []) := by decide +kernel
theorem f133_1 : pm_f 133 1 = some (.iload_n 1, 1, 1, 0, 0, []) := by decide +kernel
theorem f133_2 : pm_f 133 2 = some (.iconst 0, 1, 0, 0, 0, []) := by decide +kernel
theorem f133_3 : pm_f 133 3 = some (.bipush 127, 2, 0, 0, 127, []) := by decide +kernel
theorem f133_5 : pm_f 133 5 = some (.invokevirtual 239, 3, 122, 3, 8, []) := by decide +kernel
theorem f133_8 : pm_f 133 8 = some (.ifCond .ne 6, 3, 14, 0, 0, []) := by decide +kernel
theorem f133_11 : pm_f 133 11 = some (.bipush (-2), 2, 0, 0, (-2), []) := by decide +kernel
theorem f133_13 : pm_f 133 13 = some (.ireturn, 1, 0, 0, 0, []) := by decide +kernel
theorem f133_14 : pm_f 133 14 = some (.aload_n 0, 1, 0, 0, 0, []) := by decide +kernel
theorem f133_15 : pm_f 133 15 = some (.getfield 47, 3, 8, 12, 0, []) := by decide +kernel
theorem f133_18 : pm_f 133 18 = some (.bipush 100, 2, 0, 0, 100, []) := by decide +kernel
theorem f133_20 : pm_f 133 20 = some (.if_icmp .ne 6, 3, 26, 0, 0, []) := by decide +kernel
theorem f133_23 : pm_f 133 23 = some (.bipush (-4), 2, 0, 0, (-4), []) := by decide +kernel
theorem f133_25 : pm_f 133 25 = some (.ireturn, 1, 0, 0, 0, []) := by decide +kernel
theorem f133_26 : pm_f 133 26 = some (.aload_n 0, 1, 0, 0, 0, []) := by decide +kernel
theorem f133_27 : pm_f 133 27 = some (.getfield 56, 3, 8, 15, 2, []) := by decide +kernel
theorem f133_30 : pm_f 133 30 = some (.aload_n 0, 1, 0, 0, 0, []) := by decide +kernel
theorem f133_31 : pm_f 133 31 = some (.getfield 47, 3, 8, 12, 0, []) := by decide +kernel
theorem f133_34 : pm_f 133 34 = some (.iload_n 1, 1, 1, 0, 0, []) := by decide +kernel
theorem f133_35 : pm_f 133 35 = some (.iastore, 1, 0, 0, 0, []) := by decide +kernel
theorem f133_36 : pm_f 133 36 = some (.aload_n 0, 1, 0, 0, 0, []) := by decide +kernel
theorem f133_37 : pm_f 133 37 = some (.dup, 1, 0, 0, 0, []) := by decide +kernel
theorem f133_38 : pm_f 133 38 = some (.getfield 47, 3, 8, 12, 0, []) := by decide +kernel
theorem f133_41 : pm_f 133 41 = some (.iconst 1, 1, 0, 0, 1, []) := by decide +kernel
theorem f133_42 : pm_f 133 42 = some (.iadd, 1, 0, 0, 0, []) := by decide +kernel
theorem f133_43 : pm_f 133 43 = some (.putfield 47, 3, 8, 12, 0, []) := by decide +kernel
theorem f133_46 : pm_f 133 46 = some (.aload_n 0, 1, 0, 0, 0, []) := by decide +kernel
theorem f133_47 : pm_f 133 47 = some (.getfield 47, 3, 8, 12, 0, []) := by decide +kernel
theorem f133_50 : pm_f 133 50 = some (.ireturn, 1, 0, 0, 0, []) := by decide +kernel
theorem f134_0 : pm_f 134 0 = some (.aload_n 0, 1, 0, 0, 0, []) := by decide +kernel
theorem f134_1 : pm_f 134 1 = some (.getfield 50, 3, 8, 13, 0, []) := by decide +kernel
theorem f134_4 : pm_f 134 4 = some (.aload_n 0, 1, 0, 0, 0, []) := by decide +kernel
theorem f134_5 : pm_f 134 5 = some (.getfield 47, 3, 8, 12, 0, []) := by decide +kernel
theorem f134_8 : pm_f 134 8 = some (.if_icmp .ge 15, 3, 23, 0, 0, []) := by decide +kernel
theorem f134_11 : pm_f 134 11 = some (.aload_n 0, 1, 0, 0, 0, []) := by decide +kernel
theorem f134_12 : pm_f 134 12 = some (.getfield 56, 3, 8, 15, 2, []) := by decide +kernel
theorem f134_15 : pm_f 134 15 = some (.aload_n 0, 1, 0, 0, 0, []) := by decide +kernel
theorem f134_16 : pm_f 134 16 = some (.getfield 50, 3, 8, 13, 0, []) := by decide +kernel
theorem f134_19 : pm_f 134 19 = some (.iaload, 1, 0, 0, 0, []) := by decide +kernel
theorem f134_20 : pm_f 134 20 = some (.goto 4, 3, 24, 0, 0, []) := by decide +kernel
theorem f134_23 : pm_f 134 23 = some (.iconst (-1), 1, 0, 0, (-1), []) := by decide +kernel
theorem f134_24 : pm_f 134 24 = some (.ireturn, 1, 0, 0, 0, []) := by decide +kernel
theorem f135_0 : pm_f 135 0 = some (.aload_n 0, 1, 0, 0, 0, []) := by decide +kernel
theorem f135_1 : pm_f 135 1 = some (.getfield 50, 3, 8, 13, 0, []) := by decide +kernel
theorem f135_4 : pm_f 135 4 = some (.iconst 1, 1, 0, 0, 1, []) := by decide +kernel
theorem f135_5 : pm_f 135 5 = some (.iadd, 1, 0, 0, 0, []) := by decide +kernel
theorem f135_6 : pm_f 135 6 = some (.aload_n 0, 1, 0, 0, 0, []) := by decide +kernel
theorem f135_7 : pm_f 135 7 = some (.getfield 47, 3, 8, 12, 0, []) := by decide +kernel
theorem f135_10 : pm_f 135 10 = some (.if_icmp .ge 17, 3, 27, 0, 0, []) := by decide +kernel
theorem f135_13 : pm_f 135 13 = some (.aload_n 0, 1, 0, 0, 0, []) := by decide +kernel
theorem f135_14 : pm_f 135 14 = some (.getfield 56, 3, 8, 15, 2, []) := by decide +kernel
theorem f135_17 : pm_f 135 17 = some (.aload_n 0, 1, 0, 0, 0, []) := by decide +kernel
theorem f135_18 : pm_f 135 18 = some (.getfield 50, 3, 8, 13, 0, []) := by decide +kernel
theorem f135_21 : pm_f 135 21 = some (.iconst 1, 1, 0, 0, 1, []) := by decide +kernel
theorem f135_22 : pm_f 135 22 = some (.iadd, 1, 0, 0, 0, []) := by decide +kernel
theorem f135_23 : pm_f 135 23 = some (.iaload, 1, 0, 0, 0, []) := by decide +kernel
theorem f135_24 : pm_f 135 24 = some (.goto 4, 3, 28, 0, 0, []) := by decide +kernel
theorem f135_27 : pm_f 135 27 = some (.iconst (-1), 1, 0, 0, (-1), []) := by decide +kernel
theorem f135_28 : pm_f 135 28 = some (.ireturn, 1, 0, 0, 0, []) := by decide +kernel
theorem f136_0 : pm_f 136 0 = some (.aload_n 0, 1, 0, 0, 0, []) := by decide +kernel
theorem f136_1 : pm_f 136 1 = some (.invokevirtual 258, 3, 134, 0, 8, []) := by decide +kernel
theorem f136_4 : pm_f 136 4 = some (.iload_n 1, 1, 1, 0, 0, []) := by decide +kernel
theorem f136_5 : pm_f 136 5 = some (.if_icmp .eq 5, 3, 10, 0, 0, []) := by decide +kernel
theorem f136_8 : pm_f 136 8 = some (.iconst 0, 1, 0, 0, 0, []) := by decide +kernel
theorem f136_9 : pm_f 136 9 = some (.ireturn, 1, 0, 0, 1, []) := by decide +kernel
theorem f136_10 : pm_f 136 10 = some (.aload_n 0, 1, 0, 0, 0, []) := by decide +kernel
theorem f136_11 : pm_f 136 11 = some (.dup, 1, 0, 0, 0, []) := by decide +kernel
theorem f136_12 : pm_f 136 12 = some (.getfield 50, 3, 8, 13, 0, []) := by decide +kernel
theorem f136_15 : pm_f 136 15 = some (.iconst 1, 1, 0, 0, 1, []) := by decide +kernel
theorem f136_16 : pm_f 136 16 = some (.iadd, 1, 0, 0, 0, []) := by decide +kernel
theorem f136_17 : pm_f 136 17 = some (.putfield 50, 3, 8, 13, 0, []) := by decide +kernel
theorem f136_20 : pm_f 136 20 = some (.iconst 1, 1, 0, 0, 1, []) := by decide +kernel
theorem f136_21 : pm_f 136 21 = some (.ireturn, 1, 0, 0, 1, []) := by decide +kernel
theorem f137_0 : pm_f 137 0 = some (.iconst 0, 1, 0, 0, 0, []) := by decide +kernel
theorem f137_1 : pm_f 137 1 = some (.istore_n 3, 1, 3, 0, 0, []) := by decide +kernel
theorem f137_2 : pm_f 137 2 = some (.iload_n 3, 1, 3, 0, 0, []) := by decide +kernel
theorem f137_3 : pm_f 137 3 = some (.iload_n 2, 1, 2, 0, 0, []) := by decide +kernel
theorem f137_4 : pm_f 137 4 = some (.if_icmp .ge 26, 3, 30, 0, 0, []) := by decide +kernel
theorem f137_7 : pm_f 137 7 = some (.aload_n 0, 1, 0, 0, 0, []) := by decide +kernel
theorem f137_8 : pm_f 137 8 = some (.aload_n 0, 1, 0, 0, 0, []) := by decide +kernel
theorem f137_9 : pm_f 137 9 = some (.getfield 89, 3, 8, 26, 2, []) := by decide +kernel
theorem f137_12 : pm_f 137 12 = some (.iload_n 1, 1, 1, 0, 0, []) := by decide +kernel
theorem f137_13 : pm_f 137 13 = some (.iload_n 3, 1, 3, 0, 0, []) := by decide +kernel
theorem f137_14 : pm_f 137 14 = some (.iadd, 1, 0, 0, 0, []) := by decide +kernel
theorem f137_15 : pm_f 137 15 = some (.iaload, 1, 0, 0, 0, []) := by decide +kernel
theorem f137_16 : pm_f 137 16 = some (.invokevirtual 262, 3, 136, 1, 8, []) := by decide +kernel
theorem f137_19 : pm_f 137 19 = some (.ifCond .ne 5, 3, 24, 0, 0, []) := by decide +kernel
theorem f137_22 : pm_f 137 22 = some (.iconst 0, 1, 0, 0, 0, []) := by decide +kernel
theorem f137_23 : pm_f 137 23 = some (.ireturn, 1, 0, 0, 1, []) := by decide +kernel
theorem f137_24 : pm_f 137 24 = some (.iinc 3 1, 3, 3, 0, 1, []) := by decide +kernel
theorem f137_27 : pm_f 137 27 = some (.goto (-25), 3, 2, 0, 0, []) := by decide +kernel
theorem f137_30 : pm_f 137 30 = some (.aload_n 0, 1, 0, 0, 0, []) := by decide +kernel
theorem f137_31 : pm_f 137 31 = some (.bipush 32, 2, 0, 0, 32, []) := by decide +kernel
theorem f137_33 : pm_f 137 33 = some (.invokevirtual 262, 3, 136, 1, 8, []) := by decide +kernel
theorem f137_36 : pm_f 137 36 = some (.ireturn, 1, 0, 0, 1, []) := by decide +kernel
theorem f138_0 : pm_f 138 0 = some (.aload_n 0, 1, 0, 0, 0, []) := by decide +kernel
theorem f138_1 : pm_f 138 1 = some (.aload_n 0, 1, 0, 0, 0, []) := by decide +kernel
theorem f138_2 : pm_f 138 2 = some (.invokevirtual 258, 3, 134, 0, 8, []) := by decide +kernel
theorem f138_5 : pm_f 138 5 = some (.bipush 48, 2, 0, 0, 48, []) := by decide +kernel
theorem f138_7 : pm_f 138 7 = some (.bipush 57, 2, 0, 0, 57, []) := by decide +kernel
theorem f138_9 : pm_f 138 9 = some (.invokevirtual 239, 3, 122, 3, 8, []) := by decide +kernel
theorem f138_12 : pm_f 138 12 = some (.ireturn, 1, 0, 0, 1, []) := by decide +kernel
theorem f139_0 : pm_f 139 0 = some (.aload_n 0, 1, 0, 0, 0, []) := by decide +kernel
theorem f139_1 : pm_f 139 1 = some (.invokevirtual 265, 3, 138, 0, 8, []) := by decide +kernel
theorem f139_4 : pm_f 139 4 = some (.ifCond .ne 5, 3, 9, 0, 0, []) := by decide +kernel
theorem f139_7 : pm_f 139 7 = some (.iconst 0, 1, 0, 0, 0, []) := by decide +kernel
theorem f139_8 : pm_f 139 8 = some (.ireturn, 1, 0, 0, 1, []) := by decide +kernel
theorem f139_9 : pm_f 139 9 = some (.aload_n 0, 1, 0, 0, 0, []) := by decide +kernel
theorem f139_10 : pm_f 139 10 = some (.iconst 0, 1, 0, 0, 0, []) := by decide +kernel
theorem f139_11 : pm_f 139 11 = some (.putfield 53, 3, 8, 14, 0, []) := by decide +kernel
theorem f139_14 : pm_f 139 14 = some (.iconst 0, 1, 0, 0, 0, []) := by decide +kernel
theorem f139_15 : pm_f 139 15 = some (.istore_n 1, 1, 1, 0, 0, []) := by decide +kernel
theorem f139_16 : pm_f 139 16 = some (.iload_n 1, 1, 1, 0, 0, []) := by decide +kernel
theorem f139_17 : pm_f 139 17 = some (.iconst 2, 1, 0, 0, 2, []) := by decide +kernel
theorem f139_18 : pm_f 139 18 = some (.if_icmp .ge 45, 3, 63, 0, 0, []) := by decide +kernel
theorem f139_21 : pm_f 139 21 = some (.aload_n 0, 1, 0, 0, 0, []) := by decide +kernel
theorem f139_22 : pm_f 139 22 = some (.invokevirtual 265, 3, 138, 0, 8, []) := by decide +kernel
theorem f139_25 : pm_f 139 25 = some (.ifCond .eq 38, 3, 63, 0, 0, []) := by decide +kernel
theorem f139_28 : pm_f 139 28 = some (.aload_n 0, 1, 0, 0, 0, []) := by decide +kernel
theorem f139_29 : pm_f 139 29 = some (.bipush 10, 2, 0, 0, 10, []) := by decide +kernel
theorem f139_31 : pm_f 139 31 = some (.aload_n 0, 1, 0, 0, 0, []) := by decide +kernel
theorem f139_32 : pm_f 139 32 = some (.getfield 53, 3, 8, 14, 0, []) := by decide +kernel
theorem f139_35 : pm_f 139 35 = some (.imul, 1, 0, 0, 0, []) := by decide +kernel
theorem f139_36 : pm_f 139 36 = some (.aload_n 0, 1, 0, 0, 0, []) := by decide +kernel
theorem f139_37 : pm_f 139 37 = some (.invokevirtual 258, 3, 134, 0, 8, []) := by decide +kernel
theorem f139_40 : pm_f 139 40 = some (.iadd, 1, 0, 0, 0, []) := by decide +kernel
theorem f139_41 : pm_f 139 41 = some (.bipush 48, 2, 0, 0, 48, []) := by decide +kernel
theorem f139_43 : pm_f 139 43 = some (.isub, 1, 0, 0, 0, []) := by decide +kernel
theorem f139_44 : pm_f 139 44 = some (.putfield 53, 3, 8, 14, 0, []) := by decide +kernel
theorem f139_47 : pm_f 139 47 = some (.aload_n 0, 1, 0, 0, 0, []) := by decide +kernel
theorem f139_48 : pm_f 139 48 = some (.dup, 1, 0, 0, 0, []) := by decide +kernel
theorem f139_49 : pm_f 139 49 = some (.getfield 50, 3, 8, 13, 0, []) := by decide +kernel
theorem f139_52 : pm_f 139 52 = some (.iconst 1, 1, 0, 0, 1, []) := by decide +kernel
theorem f139_53 : pm_f 139 53 = some (.iadd, 1, 0, 0, 0, []) := by decide +kernel
theorem f139_54 : pm_f 139 54 = some (.putfield 50, 3, 8, 13, 0, []) := by decide +kernel
theorem f139_57 : pm_f 139 57 = some (.iinc 1 1, 3, 1, 0, 1, []) := by decide +kernel
theorem f139_60 : pm_f 139 60 = some (.goto (-44), 3, 16, 0, 0, []) := by decide +kernel
theorem f139_63 : pm_f 139 63 = some (.iconst 1, 1, 0, 0, 1, []) := by decide +kernel
theorem f139_64 : pm_f 139 64 = some (.ireturn, 1, 0, 0, 1, []) := by decide +kernel
theorem f140_0 : pm_f 140 0 = some (.aload_n 0, 1, 0, 0, 0, []) := by decide +kernel
theorem f140_1 : pm_f 140 1 = some (.getfield 74, 3, 8, 21, 2, []) := by decide +kernel
theorem f140_4 : pm_f 140 4 = some (.aload_n 0, 1, 0, 0, 0, []) := by decide +kernel
theorem f140_5 : pm_f 140 5 = some (.getfield 80, 3, 8, 23, 0, []) := by decide +kernel
theorem f140_8 : pm_f 140 8 = some (.iload_n 1, 1, 1, 0, 0, []) := by decide +kernel
theorem f140_9 : pm_f 140 9 = some (.iastore, 1, 0, 0, 0, []) := by decide +kernel
theorem f140_10 : pm_f 140 10 = some (.aload_n 0, 1, 0, 0, 0, []) := by decide +kernel
theorem f140_11 : pm_f 140 11 = some (.dup, 1, 0, 0, 0, []) := by decide +kernel
theorem f140_12 : pm_f 140 12 = some (.getfield 80, 3, 8, 23, 0, []) := by decide +kernel
theorem f140_15 : pm_f 140 15 = some (.iconst 1, 1, 0, 0, 1, []) := by decide +kernel
theorem f140_16 : pm_f 140 16 = some (.iadd, 1, 0, 0, 0, []) := by decide +kernel
theorem f140_17 : pm_f 140 17 = some (.putfield 80, 3, 8, 23, 0, []) := by decide +kernel
theorem f140_20 : pm_f 140 20 = some (.return_, 1, 0, 0, 0, []) := by decide +kernel
theorem f141_0 : pm_f 141 0 = some (.aload_n 0, 1, 0, 0, 0, []) := by decide +kernel
theorem f141_1 : pm_f 141 1 = some (.getfield 83, 3, 8, 24, 0, []) := by decide +kernel
theorem f141_4 : pm_f 141 4 = some (.ifCond .le 48, 3, 52, 0, 0, []) := by decide +kernel
theorem f141_7 : pm_f 141 7 = some (.aload_n 0, 1, 0, 0, 0, []) := by decide +kernel
theorem f141_8 : pm_f 141 8 = some (.getfield 77, 3, 8, 22, 2, []) := by decide +kernel
theorem f141_11 : pm_f 141 11 = some (.aload_n 0, 1, 0, 0, 0, []) := by decide +kernel
theorem f141_12 : pm_f 141 12 = some (.getfield 83, 3, 8, 24, 0, []) := by decide +kernel
theorem f141_15 : pm_f 141 15 = some (.iconst 1, 1, 0, 0, 1, []) := by decide +kernel
theorem f141_16 : pm_f 141 16 = some (.isub, 1, 0, 0, 0, []) := by decide +kernel
theorem f141_17 : pm_f 141 17 = some (.iaload, 1, 0, 0, 0, []) := by decide +kernel
theorem f141_18 : pm_f 141 18 = some (.bipush 33, 2, 0, 0, 33, []) := by decide +kernel
theorem f141_20 : pm_f 141 20 = some (.if_icmp .ne 32, 3, 52, 0, 0, []) := by decide +kernel
theorem f141_23 : pm_f 141 23 = some (.aload_n 0, 1, 0, 0, 0, []) := by decide +kernel
theorem f141_24 : pm_f 141 24 = some (.bipush (-33), 2, 0, 0, (-33), []) := by decide +kernel
theorem f141_26 : pm_f 141 26 = some (.invokevirtual 269, 3, 140, 1, 8, []) := by decide +kernel
theorem f141_29 : pm_f 141 29 = some (.aload_n 0, 1, 0, 0, 0, []) := by decide +kernel
theorem f141_30 : pm_f 141 30 = some (.dup, 1, 0, 0, 0, []) := by decide +kernel
theorem f141_31 : pm_f 141 31 = some (.getfield 83, 3, 8, 24, 0, []) := by decide +kernel
theorem f141_34 : pm_f 141 34 = some (.iconst 1, 1, 0, 0, 1, []) := by decide +kernel
theorem f141_35 : pm_f 141 35 = some (.isub, 1, 0, 0, 0, []) := by decide +kernel
theorem f141_36 : pm_f 141 36 = some (.putfield 83, 3, 8, 24, 0, []) := by decide +kernel
theorem f141_39 : pm_f 141 39 = some (.aload_n 0, 1, 0, 0, 0, []) := by decide +kernel
theorem f141_40 : pm_f 141 40 = some (.dup, 1, 0, 0, 0, []) := by decide +kernel
theorem f141_41 : pm_f 141 41 = some (.getfield 86, 3, 8, 25, 0, []) := by decide +kernel
theorem f141_44 : pm_f 141 44 = some (.iconst 1, 1, 0, 0, 1, []) := by decide +kernel
theorem f141_45 : pm_f 141 45 = some (.isub, 1, 0, 0, 0, []) := by decide +kernel
theorem f141_46 : pm_f 141 46 = some (.putfield 86, 3, 8, 25, 0, []) := by decide +kernel
theorem f141_49 : pm_f 141 49 = some (.goto (-49), 3, 0, 0, 0, []) := by decide +kernel
theorem f141_52 : pm_f 141 52 = some (.return_, 1, 0, 0, 0, []) := by decide +kernel
theorem f142_0 : pm_f 142 0 = some (.aload_n 0, 1, 0, 0, 0, []) := by decide +kernel
theorem f142_1 : pm_f 142 1 = some (.getfield 83, 3, 8, 24, 0, []) := by decide +kernel
theorem f142_4 : pm_f 142 4 = some (.ifCond .le 68, 3, 72, 0, 0, []) := by decide +kernel
theorem f142_7 : pm_f 142 7 = some (.aload_n 0, 1, 0, 0, 0, []) := by decide +kernel
theorem f142_8 : pm_f 142 8 = some (.getfield 77, 3, 8, 22, 2, []) := by decide +kernel
theorem f142_11 : pm_f 142 11 = some (.aload_n 0, 1, 0, 0, 0, []) := by decide +kernel
theorem f142_12 : pm_f 142 12 = some (.getfield 83, 3, 8, 24, 0, []) := by decide +kernel
theorem f142_15 : pm_f 142 15 = some (.iconst 1, 1, 0, 0, 1, []) := by decide +kernel
theorem f142_16 : pm_f 142 16 = some (.isub, 1, 0, 0, 0, []) := by decide +kernel
theorem f142_17 : pm_f 142 17 = some (.iaload, 1, 0, 0, 0, []) := by decide +kernel
theorem f142_18 : pm_f 142 18 = some (.bipush 38, 2, 0, 0, 38, []) := by decide +kernel
theorem f142_20 : pm_f 142 20 = some (.if_icmp .eq 25, 3, 45, 0, 0, []) := by decide +kernel
theorem f142_23 : pm_f 142 23 = some (.aload_n 0, 1, 0, 0, 0, []) := by decide +kernel
theorem f142_24 : pm_f 142 24 = some (.getfield 77, 3, 8, 22, 2, []) := by decide +kernel
theorem f142_27 : pm_f 142 27 = some (.aload_n 0, 1, 0, 0, 0, []) := by decide +kernel
theorem f142_28 : pm_f 142 28 = some (.getfield 83, 3, 8, 24, 0, []) := by decide +kernel
theorem f142_31 : pm_f 142 31 = some (.iconst 1, 1, 0, 0, 1, []) := by decide +kernel
theorem f142_32 : pm_f 142 32 = some (.isub, 1, 0, 0, 0, []) := by decide +kernel
theorem f142_33 : pm_f 142 33 = some (.iaload, 1, 0, 0, 0, []) := by decide +kernel
theorem f142_34 : pm_f 142 34 = some (.bipush 124, 2, 0, 0, 124, []) := by decide +kernel
theorem f142_36 : pm_f 142 36 = some (.if_icmp .ne 36, 3, 72, 0, 0, []) := by decide +kernel
theorem f142_39 : pm_f 142 39 = some (.iload_n 1, 1, 1, 0, 0, []) := by decide +kernel
theorem f142_40 : pm_f 142 40 = some (.bipush 38, 2, 0, 0, 38, []) := by decide +kernel
theorem f142_42 : pm_f 142 42 = some (.if_icmp .eq 30, 3, 72, 0, 0, []) := by decide +kernel
theorem f142_45 : pm_f 142 45 = some (.aload_n 0, 1, 0, 0, 0, []) := by decide +kernel
theorem f142_46 : pm_f 142 46 = some (.dup, 1, 0, 0, 0, []) := by decide +kernel
theorem f142_47 : pm_f 142 47 = some (.getfield 83, 3, 8, 24, 0, []) := by decide +kernel
theorem f142_50 : pm_f 142 50 = some (.iconst 1, 1, 0, 0, 1, []) := by decide +kernel
theorem f142_51 : pm_f 142 51 = some (.isub, 1, 0, 0, 0, []) := by decide +kernel
theorem f142_52 : pm_f 142 52 = some (.putfield 83, 3, 8, 24, 0, []) := by decide +kernel
theorem f142_55 : pm_f 142 55 = some (.aload_n 0, 1, 0, 0, 0, []) := by decide +kernel
theorem f142_56 : pm_f 142 56 = some (.aload_n 0, 1, 0, 0, 0, []) := by decide +kernel
theorem f142_57 : pm_f 142 57 = some (.getfield 77, 3, 8, 22, 2, []) := by decide +kernel
theorem f142_60 : pm_f 142 60 = some (.aload_n 0, 1, 0, 0, 0, []) := by decide +kernel
theorem f142_61 : pm_f 142 61 = some (.getfield 83, 3, 8, 24, 0, []) := by decide +kernel
theorem f142_64 : pm_f 142 64 = some (.iaload, 1, 0, 0, 0, []) := by decide +kernel
theorem f142_65 : pm_f 142 65 = some (.ineg, 1, 0, 0, 0, []) := by decide +kernel
theorem f142_66 : pm_f 142 66 = some (.invokevirtual 269, 3, 140, 1, 8, []) := by decide +kernel
theorem f142_69 : pm_f 142 69 = some (.goto (-69), 3, 0, 0, 0, []) := by decide +kernel
theorem f142_72 : pm_f 142 72 = some (.return_, 1, 0, 0, 0, []) := by decide +kernel
theorem f143_0 : pm_f 143 0 = some (.iload_n 1, 1, 1, 0, 0, []) := by decide +kernel
theorem f143_1 : pm_f 143 1 = some (.lookupswitch 71 #[(98, 69), (99, 67), (107, 61), (108, 65), (112, 59), (118, 63)], 59, 72, 0, 0, [(98, 70), (99, 68), (107, 62), (108, 66), (112, 60), (118, 64)]) := by decide +kernel
theorem f143_60 : pm_f 143 60 = some (.iconst 0, 1, 0, 0, 0, []) := by decide +kernel
theorem f143_61 : pm_f 143 61 = some (.ireturn, 1, 0, 0, 0, []) := by decide +kernel
theorem f143_62 : pm_f 143 62 = some (.iconst 1, 1, 0, 0, 1, []) := by decide +kernel
theorem f143_63 : pm_f 143 63 = some (.ireturn, 1, 0, 0, 0, []) := by decide +kernel
theorem f143_64 : pm_f 143 64 = some (.iconst 2, 1, 0, 0, 2, []) := by decide +kernel
theorem f143_65 : pm_f 143 65 = some (.ireturn, 1, 0, 0, 0, []) := by decide +kernel
theorem f143_66 : pm_f 143 66 = some (.iconst 3, 1, 0, 0, 3, []) := by decide +kernel
theorem f143_67 : pm_f 143 67 = some (.ireturn, 1, 0, 0, 0, []) := by decide +kernel
theorem f143_68 : pm_f 143 68 = some (.iconst 4, 1, 0, 0, 4, []) := by decide +kernel
theorem f143_69 : pm_f 143 69 = some (.ireturn, 1, 0, 0, 0, []) := by decide +kernel
theorem f143_70 : pm_f 143 70 = some (.iconst 5, 1, 0, 0, 5, []) := by decide +kernel
theorem f143_71 : pm_f 143 71 = some (.ireturn, 1, 0, 0, 0, []) := by decide +kernel
theorem f143_72 : pm_f 143 72 = some (.iconst (-1), 1, 0, 0, (-1), []) := by decide +kernel
theorem f143_73 : pm_f 143 73 = some (.ireturn, 1, 0, 0, 0, []) := by decide +kernel
theorem f144_0 : pm_f 144 0 = some (.aload_n 0, 1, 0, 0, 0, []) := by decide +kernel
theorem f144_1 : pm_f 144 1 = some (.aload_n 0, 1, 0, 0, 0, []) := by decide +kernel
theorem f144_2 : pm_f 144 2 = some (.invokevirtual 258, 3, 134, 0, 8, []) := by decide +kernel
theorem f144_5 : pm_f 144 5 = some (.invokevirtual 273, 3, 143, 1, 8, []) := by decide +kernel
theorem f144_8 : pm_f 144 8 = some (.istore_n 1, 1, 1, 0, 0, []) := by decide +kernel
theorem f144_9 : pm_f 144 9 = some (.iload_n 1, 1, 1, 0, 0, []) := by decide +kernel
theorem f144_10 : pm_f 144 10 = some (.ifCond .ge 5, 3, 15, 0, 0, []) := by decide +kernel
theorem f144_13 : pm_f 144 13 = some (.iconst 0, 1, 0, 0, 0, []) := by decide +kernel
theorem f144_14 : pm_f 144 14 = some (.ireturn, 1, 0, 0, 1, []) := by decide +kernel
theorem f144_15 : pm_f 144 15 = some (.aload_n 0, 1, 0, 0, 0, []) := by decide +kernel
theorem f144_16 : pm_f 144 16 = some (.dup, 1, 0, 0, 0, []) := by decide +kernel
theorem f144_17 : pm_f 144 17 = some (.getfield 50, 3, 8, 13, 0, []) := by decide +kernel
theorem f144_20 : pm_f 144 20 = some (.iconst 1, 1, 0, 0, 1, []) := by decide +kernel
theorem f144_21 : pm_f 144 21 = some (.iadd, 1, 0, 0, 0, []) := by decide +kernel
theorem f144_22 : pm_f 144 22 = some (.putfield 50, 3, 8, 13, 0, []) := by decide +kernel
theorem f144_25 : pm_f 144 25 = some (.aload_n 0, 1, 0, 0, 0, []) := by decide +kernel
theorem f144_26 : pm_f 144 26 = some (.invokevirtual 258, 3, 134, 0, 8, []) := by decide +kernel
theorem f144_29 : pm_f 144 29 = some (.istore_n 2, 1, 2, 0, 0, []) := by decide +kernel
theorem f144_30 : pm_f 144 30 = some (.aload_n 0, 1, 0, 0, 0, []) := by decide +kernel
theorem f144_31 : pm_f 144 31 = some (.iload_n 2, 1, 2, 0, 0, []) := by decide +kernel
theorem f144_32 : pm_f 144 32 = some (.bipush 60, 2, 0, 0, 60, []) := by decide +kernel
theorem f144_34 : pm_f 144 34 = some (.bipush 62, 2, 0, 0, 62, []) := by decide +kernel
theorem f144_36 : pm_f 144 36 = some (.invokevirtual 239, 3, 122, 3, 8, []) := by decide +kernel
theorem f144_39 : pm_f 144 39 = some (.ifCond .ne 5, 3, 44, 0, 0, []) := by decide +kernel
theorem f144_42 : pm_f 144 42 = some (.iconst 0, 1, 0, 0, 0, []) := by decide +kernel
theorem f144_43 : pm_f 144 43 = some (.ireturn, 1, 0, 0, 1, []) := by decide +kernel
theorem f144_44 : pm_f 144 44 = some (.aload_n 0, 1, 0, 0, 0, []) := by decide +kernel
theorem f144_45 : pm_f 144 45 = some (.dup, 1, 0, 0, 0, []) := by decide +kernel
theorem f144_46 : pm_f 144 46 = some (.getfield 50, 3, 8, 13, 0, []) := by decide +kernel
theorem f144_49 : pm_f 144 49 = some (.iconst 1, 1, 0, 0, 1, []) := by decide +kernel
theorem f144_50 : pm_f 144 50 = some (.iadd, 1, 0, 0, 0, []) := by decide +kernel
theorem f144_51 : pm_f 144 51 = some (.putfield 50, 3, 8, 13, 0, []) := by decide +kernel
theorem f144_54 : pm_f 144 54 = some (.aload_n 0, 1, 0, 0, 0, []) := by decide +kernel
theorem f144_55 : pm_f 144 55 = some (.invokevirtual 277, 3, 139, 0, 8, []) := by decide +kernel
theorem f144_58 : pm_f 144 58 = some (.ifCond .ne 5, 3, 63, 0, 0, []) := by decide +kernel
theorem f144_61 : pm_f 144 61 = some (.iconst 0, 1, 0, 0, 0, []) := by decide +kernel
theorem f144_62 : pm_f 144 62 = some (.ireturn, 1, 0, 0, 1, []) := by decide +kernel
theorem f144_63 : pm_f 144 63 = some (.aload_n 0, 1, 0, 0, 0, []) := by decide +kernel
theorem f144_64 : pm_f 144 64 = some (.sipush 1000, 3, 0, 0, 1000, []) := by decide +kernel
theorem f144_67 : pm_f 144 67 = some (.iload_n 1, 1, 1, 0, 0, []) := by decide +kernel
theorem f144_68 : pm_f 144 68 = some (.imul, 1, 0, 0, 0, []) := by decide +kernel
theorem f144_69 : pm_f 144 69 = some (.bipush 100, 2, 0, 0, 100, []) := by decide +kernel
theorem f144_71 : pm_f 144 71 = some (.iload_n 2, 1, 2, 0, 0, []) := by decide +kernel
theorem f144_72 : pm_f 144 72 = some (.bipush 60, 2, 0, 0, 60, []) := by decide +kernel
theorem f144_74 : pm_f 144 74 = some (.isub, 1, 0, 0, 0, []) := by decide +kernel
theorem f144_75 : pm_f 144 75 = some (.imul, 1, 0, 0, 0, []) := by decide +kernel
theorem f144_76 : pm_f 144 76 = some (.iadd, 1, 0, 0, 0, []) := by decide +kernel
theorem f144_77 : pm_f 144 77 = some (.aload_n 0, 1, 0, 0, 0, []) := by decide +kernel
theorem f144_78 : pm_f 144 78 = some (.getfield 53, 3, 8, 14, 0, []) := by decide +kernel
theorem f144_81 : pm_f 144 81 = some (.iadd, 1, 0, 0, 0, []) := by decide +kernel
theorem f144_82 : pm_f 144 82 = some (.invokevirtual 269, 3, 140, 1, 8, []) := by decide +kernel
theorem f144_85 : pm_f 144 85 = some (.aload_n 0, 1, 0, 0, 0, []) := by decide +kernel
theorem f144_86 : pm_f 144 86 = some (.invokevirtual 280, 3, 141, 0, 8, []) := by decide +kernel
theorem f144_89 : pm_f 144 89 = some (.iconst 1, 1, 0, 0, 1, []) := by decide +kernel
theorem f144_90 : pm_f 144 90 = some (.ireturn, 1, 0, 0, 1, []) := by decide +kernel
theorem f145_0 : pm_f 145 0 = some (.aload_n 0, 1, 0, 0, 0, []) := by decide +kernel
theorem f145_1 : pm_f 145 1 = some (.iconst 0, 1, 0, 0, 0, []) := by decide +kernel
theorem f145_2 : pm_f 145 2 = some (.putfield 83, 3, 8, 24, 0, []) := by decide +kernel
theorem f145_5 : pm_f 145 5 = some (.aload_n 0, 1, 0, 0, 0, []) := by decide +kernel
theorem f145_6 : pm_f 145 6 = some (.iconst 0, 1, 0, 0, 0, []) := by decide +kernel
theorem f145_7 : pm_f 145 7 = some (.putfield 86, 3, 8, 25, 0, []) := by decide +kernel
theorem f145_10 : pm_f 145 10 = some (.aload_n 0, 1, 0, 0, 0, []) := by decide +kernel
theorem f145_11 : pm_f 145 11 = some (.getfield 68, 3, 8, 19, 2, []) := by decide +kernel
theorem f145_14 : pm_f 145 14 = some (.iload_n 1, 1, 1, 0, 0, []) := by decide +kernel
theorem f145_15 : pm_f 145 15 = some (.aload_n 0, 1, 0, 0, 0, []) := by decide +kernel
theorem f145_16 : pm_f 145 16 = some (.getfield 80, 3, 8, 23, 0, []) := by decide +kernel
theorem f145_19 : pm_f 145 19 = some (.iastore, 1, 0, 0, 0, []) := by decide +kernel
theorem f145_20 : pm_f 145 20 = some (.iconst 1, 1, 0, 0, 1, []) := by decide +kernel
theorem f145_21 : pm_f 145 21 = some (.istore_n 2, 1, 2, 0, 0, []) := by decide +kernel
theorem f145_22 : pm_f 145 22 = some (.aload_n 0, 1, 0, 0, 0, []) := by decide +kernel
theorem f145_23 : pm_f 145 23 = some (.invokevirtual 258, 3, 134, 0, 8, []) := by decide +kernel
theorem f145_26 : pm_f 145 26 = some (.istore_n 3, 1, 3, 0, 0, []) := by decide +kernel
theorem f145_27 : pm_f 145 27 = some (.iload_n 2, 1, 2, 0, 0, []) := by decide +kernel
theorem f145_28 : pm_f 145 28 = some (.ifCond .eq 82, 3, 110, 0, 0, []) := by decide +kernel
theorem f145_31 : pm_f 145 31 = some (.iload_n 3, 1, 3, 0, 0, []) := by decide +kernel
theorem f145_32 : pm_f 145 32 = some (.bipush 33, 2, 0, 0, 33, []) := by decide +kernel
theorem f145_34 : pm_f 145 34 = some (.if_icmp .eq 9, 3, 43, 0, 0, []) := by decide +kernel
theorem f145_37 : pm_f 145 37 = some (.iload_n 3, 1, 3, 0, 0, []) := by decide +kernel
theorem f145_38 : pm_f 145 38 = some (.bipush 40, 2, 0, 0, 40, []) := by decide +kernel
theorem f145_40 : pm_f 145 40 = some (.if_icmp .ne 56, 3, 96, 0, 0, []) := by decide +kernel
theorem f145_43 : pm_f 145 43 = some (.aload_n 0, 1, 0, 0, 0, []) := by decide +kernel
theorem f145_44 : pm_f 145 44 = some (.getfield 86, 3, 8, 25, 0, []) := by decide +kernel
theorem f145_47 : pm_f 145 47 = some (.iconst 4, 1, 0, 0, 4, []) := by decide +kernel
theorem f145_48 : pm_f 145 48 = some (.if_icmp .ne 5, 3, 53, 0, 0, []) := by decide +kernel
theorem f145_51 : pm_f 145 51 = some (.iconst 0, 1, 0, 0, 0, []) := by decide +kernel
theorem f145_52 : pm_f 145 52 = some (.ireturn, 1, 0, 0, 1, []) := by decide +kernel
theorem f145_53 : pm_f 145 53 = some (.aload_n 0, 1, 0, 0, 0, []) := by decide +kernel
theorem f145_54 : pm_f 145 54 = some (.dup, 1, 0, 0, 0, []) := by decide +kernel
theorem f145_55 : pm_f 145 55 = some (.getfield 86, 3, 8, 25, 0, []) := by decide +kernel
theorem f145_58 : pm_f 145 58 = some (.iconst 1, 1, 0, 0, 1, []) := by decide +kernel
theorem f145_59 : pm_f 145 59 = some (.iadd, 1, 0, 0, 0, []) := by decide +kernel
theorem f145_60 : pm_f 145 60 = some (.putfield 86, 3, 8, 25, 0, []) := by decide +kernel
theorem f145_63 : pm_f 145 63 = some (.aload_n 0, 1, 0, 0, 0, []) := by decide +kernel
theorem f145_64 : pm_f 145 64 = some (.getfield 77, 3, 8, 22, 2, []) := by decide +kernel
theorem f145_67 : pm_f 145 67 = some (.aload_n 0, 1, 0, 0, 0, []) := by decide +kernel
theorem f145_68 : pm_f 145 68 = some (.getfield 83, 3, 8, 24, 0, []) := by decide +kernel
theorem f145_71 : pm_f 145 71 = some (.iload_n 3, 1, 3, 0, 0, []) := by decide +kernel
theorem f145_72 : pm_f 145 72 = some (.iastore, 1, 0, 0, 0, []) := by decide +kernel
theorem f145_73 : pm_f 145 73 = some (.aload_n 0, 1, 0, 0, 0, []) := by decide +kernel
theorem f145_74 : pm_f 145 74 = some (.dup, 1, 0, 0, 0, []) := by decide +kernel
theorem f145_75 : pm_f 145 75 = some (.getfield 83, 3, 8, 24, 0, []) := by decide +kernel
theorem f145_78 : pm_f 145 78 = some (.iconst 1, 1, 0, 0, 1, []) := by decide +kernel
theorem f145_79 : pm_f 145 79 = some (.iadd, 1, 0, 0, 0, []) := by decide +kernel
theorem f145_80 : pm_f 145 80 = some (.putfield 83, 3, 8, 24, 0, []) := by decide +kernel
theorem f145_83 : pm_f 145 83 = some (.aload_n 0, 1, 0, 0, 0, []) := by decide +kernel
theorem f145_84 : pm_f 145 84 = some (.dup, 1, 0, 0, 0, []) := by decide +kernel
theorem f145_85 : pm_f 145 85 = some (.getfield 50, 3, 8, 13, 0, []) := by decide +kernel
theorem f145_88 : pm_f 145 88 = some (.iconst 1, 1, 0, 0, 1, []) := by decide +kernel
theorem f145_89 : pm_f 145 89 = some (.iadd, 1, 0, 0, 0, []) := by decide +kernel
theorem f145_90 : pm_f 145 90 = some (.putfield 50, 3, 8, 13, 0, []) := by decide +kernel
theorem f145_93 : pm_f 145 93 = some (.goto (-71), 3, 22, 0, 0, []) := by decide +kernel
theorem f145_96 : pm_f 145 96 = some (.aload_n 0, 1, 0, 0, 0, []) := by decide +kernel
theorem f145_97 : pm_f 145 97 = some (.invokevirtual 283, 3, 144, 0, 8, []) := by decide +kernel
theorem f145_100 : pm_f 145 100 = some (.ifCond .eq 8, 3, 108, 0, 0, []) := by decide +kernel
theorem f145_103 : pm_f 145 103 = some (.iconst 0, 1, 0, 0, 0, []) := by decide +kernel
theorem f145_104 : pm_f 145 104 = some (.istore_n 2, 1, 2, 0, 0, []) := by decide +kernel
theorem f145_105 : pm_f 145 105 = some (.goto (-83), 3, 22, 0, 0, []) := by decide +kernel
theorem f145_108 : pm_f 145 108 = some (.iconst 0, 1, 0, 0, 0, []) := by decide +kernel
theorem f145_109 : pm_f 145 109 = some (.ireturn, 1, 0, 0, 1, []) := by decide +kernel
theorem f145_110 : pm_f 145 110 = some (.iload_n 3, 1, 3, 0, 0, []) := by decide +kernel
theorem f145_111 : pm_f 145 111 = some (.bipush 38, 2, 0, 0, 38, []) := by decide +kernel
theorem f145_113 : pm_f 145 113 = some (.if_icmp .eq 9, 3, 122, 0, 0, []) := by decide +kernel
theorem f145_116 : pm_f 145 116 = some (.iload_n 3, 1, 3, 0, 0, []) := by decide +kernel
theorem f145_117 : pm_f 145 117 = some (.bipush 124, 2, 0, 0, 124, []) := by decide +kernel
theorem f145_119 : pm_f 145 119 = some (.if_icmp .ne 43, 3, 162, 0, 0, []) := by decide +kernel
theorem f145_122 : pm_f 145 122 = some (.aload_n 0, 1, 0, 0, 0, []) := by decide +kernel
theorem f145_123 : pm_f 145 123 = some (.iload_n 3, 1, 3, 0, 0, []) := by decide +kernel
theorem f145_124 : pm_f 145 124 = some (.invokevirtual 286, 3, 142, 1, 8, []) := by decide +kernel
theorem f145_127 : pm_f 145 127 = some (.aload_n 0, 1, 0, 0, 0, []) := by decide +kernel
theorem f145_128 : pm_f 145 128 = some (.getfield 77, 3, 8, 22, 2, []) := by decide +kernel
theorem f145_131 : pm_f 145 131 = some (.aload_n 0, 1, 0, 0, 0, []) := by decide +kernel
theorem f145_132 : pm_f 145 132 = some (.getfield 83, 3, 8, 24, 0, []) := by decide +kernel
theorem f145_135 : pm_f 145 135 = some (.iload_n 3, 1, 3, 0, 0, []) := by decide +kernel
theorem f145_136 : pm_f 145 136 = some (.iastore, 1, 0, 0, 0, []) := by decide +kernel
theorem f145_137 : pm_f 145 137 = some (.aload_n 0, 1, 0, 0, 0, []) := by decide +kernel
theorem f145_138 : pm_f 145 138 = some (.dup, 1, 0, 0, 0, []) := by decide +kernel
theorem f145_139 : pm_f 145 139 = some (.getfield 83, 3, 8, 24, 0, []) := by decide +kernel
theorem f145_142 : pm_f 145 142 = some (.iconst 1, 1, 0, 0, 1, []) := by decide +kernel
theorem f145_143 : pm_f 145 143 = some (.iadd, 1, 0, 0, 0, []) := by decide +kernel
theorem f145_144 : pm_f 145 144 = some (.putfield 83, 3, 8, 24, 0, []) := by decide +kernel
theorem f145_147 : pm_f 145 147 = some (.iconst 1, 1, 0, 0, 1, []) := by decide +kernel
theorem f145_148 : pm_f 145 148 = some (.istore_n 2, 1, 2, 0, 0, []) := by decide +kernel
theorem f145_149 : pm_f 145 149 = some (.aload_n 0, 1, 0, 0, 0, []) := by decide +kernel
theorem f145_150 : pm_f 145 150 = some (.dup, 1, 0, 0, 0, []) := by decide +kernel
theorem f145_151 : pm_f 145 151 = some (.getfield 50, 3, 8, 13, 0, []) := by decide +kernel
theorem f145_154 : pm_f 145 154 = some (.iconst 1, 1, 0, 0, 1, []) := by decide +kernel
theorem f145_155 : pm_f 145 155 = some (.iadd, 1, 0, 0, 0, []) := by decide +kernel
theorem f145_156 : pm_f 145 156 = some (.putfield 50, 3, 8, 13, 0, []) := by decide +kernel
theorem f145_159 : pm_f 145 159 = some (.goto (-137), 3, 22, 0, 0, []) := by decide +kernel
theorem f145_162 : pm_f 145 162 = some (.aload_n 0, 1, 0, 0, 0, []) := by decide +kernel
theorem f145_163 : pm_f 145 163 = some (.bipush 124, 2, 0, 0, 124, []) := by decide +kernel
theorem f145_165 : pm_f 145 165 = some (.invokevirtual 286, 3, 142, 1, 8, []) := by decide +kernel
theorem f145_168 : pm_f 145 168 = some (.aload_n 0, 1, 0, 0, 0, []) := by decide +kernel
theorem f145_169 : pm_f 145 169 = some (.getfield 71, 3, 8, 20, 2, []) := by decide +kernel
theorem f145_172 : pm_f 145 172 = some (.iload_n 1, 1, 1, 0, 0, []) := by decide +kernel
theorem f145_173 : pm_f 145 173 = some (.aload_n 0, 1, 0, 0, 0, []) := by decide +kernel
theorem f145_174 : pm_f 145 174 = some (.getfield 80, 3, 8, 23, 0, []) := by decide +kernel
theorem f145_177 : pm_f 145 177 = some (.iastore, 1, 0, 0, 0, []) := by decide +kernel
theorem f145_178 : pm_f 145 178 = some (.aload_n 0, 1, 0, 0, 0, []) := by decide +kernel
theorem f145_179 : pm_f 145 179 = some (.getfield 83, 3, 8, 24, 0, []) := by decide +kernel
theorem f145_182 : pm_f 145 182 = some (.ifCond .ne 5, 3, 187, 0, 0, []) := by decide +kernel
theorem f145_185 : pm_f 145 185 = some (.iconst 1, 1, 0, 0, 1, []) := by decide +kernel
theorem f145_186 : pm_f 145 186 = some (.ireturn, 1, 0, 0, 1, []) := by decide +kernel
theorem f145_187 : pm_f 145 187 = some (.iload_n 3, 1, 3, 0, 0, []) := by decide +kernel
theorem f145_188 : pm_f 145 188 = some (.bipush 41, 2, 0, 0, 41, []) := by decide +kernel
theorem f145_190 : pm_f 145 190 = some (.if_icmp .eq 5, 3, 195, 0, 0, []) := by decide +kernel
theorem f145_193 : pm_f 145 193 = some (.iconst 0, 1, 0, 0, 0, []) := by decide +kernel
theorem f145_194 : pm_f 145 194 = some (.ireturn, 1, 0, 0, 1, []) := by decide +kernel
theorem f145_195 : pm_f 145 195 = some (.aload_n 0, 1, 0, 0, 0, []) := by decide +kernel
theorem f145_196 : pm_f 145 196 = some (.dup, 1, 0, 0, 0, []) := by decide +kernel
theorem f145_197 : pm_f 145 197 = some (.getfield 83, 3, 8, 24, 0, []) := by decide +kernel
theorem f145_200 : pm_f 145 200 = some (.iconst 1, 1, 0, 0, 1, []) := by decide +kernel
theorem f145_201 : pm_f 145 201 = some (.isub, 1, 0, 0, 0, []) := by decide +kernel
theorem f145_202 : pm_f 145 202 = some (.putfield 83, 3, 8, 24, 0, []) := by decide +kernel
theorem f145_205 : pm_f 145 205 = some (.aload_n 0, 1, 0, 0, 0, []) := by decide +kernel
theorem f145_206 : pm_f 145 206 = some (.dup, 1, 0, 0, 0, []) := by decide +kernel
theorem f145_207 : pm_f 145 207 = some (.getfield 86, 3, 8, 25, 0, []) := by decide +kernel
theorem f145_210 : pm_f 145 210 = some (.iconst 1, 1, 0, 0, 1, []) := by decide +kernel
theorem f145_211 : pm_f 145 211 = some (.isub, 1, 0, 0, 0, []) := by decide +kernel
theorem f145_212 : pm_f 145 212 = some (.putfield 86, 3, 8, 25, 0, []) := by decide +kernel
theorem f145_215 : pm_f 145 215 = some (.aload_n 0, 1, 0, 0, 0, []) := by decide +kernel
theorem f145_216 : pm_f 145 216 = some (.dup, 1, 0, 0, 0, []) := by decide +kernel
theorem f145_217 : pm_f 145 217 = some (.getfield 50, 3, 8, 13, 0, []) := by decide +kernel
theorem f145_220 : pm_f 145 220 = some (.iconst 1, 1, 0, 0, 1, []) := by decide +kernel
theorem f145_221 : pm_f 145 221 = some (.iadd, 1, 0, 0, 0, []) := by decide +kernel
theorem f145_222 : pm_f 145 222 = some (.putfield 50, 3, 8, 13, 0, []) := by decide +kernel
theorem f145_225 : pm_f 145 225 = some (.aload_n 0, 1, 0, 0, 0, []) := by decide +kernel
theorem f145_226 : pm_f 145 226 = some (.invokevirtual 280, 3, 141, 0, 8, []) := by decide +kernel
theorem f145_229 : pm_f 145 229 = some (.goto (-207), 3, 22, 0, 0, []) := by decide +kernel
theorem f146_0 : pm_f 146 0 = some (.aload_n 0, 1, 0, 0, 0, []) := by decide +kernel
theorem f146_1 : pm_f 146 1 = some (.invokevirtual 258, 3, 134, 0, 8, []) := by decide +kernel
theorem f146_4 : pm_f 146 4 = some (.lookupswitch 81 #[(108, 36), (112, 66), (119, 51)], 36, 85, 0, 0, [(108, 40), (112, 70), (119, 55)]) := by decide +kernel
theorem f146_40 : pm_f 146 40 = some (.aload_n 0, 1, 0, 0, 0, []) := by decide +kernel
theorem f146_41 : pm_f 146 41 = some (.getfield 62, 3, 8, 17, 2, []) := by decide +kernel
theorem f146_44 : pm_f 146 44 = some (.iload_n 1, 1, 1, 0, 0, []) := by decide +kernel
theorem f146_45 : pm_f 146 45 = some (.iconst 0, 1, 0, 0, 0, []) := by decide +kernel
theorem f146_46 : pm_f 146 46 = some (.iastore, 1, 0, 0, 0, []) := by decide +kernel
theorem f146_47 : pm_f 146 47 = some (.aload_n 0, 1, 0, 0, 0, []) := by decide +kernel
theorem f146_48 : pm_f 146 48 = some (.iconst 0, 1, 0, 0, 0, []) := by decide +kernel
theorem f146_49 : pm_f 146 49 = some (.bipush 6, 2, 0, 0, 6, []) := by decide +kernel
theorem f146_51 : pm_f 146 51 = some (.invokevirtual 289, 3, 137, 2, 8, []) := by decide +kernel
theorem f146_54 : pm_f 146 54 = some (.ireturn, 1, 0, 0, 1, []) := by decide +kernel
theorem f146_55 : pm_f 146 55 = some (.aload_n 0, 1, 0, 0, 0, []) := by decide +kernel
theorem f146_56 : pm_f 146 56 = some (.getfield 62, 3, 8, 17, 2, []) := by decide +kernel
theorem f146_59 : pm_f 146 59 = some (.iload_n 1, 1, 1, 0, 0, []) := by decide +kernel
theorem f146_60 : pm_f 146 60 = some (.iconst 3, 1, 0, 0, 3, []) := by decide +kernel
theorem f146_61 : pm_f 146 61 = some (.iastore, 1, 0, 0, 0, []) := by decide +kernel
theorem f146_62 : pm_f 146 62 = some (.aload_n 0, 1, 0, 0, 0, []) := by decide +kernel
theorem f146_63 : pm_f 146 63 = some (.bipush 16, 2, 0, 0, 16, []) := by decide +kernel
theorem f146_65 : pm_f 146 65 = some (.iconst 4, 1, 0, 0, 4, []) := by decide +kernel
theorem f146_66 : pm_f 146 66 = some (.invokevirtual 289, 3, 137, 2, 8, []) := by decide +kernel
theorem f146_69 : pm_f 146 69 = some (.ireturn, 1, 0, 0, 1, []) := by decide +kernel
theorem f146_70 : pm_f 146 70 = some (.aload_n 0, 1, 0, 0, 0, []) := by decide +kernel
theorem f146_71 : pm_f 146 71 = some (.getfield 62, 3, 8, 17, 2, []) := by decide +kernel
theorem f146_74 : pm_f 146 74 = some (.iload_n 1, 1, 1, 0, 0, []) := by decide +kernel
theorem f146_75 : pm_f 146 75 = some (.iconst 4, 1, 0, 0, 4, []) := by decide +kernel
theorem f146_76 : pm_f 146 76 = some (.iastore, 1, 0, 0, 0, []) := by decide +kernel
theorem f146_77 : pm_f 146 77 = some (.aload_n 0, 1, 0, 0, 0, []) := by decide +kernel
theorem f146_78 : pm_f 146 78 = some (.bipush 20, 2, 0, 0, 20, []) := by decide +kernel
theorem f146_80 : pm_f 146 80 = some (.iconst 3, 1, 0, 0, 3, []) := by decide +kernel
theorem f146_81 : pm_f 146 81 = some (.invokevirtual 289, 3, 137, 2, 8, []) := by decide +kernel
theorem f146_84 : pm_f 146 84 = some (.ireturn, 1, 0, 0, 1, []) := by decide +kernel
theorem f146_85 : pm_f 146 85 = some (.aload_n 0, 1, 0, 0, 0, []) := by decide +kernel
theorem f146_86 : pm_f 146 86 = some (.getfield 62, 3, 8, 17, 2, []) := by decide +kernel
theorem f146_89 : pm_f 146 89 = some (.iload_n 1, 1, 1, 0, 0, []) := by decide +kernel
theorem f146_90 : pm_f 146 90 = some (.aload_n 0, 1, 0, 0, 0, []) := by decide +kernel
theorem f146_91 : pm_f 146 91 = some (.invokevirtual 292, 3, 135, 0, 8, []) := by decide +kernel
theorem f146_94 : pm_f 146 94 = some (.bipush 111, 2, 0, 0, 111, []) := by decide +kernel
theorem f146_96 : pm_f 146 96 = some (.if_icmp .ne 7, 3, 103, 0, 0, []) := by decide +kernel
theorem f146_99 : pm_f 146 99 = some (.iconst 1, 1, 0, 0, 1, []) := by decide +kernel
theorem f146_100 : pm_f 146 100 = some (.goto 4, 3, 104, 0, 0, []) := by decide +kernel
theorem f146_103 : pm_f 146 103 = some (.iconst 2, 1, 0, 0, 2, []) := by decide +kernel
theorem f146_104 : pm_f 146 104 = some (.iastore, 1, 0, 0, 0, []) := by decide +kernel
theorem f146_105 : pm_f 146 105 = some (.aload_n 0, 1, 0, 0, 0, []) := by decide +kernel
theorem f146_106 : pm_f 146 106 = some (.getfield 62, 3, 8, 17, 2, []) := by decide +kernel
theorem f146_109 : pm_f 146 109 = some (.iload_n 1, 1, 1, 0, 0, []) := by decide +kernel
theorem f146_110 : pm_f 146 110 = some (.iaload, 1, 0, 0, 0, []) := by decide +kernel
theorem f146_111 : pm_f 146 111 = some (.iconst 1, 1, 0, 0, 1, []) := by decide +kernel
theorem f146_112 : pm_f 146 112 = some (.if_icmp .ne 14, 3, 126, 0, 0, []) := by decide +kernel
theorem f146_115 : pm_f 146 115 = some (.aload_n 0, 1, 0, 0, 0, []) := by decide +kernel
theorem f146_116 : pm_f 146 116 = some (.bipush 6, 2, 0, 0, 6, []) := by decide +kernel
theorem f146_118 : pm_f 146 118 = some (.bipush 6, 2, 0, 0, 6, []) := by decide +kernel
theorem f146_120 : pm_f 146 120 = some (.invokevirtual 289, 3, 137, 2, 8, []) := by decide +kernel
theorem f146_123 : pm_f 146 123 = some (.goto 10, 3, 133, 0, 0, []) := by decide +kernel
theorem f146_126 : pm_f 146 126 = some (.aload_n 0, 1, 0, 0, 0, []) := by decide +kernel
theorem f146_127 : pm_f 146 127 = some (.bipush 12, 2, 0, 0, 12, []) := by decide +kernel
theorem f146_129 : pm_f 146 129 = some (.iconst 4, 1, 0, 0, 4, []) := by decide +kernel
theorem f146_130 : pm_f 146 130 = some (.invokevirtual 289, 3, 137, 2, 8, []) := by decide +kernel
theorem f146_133 : pm_f 146 133 = some (.ireturn, 1, 0, 0, 1, []) := by decide +kernel
theorem f147_0 : pm_f 147 0 = some (.aload_n 0, 1, 0, 0, 0, []) := by decide +kernel
theorem f147_1 : pm_f 147 1 = some (.iload_n 1, 1, 1, 0, 0, []) := by decide +kernel
theorem f147_2 : pm_f 147 2 = some (.invokevirtual 295, 3, 146, 1, 8, []) := by decide +kernel
theorem f147_5 : pm_f 147 5 = some (.ifCond .eq 10, 3, 15, 0, 0, []) := by decide +kernel
theorem f147_8 : pm_f 147 8 = some (.aload_n 0, 1, 0, 0, 0, []) := by decide +kernel
theorem f147_9 : pm_f 147 9 = some (.invokevirtual 277, 3, 139, 0, 8, []) := by decide +kernel
theorem f147_12 : pm_f 147 12 = some (.ifCond .ne 5, 3, 17, 0, 0, []) := by decide +kernel
theorem f147_15 : pm_f 147 15 = some (.iconst 0, 1, 0, 0, 0, []) := by decide +kernel
theorem f147_16 : pm_f 147 16 = some (.ireturn, 1, 0, 0, 1, []) := by decide +kernel
theorem f147_17 : pm_f 147 17 = some (.aload_n 0, 1, 0, 0, 0, []) := by decide +kernel
theorem f147_18 : pm_f 147 18 = some (.getfield 65, 3, 8, 18, 2, []) := by decide +kernel
theorem f147_21 : pm_f 147 21 = some (.iload_n 1, 1, 1, 0, 0, []) := by decide +kernel
theorem f147_22 : pm_f 147 22 = some (.aload_n 0, 1, 0, 0, 0, []) := by decide +kernel
theorem f147_23 : pm_f 147 23 = some (.getfield 53, 3, 8, 14, 0, []) := by decide +kernel
theorem f147_26 : pm_f 147 26 = some (.iastore, 1, 0, 0, 0, []) := by decide +kernel
theorem f147_27 : pm_f 147 27 = some (.aload_n 0, 1, 0, 0, 0, []) := by decide +kernel
theorem f147_28 : pm_f 147 28 = some (.getfield 62, 3, 8, 17, 2, []) := by decide +kernel
theorem f147_31 : pm_f 147 31 = some (.iload_n 1, 1, 1, 0, 0, []) := by decide +kernel
theorem f147_32 : pm_f 147 32 = some (.iaload, 1, 0, 0, 0, []) := by decide +kernel
theorem f147_33 : pm_f 147 33 = some (.iconst 2, 1, 0, 0, 2, []) := by decide +kernel
theorem f147_34 : pm_f 147 34 = some (.if_icmp .ge 20, 3, 54, 0, 0, []) := by decide +kernel
theorem f147_37 : pm_f 147 37 = some (.aload_n 0, 1, 0, 0, 0, []) := by decide +kernel
theorem f147_38 : pm_f 147 38 = some (.bipush 32, 2, 0, 0, 32, []) := by decide +kernel
theorem f147_40 : pm_f 147 40 = some (.invokevirtual 262, 3, 136, 1, 8, []) := by decide +kernel
theorem f147_43 : pm_f 147 43 = some (.ifCond .eq 15, 3, 58, 0, 0, []) := by decide +kernel
theorem f147_46 : pm_f 147 46 = some (.aload_n 0, 1, 0, 0, 0, []) := by decide +kernel
theorem f147_47 : pm_f 147 47 = some (.iload_n 1, 1, 1, 0, 0, []) := by decide +kernel
theorem f147_48 : pm_f 147 48 = some (.invokevirtual 298, 3, 145, 1, 8, []) := by decide +kernel
theorem f147_51 : pm_f 147 51 = some (.ifCond .eq 7, 3, 58, 0, 0, []) := by decide +kernel
theorem f147_54 : pm_f 147 54 = some (.iconst 1, 1, 0, 0, 1, []) := by decide +kernel
theorem f147_55 : pm_f 147 55 = some (.goto 4, 3, 59, 0, 0, []) := by decide +kernel
theorem f147_58 : pm_f 147 58 = some (.iconst 0, 1, 0, 0, 0, []) := by decide +kernel
theorem f147_59 : pm_f 147 59 = some (.ireturn, 1, 0, 0, 1, []) := by decide +kernel
theorem f148_0 : pm_f 148 0 = some (.aload_n 0, 1, 0, 0, 0, []) := by decide +kernel
theorem f148_1 : pm_f 148 1 = some (.iconst 0, 1, 0, 0, 0, []) := by decide +kernel
theorem f148_2 : pm_f 148 2 = some (.putfield 50, 3, 8, 13, 0, []) := by decide +kernel
theorem f148_5 : pm_f 148 5 = some (.aload_n 0, 1, 0, 0, 0, []) := by decide +kernel
theorem f148_6 : pm_f 148 6 = some (.bipush 100, 2, 0, 0, 100, []) := by decide +kernel
theorem f148_8 : pm_f 148 8 = some (.iload_n 1, 1, 1, 0, 0, []) := by decide +kernel
theorem f148_9 : pm_f 148 9 = some (.imul, 1, 0, 0, 0, []) := by decide +kernel
theorem f148_10 : pm_f 148 10 = some (.putfield 80, 3, 8, 23, 0, []) := by decide +kernel
theorem f148_13 : pm_f 148 13 = some (.iconst 0, 1, 0, 0, 0, []) := by decide +kernel
theorem f148_14 : pm_f 148 14 = some (.istore_n 2, 1, 2, 0, 0, []) := by decide +kernel
theorem f148_15 : pm_f 148 15 = some (.aload_n 0, 1, 0, 0, 0, []) := by decide +kernel
theorem f148_16 : pm_f 148 16 = some (.bipush 10, 2, 0, 0, 10, []) := by decide +kernel
theorem f148_18 : pm_f 148 18 = some (.iload_n 1, 1, 1, 0, 0, []) := by decide +kernel
theorem f148_19 : pm_f 148 19 = some (.imul, 1, 0, 0, 0, []) := by decide +kernel
theorem f148_20 : pm_f 148 20 = some (.iload_n 2, 1, 2, 0, 0, []) := by decide +kernel
theorem f148_21 : pm_f 148 21 = some (.iadd, 1, 0, 0, 0, []) := by decide +kernel
theorem f148_22 : pm_f 148 22 = some (.invokevirtual 301, 3, 147, 1, 8, []) := by decide +kernel
theorem f148_25 : pm_f 148 25 = some (.ifCond .ne 5, 3, 30, 0, 0, []) := by decide +kernel
theorem f148_28 : pm_f 148 28 = some (.iconst 0, 1, 0, 0, 0, []) := by decide +kernel
theorem f148_29 : pm_f 148 29 = some (.ireturn, 1, 0, 0, 1, []) := by decide +kernel
theorem f148_30 : pm_f 148 30 = some (.iinc 2 1, 3, 2, 0, 1, []) := by decide +kernel
theorem f148_33 : pm_f 148 33 = some (.aload_n 0, 1, 0, 0, 0, []) := by decide +kernel
theorem f148_34 : pm_f 148 34 = some (.getfield 59, 3, 8, 16, 2, []) := by decide +kernel
theorem f148_37 : pm_f 148 37 = some (.iload_n 1, 1, 1, 0, 0, []) := by decide +kernel
theorem f148_38 : pm_f 148 38 = some (.iload_n 2, 1, 2, 0, 0, []) := by decide +kernel
theorem f148_39 : pm_f 148 39 = some (.iastore, 1, 0, 0, 0, []) := by decide +kernel
theorem f148_40 : pm_f 148 40 = some (.aload_n 0, 1, 0, 0, 0, []) := by decide +kernel
theorem f148_41 : pm_f 148 41 = some (.getfield 50, 3, 8, 13, 0, []) := by decide +kernel
theorem f148_44 : pm_f 148 44 = some (.aload_n 0, 1, 0, 0, 0, []) := by decide +kernel
theorem f148_45 : pm_f 148 45 = some (.getfield 47, 3, 8, 12, 0, []) := by decide +kernel
theorem f148_48 : pm_f 148 48 = some (.if_icmp .ne 5, 3, 53, 0, 0, []) := by decide +kernel
theorem f148_51 : pm_f 148 51 = some (.iconst 1, 1, 0, 0, 1, []) := by decide +kernel
theorem f148_52 : pm_f 148 52 = some (.ireturn, 1, 0, 0, 1, []) := by decide +kernel
theorem f148_53 : pm_f 148 53 = some (.iload_n 2, 1, 2, 0, 0, []) := by decide +kernel
theorem f148_54 : pm_f 148 54 = some (.bipush 10, 2, 0, 0, 10, []) := by decide +kernel
theorem f148_56 : pm_f 148 56 = some (.if_icmp .eq 12, 3, 68, 0, 0, []) := by decide +kernel
theorem f148_59 : pm_f 148 59 = some (.aload_n 0, 1, 0, 0, 0, []) := by decide +kernel
theorem f148_60 : pm_f 148 60 = some (.bipush 59, 2, 0, 0, 59, []) := by decide +kernel
theorem f148_62 : pm_f 148 62 = some (.invokevirtual 262, 3, 136, 1, 8, []) := by decide +kernel
theorem f148_65 : pm_f 148 65 = some (.ifCond .ne (-50), 3, 15, 0, 0, []) := by decide +kernel
theorem f148_68 : pm_f 148 68 = some (.iconst 0, 1, 0, 0, 0, []) := by decide +kernel
theorem f148_69 : pm_f 148 69 = some (.ireturn, 1, 0, 0, 1, []) := by decide +kernel
theorem f149_0 : pm_f 149 0 = some (.aload_n 0, 1, 0, 0, 0, []) := by decide +kernel
theorem f149_1 : pm_f 149 1 = some (.getfield 41, 3, 8, 10, 0, []) := by decide +kernel
theorem f149_4 : pm_f 149 4 = some (.bipush 6, 2, 0, 0, 6, []) := by decide +kernel
theorem f149_6 : pm_f 149 6 = some (.if_icmp .ne 6, 3, 12, 0, 0, []) := by decide +kernel
theorem f149_9 : pm_f 149 9 = some (.bipush (-4), 2, 0, 0, (-4), []) := by decide +kernel
theorem f149_11 : pm_f 149 11 = some (.ireturn, 1, 0, 0, 0, []) := by decide +kernel
theorem f149_12 : pm_f 149 12 = some (.aload_n 0, 1, 0, 0, 0, []) := by decide +kernel
theorem f149_13 : pm_f 149 13 = some (.aload_n 0, 1, 0, 0, 0, []) := by decide +kernel
theorem f149_14 : pm_f 149 14 = some (.getfield 41, 3, 8, 10, 0, []) := by decide +kernel
theorem f149_17 : pm_f 149 17 = some (.invokevirtual 304, 3, 148, 1, 8, []) := by decide +kernel
theorem f149_20 : pm_f 149 20 = some (.istore_n 1, 1, 1, 0, 0, []) := by decide +kernel
theorem f149_21 : pm_f 149 21 = some (.aload_n 0, 1, 0, 0, 0, []) := by decide +kernel
theorem f149_22 : pm_f 149 22 = some (.iconst 0, 1, 0, 0, 0, []) := by decide +kernel
theorem f149_23 : pm_f 149 23 = some (.putfield 47, 3, 8, 12, 0, []) := by decide +kernel
theorem f149_26 : pm_f 149 26 = some (.iload_n 1, 1, 1, 0, 0, []) := by decide +kernel
theorem f149_27 : pm_f 149 27 = some (.ifCond .ne 11, 3, 38, 0, 0, []) := by decide +kernel
theorem f149_30 : pm_f 149 30 = some (.bipush (-10), 2, 0, 0, (-10), []) := by decide +kernel
theorem f149_32 : pm_f 149 32 = some (.aload_n 0, 1, 0, 0, 0, []) := by decide +kernel
theorem f149_33 : pm_f 149 33 = some (.getfield 50, 3, 8, 13, 0, []) := by decide +kernel
theorem f149_36 : pm_f 149 36 = some (.isub, 1, 0, 0, 0, []) := by decide +kernel
theorem f149_37 : pm_f 149 37 = some (.ireturn, 1, 0, 0, 0, []) := by decide +kernel
theorem f149_38 : pm_f 149 38 = some (.aload_n 0, 1, 0, 0, 0, []) := by decide +kernel
theorem f149_39 : pm_f 149 39 = some (.aload_n 0, 1, 0, 0, 0, []) := by decide +kernel
theorem f149_40 : pm_f 149 40 = some (.getfield 41, 3, 8, 10, 0, []) := by decide +kernel
theorem f149_43 : pm_f 149 43 = some (.putfield 44, 3, 8, 11, 0, []) := by decide +kernel
theorem f149_46 : pm_f 149 46 = some (.aload_n 0, 1, 0, 0, 0, []) := by decide +kernel
theorem f149_47 : pm_f 149 47 = some (.dup, 1, 0, 0, 0, []) := by decide +kernel
theorem f149_48 : pm_f 149 48 = some (.getfield 41, 3, 8, 10, 0, []) := by decide +kernel
theorem f149_51 : pm_f 149 51 = some (.iconst 1, 1, 0, 0, 1, []) := by decide +kernel
theorem f149_52 : pm_f 149 52 = some (.iadd, 1, 0, 0, 0, []) := by decide +kernel
theorem f149_53 : pm_f 149 53 = some (.putfield 41, 3, 8, 10, 0, []) := by decide +kernel
theorem f149_56 : pm_f 149 56 = some (.aload_n 0, 1, 0, 0, 0, []) := by decide +kernel
theorem f149_57 : pm_f 149 57 = some (.getfield 44, 3, 8, 11, 0, []) := by decide +kernel
theorem f149_60 : pm_f 149 60 = some (.ireturn, 1, 0, 0, 0, []) := by decide +kernel
theorem f150_0 : pm_f 150 0 = some (.aload_n 0, 1, 0, 0, 0, []) := by decide +kernel
theorem f150_1 : pm_f 150 1 = some (.getfield 44, 3, 8, 11, 0, []) := by decide +kernel
theorem f150_4 : pm_f 150 4 = some (.ifCond .ge 7, 3, 11, 0, 0, []) := by decide +kernel
theorem f150_7 : pm_f 150 7 = some (.iconst 0, 1, 0, 0, 0, []) := by decide +kernel
theorem f150_8 : pm_f 150 8 = some (.goto 10, 3, 18, 0, 0, []) := by decide +kernel
theorem f150_11 : pm_f 150 11 = some (.bipush 10, 2, 0, 0, 10, []) := by decide +kernel
theorem f150_13 : pm_f 150 13 = some (.aload_n 0, 1, 0, 0, 0, []) := by decide +kernel
theorem f150_14 : pm_f 150 14 = some (.getfield 44, 3, 8, 11, 0, []) := by decide +kernel
theorem f150_17 : pm_f 150 17 = some (.imul, 1, 0, 0, 0, []) := by decide +kernel
theorem f150_18 : pm_f 150 18 = some (.ireturn, 1, 0, 0, 0, []) := by decide +kernel
theorem f151_0 : pm_f 151 0 = some (.aload_n 0, 1, 0, 0, 0, []) := by decide +kernel
theorem f151_1 : pm_f 151 1 = some (.getfield 44, 3, 8, 11, 0, []) := by decide +kernel
theorem f151_4 : pm_f 151 4 = some (.ifCond .ge 7, 3, 11, 0, 0, []) := by decide +kernel
theorem f151_7 : pm_f 151 7 = some (.iconst 0, 1, 0, 0, 0, []) := by decide +kernel
theorem f151_8 : pm_f 151 8 = some (.goto 20, 3, 28, 0, 0, []) := by decide +kernel
theorem f151_11 : pm_f 151 11 = some (.bipush 10, 2, 0, 0, 10, []) := by decide +kernel
theorem f151_13 : pm_f 151 13 = some (.aload_n 0, 1, 0, 0, 0, []) := by decide +kernel
theorem f151_14 : pm_f 151 14 = some (.getfield 44, 3, 8, 11, 0, []) := by decide +kernel
theorem f151_17 : pm_f 151 17 = some (.imul, 1, 0, 0, 0, []) := by decide +kernel
theorem f151_18 : pm_f 151 18 = some (.aload_n 0, 1, 0, 0, 0, []) := by decide +kernel
theorem f151_19 : pm_f 151 19 = some (.getfield 59, 3, 8, 16, 2, []) := by decide +kernel
theorem f151_22 : pm_f 151 22 = some (.aload_n 0, 1, 0, 0, 0, []) := by decide +kernel
theorem f151_23 : pm_f 151 23 = some (.getfield 44, 3, 8, 11, 0, []) := by decide +kernel
theorem f151_26 : pm_f 151 26 = some (.iaload, 1, 0, 0, 0, []) := by decide +kernel
theorem f151_27 : pm_f 151 27 = some (.iadd, 1, 0, 0, 0, []) := by decide +kernel
theorem f151_28 : pm_f 151 28 = some (.ireturn, 1, 0, 0, 0, []) := by decide +kernel
theorem f152_0 : pm_f 152 0 = some (.iload_n 2, 1, 2, 0, 0, []) := by decide +kernel
theorem f152_1 : pm_f 152 1 = some (.istore_n 3, 1, 3, 0, 0, []) := by decide +kernel
theorem f152_2 : pm_f 152 2 = some (.aload_n 0, 1, 0, 0, 0, []) := by decide +kernel
theorem f152_3 : pm_f 152 3 = some (.invokevirtual 307, 3, 150, 0, 8, []) := by decide +kernel
theorem f152_6 : pm_f 152 6 = some (.istore 4, 2, 4, 0, 0, []) := by decide +kernel
theorem f152_8 : pm_f 152 8 = some (.iload 4, 2, 4, 0, 0, []) := by decide +kernel
theorem f152_10 : pm_f 152 10 = some (.aload_n 0, 1, 0, 0, 0, []) := by decide +kernel
theorem f152_11 : pm_f 152 11 = some (.invokevirtual 310, 3, 151, 0, 8, []) := by decide +kernel
theorem f152_14 : pm_f 152 14 = some (.if_icmp .ge 32, 3, 46, 0, 0, []) := by decide +kernel
theorem f152_17 : pm_f 152 17 = some (.aload_n 0, 1, 0, 0, 0, []) := by decide +kernel
theorem f152_18 : pm_f 152 18 = some (.getfield 62, 3, 8, 17, 2, []) := by decide +kernel
theorem f152_21 : pm_f 152 21 = some (.iload 4, 2, 4, 0, 0, []) := by decide +kernel
theorem f152_23 : pm_f 152 23 = some (.iaload, 1, 0, 0, 0, []) := by decide +kernel
theorem f152_24 : pm_f 152 24 = some (.iload_n 1, 1, 1, 0, 0, []) := by decide +kernel
theorem f152_25 : pm_f 152 25 = some (.if_icmp .ne 13, 3, 38, 0, 0, []) := by decide +kernel
theorem f152_28 : pm_f 152 28 = some (.aload_n 0, 1, 0, 0, 0, []) := by decide +kernel
theorem f152_29 : pm_f 152 29 = some (.getfield 65, 3, 8, 18, 2, []) := by decide +kernel
theorem f152_32 : pm_f 152 32 = some (.iload 4, 2, 4, 0, 0, []) := by decide +kernel
theorem f152_34 : pm_f 152 34 = some (.iaload, 1, 0, 0, 0, []) := by decide +kernel
theorem f152_35 : pm_f 152 35 = some (.goto 4, 3, 39, 0, 0, []) := by decide +kernel
theorem f152_38 : pm_f 152 38 = some (.iload_n 3, 1, 3, 0, 0, []) := by decide +kernel
theorem f152_39 : pm_f 152 39 = some (.istore_n 3, 1, 3, 0, 0, []) := by decide +kernel
theorem f152_40 : pm_f 152 40 = some (.iinc 4 1, 3, 4, 0, 1, []) := by decide +kernel
theorem f152_43 : pm_f 152 43 = some (.goto (-35), 3, 8, 0, 0, []) := by decide +kernel
theorem f152_46 : pm_f 152 46 = some (.iload_n 3, 1, 3, 0, 0, []) := by decide +kernel
theorem f152_47 : pm_f 152 47 = some (.ireturn, 1, 0, 0, 0, []) := by decide +kernel
theorem f153_0 : pm_f 153 0 = some (.aload_n 0, 1, 0, 0, 0, []) := by decide +kernel
theorem f153_1 : pm_f 153 1 = some (.iconst 3, 1, 0, 0, 3, []) := by decide +kernel
theorem f153_2 : pm_f 153 2 = some (.bipush 60, 2, 0, 0, 60, []) := by decide +kernel
theorem f153_4 : pm_f 153 4 = some (.invokevirtual 313, 3, 152, 2, 8, []) := by decide +kernel
theorem f153_7 : pm_f 153 7 = some (.ireturn, 1, 0, 0, 0, []) := by decide +kernel
theorem f154_0 : pm_f 154 0 = some (.aload_n 0, 1, 0, 0, 0, []) := by decide +kernel
theorem f154_1 : pm_f 154 1 = some (.iconst 4, 1, 0, 0, 4, []) := by decide +kernel
theorem f154_2 : pm_f 154 2 = some (.iconst 5, 1, 0, 0, 5, []) := by decide +kernel
theorem f154_3 : pm_f 154 3 = some (.invokevirtual 313, 3, 152, 2, 8, []) := by decide +kernel
theorem f154_6 : pm_f 154 6 = some (.istore_n 1, 1, 1, 0, 0, []) := by decide +kernel
theorem f154_7 : pm_f 154 7 = some (.iload_n 1, 1, 1, 0, 0, []) := by decide +kernel
theorem f154_8 : pm_f 154 8 = some (.iconst 1, 1, 0, 0, 1, []) := by decide +kernel
theorem f154_9 : pm_f 154 9 = some (.if_icmp .ge 7, 3, 16, 0, 0, []) := by decide +kernel
theorem f154_12 : pm_f 154 12 = some (.iconst 1, 1, 0, 0, 1, []) := by decide +kernel
theorem f154_13 : pm_f 154 13 = some (.goto 4, 3, 17, 0, 0, []) := by decide +kernel
theorem f154_16 : pm_f 154 16 = some (.iload_n 1, 1, 1, 0, 0, []) := by decide +kernel
theorem f154_17 : pm_f 154 17 = some (.ireturn, 1, 0, 0, 0, []) := by decide +kernel
theorem f155_0 : pm_f 155 0 = some (.iload_n 1, 1, 1, 0, 0, []) := by decide +kernel
theorem f155_1 : pm_f 155 1 = some (.tableswitch 71 0 4 #[35, 37, 44, 51, 61], 35, 72, 0, 0, [(0, 36), (1, 38), (2, 45), (3, 52), (4, 62)]) := by decide +kernel
theorem f155_36 : pm_f 155 36 = some (.iload_n 2, 1, 2, 0, 0, []) := by decide +kernel
theorem f155_37 : pm_f 155 37 = some (.ireturn, 1, 0, 0, 0, []) := by decide +kernel
theorem f155_38 : pm_f 155 38 = some (.aload_n 0, 1, 0, 0, 0, []) := by decide +kernel
theorem f155_39 : pm_f 155 39 = some (.getfield 22, 3, 8, 4, 2, []) := by decide +kernel
theorem f155_42 : pm_f 155 42 = some (.iload_n 2, 1, 2, 0, 0, []) := by decide +kernel
theorem f155_43 : pm_f 155 43 = some (.iaload, 1, 0, 0, 0, []) := by decide +kernel
theorem f155_44 : pm_f 155 44 = some (.ireturn, 1, 0, 0, 0, []) := by decide +kernel
theorem f155_45 : pm_f 155 45 = some (.aload_n 0, 1, 0, 0, 0, []) := by decide +kernel
theorem f155_46 : pm_f 155 46 = some (.getfield 26, 3, 8, 5, 2, []) := by decide +kernel
theorem f155_49 : pm_f 155 49 = some (.iload_n 2, 1, 2, 0, 0, []) := by decide +kernel
theorem f155_50 : pm_f 155 50 = some (.iaload, 1, 0, 0, 0, []) := by decide +kernel
theorem f155_51 : pm_f 155 51 = some (.ireturn, 1, 0, 0, 0, []) := by decide +kernel
theorem f155_52 : pm_f 155 52 = some (.aload_n 0, 1, 0, 0, 0, []) := by decide +kernel
theorem f155_53 : pm_f 155 53 = some (.getfield 32, 3, 8, 7, 2, []) := by decide +kernel
theorem f155_56 : pm_f 155 56 = some (.iload_n 2, 1, 2, 0, 0, []) := by decide +kernel
theorem f155_57 : pm_f 155 57 = some (.iaload, 1, 0, 0, 0, []) := by decide +kernel
theorem f155_58 : pm_f 155 58 = some (.bipush 10, 2, 0, 0, 10, []) := by decide +kernel
theorem f155_60 : pm_f 155 60 = some (.idiv, 1, 0, 0, 0, []) := by decide +kernel
theorem f155_61 : pm_f 155 61 = some (.ireturn, 1, 0, 0, 0, []) := by decide +kernel
theorem f155_62 : pm_f 155 62 = some (.aload_n 0, 1, 0, 0, 0, []) := by decide +kernel
theorem f155_63 : pm_f 155 63 = some (.getfield 35, 3, 8, 8, 2, []) := by decide +kernel
theorem f155_66 : pm_f 155 66 = some (.iload_n 2, 1, 2, 0, 0, []) := by decide +kernel
theorem f155_67 : pm_f 155 67 = some (.iaload, 1, 0, 0, 0, []) := by decide +kernel
theorem f155_68 : pm_f 155 68 = some (.bipush 10, 2, 0, 0, 10, []) := by decide +kernel
theorem f155_70 : pm_f 155 70 = some (.idiv, 1, 0, 0, 0, []) := by decide +kernel
theorem f155_71 : pm_f 155 71 = some (.ireturn, 1, 0, 0, 0, []) := by decide +kernel
theorem f155_72 : pm_f 155 72 = some (.aload_n 0, 1, 0, 0, 0, []) := by decide +kernel
theorem f155_73 : pm_f 155 73 = some (.getfield 13, 3, 8, 1, 0, []) := by decide +kernel
theorem f155_76 : pm_f 155 76 = some (.bipush 10, 2, 0, 0, 10, []) := by decide +kernel
theorem f155_78 : pm_f 155 78 = some (.irem, 1, 0, 0, 0, []) := by decide +kernel
theorem f155_79 : pm_f 155 79 = some (.ireturn, 1, 0, 0, 0, []) := by decide +kernel
theorem f156_0 : pm_f 156 0 = some (.iconst 0, 1, 0, 0, 0, []) := by decide +kernel
theorem f156_1 : pm_f 156 1 = some (.istore_n 3, 1, 3, 0, 0, []) := by decide +kernel
theorem f156_2 : pm_f 156 2 = some (.aload_n 0, 1, 0, 0, 0, []) := by decide +kernel
theorem f156_3 : pm_f 156 3 = some (.getfield 68, 3, 8, 19, 2, []) := by decide +kernel
theorem f156_6 : pm_f 156 6 = some (.iload_n 1, 1, 1, 0, 0, []) := by decide +kernel
theorem f156_7 : pm_f 156 7 = some (.iaload, 1, 0, 0, 0, []) := by decide +kernel
theorem f156_8 : pm_f 156 8 = some (.istore 4, 2, 4, 0, 0, []) := by decide +kernel
theorem f156_10 : pm_f 156 10 = some (.iload 4, 2, 4, 0, 0, []) := by decide +kernel
theorem f156_12 : pm_f 156 12 = some (.aload_n 0, 1, 0, 0, 0, []) := by decide +kernel
theorem f156_13 : pm_f 156 13 = some (.getfield 71, 3, 8, 20, 2, []) := by decide +kernel
theorem f156_16 : pm_f 156 16 = some (.iload_n 1, 1, 1, 0, 0, []) := by decide +kernel
theorem f156_17 : pm_f 156 17 = some (.iaload, 1, 0, 0, 0, []) := by decide +kernel
theorem f156_18 : pm_f 156 18 = some (.if_icmp .ge 225, 3, 243, 0, 0, []) := by decide +kernel
theorem f156_21 : pm_f 156 21 = some (.aload_n 0, 1, 0, 0, 0, []) := by decide +kernel
theorem f156_22 : pm_f 156 22 = some (.getfield 74, 3, 8, 21, 2, []) := by decide +kernel
theorem f156_25 : pm_f 156 25 = some (.iload 4, 2, 4, 0, 0, []) := by decide +kernel
theorem f156_27 : pm_f 156 27 = some (.iaload, 1, 0, 0, 0, []) := by decide +kernel
theorem f156_28 : pm_f 156 28 = some (.istore 5, 2, 5, 0, 0, []) := by decide +kernel
theorem f156_30 : pm_f 156 30 = some (.iload 5, 2, 5, 0, 0, []) := by decide +kernel
theorem f156_32 : pm_f 156 32 = some (.bipush (-33), 2, 0, 0, (-33), []) := by decide +kernel
theorem f156_34 : pm_f 156 34 = some (.if_icmp .ne 30, 3, 64, 0, 0, []) := by decide +kernel
theorem f156_37 : pm_f 156 37 = some (.aload_n 0, 1, 0, 0, 0, []) := by decide +kernel
theorem f156_38 : pm_f 156 38 = some (.getfield 92, 3, 8, 27, 2, []) := by decide +kernel
theorem f156_41 : pm_f 156 41 = some (.iload_n 3, 1, 3, 0, 0, []) := by decide +kernel
theorem f156_42 : pm_f 156 42 = some (.iconst 1, 1, 0, 0, 1, []) := by decide +kernel
theorem f156_43 : pm_f 156 43 = some (.isub, 1, 0, 0, 0, []) := by decide +kernel
theorem f156_44 : pm_f 156 44 = some (.aload_n 0, 1, 0, 0, 0, []) := by decide +kernel
theorem f156_45 : pm_f 156 45 = some (.getfield 92, 3, 8, 27, 2, []) := by decide +kernel
theorem f156_48 : pm_f 156 48 = some (.iload_n 3, 1, 3, 0, 0, []) := by decide +kernel
theorem f156_49 : pm_f 156 49 = some (.iconst 1, 1, 0, 0, 1, []) := by decide +kernel
theorem f156_50 : pm_f 156 50 = some (.isub, 1, 0, 0, 0, []) := by decide +kernel
theorem f156_51 : pm_f 156 51 = some (.baload, 1, 0, 0, 0, []) := by decide +kernel
theorem f156_52 : pm_f 156 52 = some (.ifCond .ne 7, 3, 59, 0, 0, []) := by decide +kernel
theorem f156_55 : pm_f 156 55 = some (.iconst 1, 1, 0, 0, 1, []) := by decide +kernel
theorem f156_56 : pm_f 156 56 = some (.goto 4, 3, 60, 0, 0, []) := by decide +kernel
theorem f156_59 : pm_f 156 59 = some (.iconst 0, 1, 0, 0, 0, []) := by decide +kernel
theorem f156_60 : pm_f 156 60 = some (.bastore, 1, 0, 0, 0, []) := by decide +kernel
theorem f156_61 : pm_f 156 61 = some (.goto 176, 3, 237, 0, 0, []) := by decide +kernel
theorem f156_64 : pm_f 156 64 = some (.iload 5, 2, 5, 0, 0, []) := by decide +kernel
theorem f156_66 : pm_f 156 66 = some (.ifCond .ge 77, 3, 143, 0, 0, []) := by decide +kernel
theorem f156_69 : pm_f 156 69 = some (.iinc 3 (-1), 3, 3, 0, (-1), []) := by decide +kernel
theorem f156_72 : pm_f 156 72 = some (.aload_n 0, 1, 0, 0, 0, []) := by decide +kernel
theorem f156_73 : pm_f 156 73 = some (.getfield 92, 3, 8, 27, 2, []) := by decide +kernel
theorem f156_76 : pm_f 156 76 = some (.iload_n 3, 1, 3, 0, 0, []) := by decide +kernel
theorem f156_77 : pm_f 156 77 = some (.iconst 1, 1, 0, 0, 1, []) := by decide +kernel
theorem f156_78 : pm_f 156 78 = some (.isub, 1, 0, 0, 0, []) := by decide +kernel
theorem f156_79 : pm_f 156 79 = some (.iload 5, 2, 5, 0, 0, []) := by decide +kernel
theorem f156_81 : pm_f 156 81 = some (.bipush (-38), 2, 0, 0, (-38), []) := by decide +kernel
theorem f156_83 : pm_f 156 83 = some (.if_icmp .ne 31, 3, 114, 0, 0, []) := by decide +kernel
theorem f156_86 : pm_f 156 86 = some (.aload_n 0, 1, 0, 0, 0, []) := by decide +kernel
theorem f156_87 : pm_f 156 87 = some (.getfield 92, 3, 8, 27, 2, []) := by decide +kernel
theorem f156_90 : pm_f 156 90 = some (.iload_n 3, 1, 3, 0, 0, []) := by decide +kernel
theorem f156_91 : pm_f 156 91 = some (.iconst 1, 1, 0, 0, 1, []) := by decide +kernel
theorem f156_92 : pm_f 156 92 = some (.isub, 1, 0, 0, 0, []) := by decide +kernel
theorem f156_93 : pm_f 156 93 = some (.baload, 1, 0, 0, 0, []) := by decide +kernel
theorem f156_94 : pm_f 156 94 = some (.ifCond .eq 16, 3, 110, 0, 0, []) := by decide +kernel
theorem f156_97 : pm_f 156 97 = some (.aload_n 0, 1, 0, 0, 0, []) := by decide +kernel
theorem f156_98 : pm_f 156 98 = some (.getfield 92, 3, 8, 27, 2, []) := by decide +kernel
theorem f156_101 : pm_f 156 101 = some (.iload_n 3, 1, 3, 0, 0, []) := by decide +kernel
theorem f156_102 : pm_f 156 102 = some (.baload, 1, 0, 0, 0, []) := by decide +kernel
theorem f156_103 : pm_f 156 103 = some (.ifCond .eq 7, 3, 110, 0, 0, []) := by decide +kernel
theorem f156_106 : pm_f 156 106 = some (.iconst 1, 1, 0, 0, 1, []) := by decide +kernel
theorem f156_107 : pm_f 156 107 = some (.goto 32, 3, 139, 0, 0, []) := by decide +kernel
theorem f156_110 : pm_f 156 110 = some (.iconst 0, 1, 0, 0, 0, []) := by decide +kernel
theorem f156_111 : pm_f 156 111 = some (.goto 28, 3, 139, 0, 0, []) := by decide +kernel
theorem f156_114 : pm_f 156 114 = some (.aload_n 0, 1, 0, 0, 0, []) := by decide +kernel
theorem f156_115 : pm_f 156 115 = some (.getfield 92, 3, 8, 27, 2, []) := by decide +kernel
theorem f156_118 : pm_f 156 118 = some (.iload_n 3, 1, 3, 0, 0, []) := by decide +kernel
theorem f156_119 : pm_f 156 119 = some (.iconst 1, 1, 0, 0, 1, []) := by decide +kernel
theorem f156_120 : pm_f 156 120 = some (.isub, 1, 0, 0, 0, []) := by decide +kernel
theorem f156_121 : pm_f 156 121 = some (.baload, 1, 0, 0, 0, []) := by decide +kernel
theorem f156_122 : pm_f 156 122 = some (.ifCond .ne 12, 3, 134, 0, 0, []) := by decide +kernel
theorem f156_125 : pm_f 156 125 = some (.aload_n 0, 1, 0, 0, 0, []) := by decide +kernel
theorem f156_126 : pm_f 156 126 = some (.getfield 92, 3, 8, 27, 2, []) := by decide +kernel
theorem f156_129 : pm_f 156 129 = some (.iload_n 3, 1, 3, 0, 0, []) := by decide +kernel
theorem f156_130 : pm_f 156 130 = some (.baload, 1, 0, 0, 0, []) := by decide +kernel
theorem f156_131 : pm_f 156 131 = some (.ifCond .eq 7, 3, 138, 0, 0, []) := by decide +kernel
theorem f156_134 : pm_f 156 134 = some (.iconst 1, 1, 0, 0, 1, []) := by decide +kernel
theorem f156_135 : pm_f 156 135 = some (.goto 4, 3, 139, 0, 0, []) := by decide +kernel
theorem f156_138 : pm_f 156 138 = some (.iconst 0, 1, 0, 0, 0, []) := by decide +kernel
theorem f156_139 : pm_f 156 139 = some (.bastore, 1, 0, 0, 0, []) := by decide +kernel
theorem f156_140 : pm_f 156 140 = some (.goto 97, 3, 237, 0, 0, []) := by decide +kernel
theorem f156_143 : pm_f 156 143 = some (.aload_n 0, 1, 0, 0, 0, []) := by decide +kernel
theorem f156_144 : pm_f 156 144 = some (.iload 5, 2, 5, 0, 0, []) := by decide +kernel
theorem f156_146 : pm_f 156 146 = some (.sipush 1000, 3, 0, 0, 1000, []) := by decide +kernel
theorem f156_149 : pm_f 156 149 = some (.idiv, 1, 0, 0, 0, []) := by decide +kernel
theorem f156_150 : pm_f 156 150 = some (.iload_n 2, 1, 2, 0, 0, []) := by decide +kernel
theorem f156_151 : pm_f 156 151 = some (.invokevirtual 317, 3, 155, 2, 8, []) := by decide +kernel
theorem f156_154 : pm_f 156 154 = some (.istore 6, 2, 6, 0, 0, []) := by decide +kernel
theorem f156_156 : pm_f 156 156 = some (.iload 5, 2, 5, 0, 0, []) := by decide +kernel
theorem f156_158 : pm_f 156 158 = some (.bipush 100, 2, 0, 0, 100, []) := by decide +kernel
theorem f156_160 : pm_f 156 160 = some (.idiv, 1, 0, 0, 0, []) := by decide +kernel
theorem f156_161 : pm_f 156 161 = some (.bipush 10, 2, 0, 0, 10, []) := by decide +kernel
theorem f156_163 : pm_f 156 163 = some (.irem, 1, 0, 0, 0, []) := by decide +kernel
theorem f156_164 : pm_f 156 164 = some (.istore 7, 2, 7, 0, 0, []) := by decide +kernel
theorem f156_166 : pm_f 156 166 = some (.aload_n 0, 1, 0, 0, 0, []) := by decide +kernel
theorem f156_167 : pm_f 156 167 = some (.getfield 92, 3, 8, 27, 2, []) := by decide +kernel
theorem f156_170 : pm_f 156 170 = some (.iload_n 3, 1, 3, 0, 0, []) := by decide +kernel
theorem f156_171 : pm_f 156 171 = some (.iload 7, 2, 7, 0, 0, []) := by decide +kernel
theorem f156_173 : pm_f 156 173 = some (.ifCond .ne 21, 3, 194, 0, 0, []) := by decide +kernel
theorem f156_176 : pm_f 156 176 = some (.iload 6, 2, 6, 0, 0, []) := by decide +kernel
theorem f156_178 : pm_f 156 178 = some (.iload 5, 2, 5, 0, 0, []) := by decide +kernel
theorem f156_180 : pm_f 156 180 = some (.bipush 100, 2, 0, 0, 100, []) := by decide +kernel
theorem f156_182 : pm_f 156 182 = some (.irem, 1, 0, 0, 0, []) := by decide +kernel
theorem f156_183 : pm_f 156 183 = some (.if_icmp .ge 7, 3, 190, 0, 0, []) := by decide +kernel
theorem f156_186 : pm_f 156 186 = some (.iconst 1, 1, 0, 0, 1, []) := by decide +kernel
theorem f156_187 : pm_f 156 187 = some (.goto 46, 3, 233, 0, 0, []) := by decide +kernel
theorem f156_190 : pm_f 156 190 = some (.iconst 0, 1, 0, 0, 0, []) := by decide +kernel
theorem f156_191 : pm_f 156 191 = some (.goto 42, 3, 233, 0, 0, []) := by decide +kernel
theorem f156_194 : pm_f 156 194 = some (.iload 7, 2, 7, 0, 0, []) := by decide +kernel
theorem f156_196 : pm_f 156 196 = some (.iconst 1, 1, 0, 0, 1, []) := by decide +kernel
theorem f156_197 : pm_f 156 197 = some (.if_icmp .ne 21, 3, 218, 0, 0, []) := by decide +kernel
theorem f156_200 : pm_f 156 200 = some (.iload 6, 2, 6, 0, 0, []) := by decide +kernel
theorem f156_202 : pm_f 156 202 = some (.iload 5, 2, 5, 0, 0, []) := by decide +kernel
theorem f156_204 : pm_f 156 204 = some (.bipush 100, 2, 0, 0, 100, []) := by decide +kernel
theorem f156_206 : pm_f 156 206 = some (.irem, 1, 0, 0, 0, []) := by decide +kernel
theorem f156_207 : pm_f 156 207 = some (.if_icmp .ne 7, 3, 214, 0, 0, []) := by decide +kernel
theorem f156_210 : pm_f 156 210 = some (.iconst 1, 1, 0, 0, 1, []) := by decide +kernel
theorem f156_211 : pm_f 156 211 = some (.goto 22, 3, 233, 0, 0, []) := by decide +kernel
theorem f156_214 : pm_f 156 214 = some (.iconst 0, 1, 0, 0, 0, []) := by decide +kernel
theorem f156_215 : pm_f 156 215 = some (.goto 18, 3, 233, 0, 0, []) := by decide +kernel
theorem f156_218 : pm_f 156 218 = some (.iload 6, 2, 6, 0, 0, []) := by decide +kernel
theorem f156_220 : pm_f 156 220 = some (.iload 5, 2, 5, 0, 0, []) := by decide +kernel
theorem f156_222 : pm_f 156 222 = some (.bipush 100, 2, 0, 0, 100, []) := by decide +kernel
theorem f156_224 : pm_f 156 224 = some (.irem, 1, 0, 0, 0, []) := by decide +kernel
theorem f156_225 : pm_f 156 225 = some (.if_icmp .le 7, 3, 232, 0, 0, []) := by decide +kernel
theorem f156_228 : pm_f 156 228 = some (.iconst 1, 1, 0, 0, 1, []) := by decide +kernel
theorem f156_229 : pm_f 156 229 = some (.goto 4, 3, 233, 0, 0, []) := by decide +kernel
theorem f156_232 : pm_f 156 232 = some (.iconst 0, 1, 0, 0, 0, []) := by decide +kernel
theorem f156_233 : pm_f 156 233 = some (.bastore, 1, 0, 0, 0, []) := by decide +kernel
theorem f156_234 : pm_f 156 234 = some (.iinc 3 1, 3, 3, 0, 1, []) := by decide +kernel
theorem f156_237 : pm_f 156 237 = some (.iinc 4 1, 3, 4, 0, 1, []) := by decide +kernel
theorem f156_240 : pm_f 156 240 = some (.goto (-230), 3, 10, 0, 0, []) := by decide +kernel
theorem f156_243 : pm_f 156 243 = some (.aload_n 0, 1, 0, 0, 0, []) := by decide +kernel
theorem f156_244 : pm_f 156 244 = some (.getfield 92, 3, 8, 27, 2, []) := by decide +kernel
theorem f156_247 : pm_f 156 247 = some (.iconst 0, 1, 0, 0, 0, []) := by decide +kernel
theorem f156_248 : pm_f 156 248 = some (.baload, 1, 0, 0, 0, []) := by decide +kernel
theorem f156_249 : pm_f 156 249 = some (.ireturn, 1, 0, 0, 1, []) := by decide +kernel
theorem f157_0 : pm_f 157 0 = some (.iconst 0, 1, 0, 0, 0, []) := by decide +kernel
theorem f157_1 : pm_f 157 1 = some (.istore_n 2, 1, 2, 0, 0, []) := by decide +kernel
theorem f157_2 : pm_f 157 2 = some (.aload_n 0, 1, 0, 0, 0, []) := by decide +kernel
theorem f157_3 : pm_f 157 3 = some (.invokevirtual 307, 3, 150, 0, 8, []) := by decide +kernel
theorem f157_6 : pm_f 157 6 = some (.istore_n 3, 1, 3, 0, 0, []) := by decide +kernel
theorem f157_7 : pm_f 157 7 = some (.iload_n 3, 1, 3, 0, 0, []) := by decide +kernel
theorem f157_8 : pm_f 157 8 = some (.aload_n 0, 1, 0, 0, 0, []) := by decide +kernel
theorem f157_9 : pm_f 157 9 = some (.invokevirtual 310, 3, 151, 0, 8, []) := by decide +kernel
theorem f157_12 : pm_f 157 12 = some (.if_icmp .ge 59, 3, 71, 0, 0, []) := by decide +kernel
theorem f157_15 : pm_f 157 15 = some (.aload_n 0, 1, 0, 0, 0, []) := by decide +kernel
theorem f157_16 : pm_f 157 16 = some (.getfield 62, 3, 8, 17, 2, []) := by decide +kernel
theorem f157_19 : pm_f 157 19 = some (.iload_n 3, 1, 3, 0, 0, []) := by decide +kernel
theorem f157_20 : pm_f 157 20 = some (.iaload, 1, 0, 0, 0, []) := by decide +kernel
theorem f157_21 : pm_f 157 21 = some (.iconst 1, 1, 0, 0, 1, []) := by decide +kernel
theorem f157_22 : pm_f 157 22 = some (.if_icmp .gt 43, 3, 65, 0, 0, []) := by decide +kernel
theorem f157_25 : pm_f 157 25 = some (.aload_n 0, 1, 0, 0, 0, []) := by decide +kernel
theorem f157_26 : pm_f 157 26 = some (.iload_n 3, 1, 3, 0, 0, []) := by decide +kernel
theorem f157_27 : pm_f 157 27 = some (.iload_n 1, 1, 1, 0, 0, []) := by decide +kernel
theorem f157_28 : pm_f 157 28 = some (.invokevirtual 320, 3, 156, 2, 8, []) := by decide +kernel
theorem f157_31 : pm_f 157 31 = some (.ifCond .ne 6, 3, 37, 0, 0, []) := by decide +kernel
theorem f157_34 : pm_f 157 34 = some (.goto 31, 3, 65, 0, 0, []) := by decide +kernel
theorem f157_37 : pm_f 157 37 = some (.iload_n 2, 1, 2, 0, 0, []) := by decide +kernel
theorem f157_38 : pm_f 157 38 = some (.aload_n 0, 1, 0, 0, 0, []) := by decide +kernel
theorem f157_39 : pm_f 157 39 = some (.getfield 62, 3, 8, 17, 2, []) := by decide +kernel
theorem f157_42 : pm_f 157 42 = some (.iload_n 3, 1, 3, 0, 0, []) := by decide +kernel
theorem f157_43 : pm_f 157 43 = some (.iaload, 1, 0, 0, 0, []) := by decide +kernel
theorem f157_44 : pm_f 157 44 = some (.ifCond .ne 12, 3, 56, 0, 0, []) := by decide +kernel
theorem f157_47 : pm_f 157 47 = some (.aload_n 0, 1, 0, 0, 0, []) := by decide +kernel
theorem f157_48 : pm_f 157 48 = some (.getfield 65, 3, 8, 18, 2, []) := by decide +kernel
theorem f157_51 : pm_f 157 51 = some (.iload_n 3, 1, 3, 0, 0, []) := by decide +kernel
theorem f157_52 : pm_f 157 52 = some (.iaload, 1, 0, 0, 0, []) := by decide +kernel
theorem f157_53 : pm_f 157 53 = some (.goto 10, 3, 63, 0, 0, []) := by decide +kernel
theorem f157_56 : pm_f 157 56 = some (.aload_n 0, 1, 0, 0, 0, []) := by decide +kernel
theorem f157_57 : pm_f 157 57 = some (.getfield 65, 3, 8, 18, 2, []) := by decide +kernel
theorem f157_60 : pm_f 157 60 = some (.iload_n 3, 1, 3, 0, 0, []) := by decide +kernel
theorem f157_61 : pm_f 157 61 = some (.iaload, 1, 0, 0, 0, []) := by decide +kernel
theorem f157_62 : pm_f 157 62 = some (.ineg, 1, 0, 0, 0, []) := by decide +kernel
theorem f157_63 : pm_f 157 63 = some (.iadd, 1, 0, 0, 0, []) := by decide +kernel
theorem f157_64 : pm_f 157 64 = some (.istore_n 2, 1, 2, 0, 0, []) := by decide +kernel
theorem f157_65 : pm_f 157 65 = some (.iinc 3 1, 3, 3, 0, 1, []) := by decide +kernel
theorem f157_68 : pm_f 157 68 = some (.goto (-61), 3, 7, 0, 0, []) := by decide +kernel
theorem f157_71 : pm_f 157 71 = some (.iload_n 2, 1, 2, 0, 0, []) := by decide +kernel
theorem f157_72 : pm_f 157 72 = some (.ireturn, 1, 0, 0, 0, []) := by decide +kernel
theorem f158_0 : pm_f 158 0 = some (.aload_n 0, 1, 0, 0, 0, []) := by decide +kernel
theorem f158_1 : pm_f 158 1 = some (.aload_n 0, 1, 0, 0, 0, []) := by decide +kernel
theorem f158_2 : pm_f 158 2 = some (.getfield 19, 3, 8, 3, 0, []) := by decide +kernel
theorem f158_5 : pm_f 158 5 = some (.iload_n 1, 1, 1, 0, 0, []) := by decide +kernel
theorem f158_6 : pm_f 158 6 = some (.invokevirtual 250, 3, 124, 2, 8, []) := by decide +kernel
theorem f158_9 : pm_f 158 9 = some (.ifCond .eq 5, 3, 14, 0, 0, []) := by decide +kernel
theorem f158_12 : pm_f 158 12 = some (.iconst 0, 1, 0, 0, 0, []) := by decide +kernel
theorem f158_13 : pm_f 158 13 = some (.ireturn, 1, 0, 0, 0, []) := by decide +kernel
theorem f158_14 : pm_f 158 14 = some (.aload_n 0, 1, 0, 0, 0, []) := by decide +kernel
theorem f158_15 : pm_f 158 15 = some (.getfield 22, 3, 8, 4, 2, []) := by decide +kernel
theorem f158_18 : pm_f 158 18 = some (.iload_n 1, 1, 1, 0, 0, []) := by decide +kernel
theorem f158_19 : pm_f 158 19 = some (.iaload, 1, 0, 0, 0, []) := by decide +kernel
theorem f158_20 : pm_f 158 20 = some (.iconst 4, 1, 0, 0, 4, []) := by decide +kernel
theorem f158_21 : pm_f 158 21 = some (.if_icmp .ne 26, 3, 47, 0, 0, []) := by decide +kernel
theorem f158_24 : pm_f 158 24 = some (.aload_n 0, 1, 0, 0, 0, []) := by decide +kernel
theorem f158_25 : pm_f 158 25 = some (.getfield 32, 3, 8, 7, 2, []) := by decide +kernel
theorem f158_28 : pm_f 158 28 = some (.iload_n 1, 1, 1, 0, 0, []) := by decide +kernel
theorem f158_29 : pm_f 158 29 = some (.iaload, 1, 0, 0, 0, []) := by decide +kernel
theorem f158_30 : pm_f 158 30 = some (.bipush 30, 2, 0, 0, 30, []) := by decide +kernel
theorem f158_32 : pm_f 158 32 = some (.if_icmp .ge 8, 3, 40, 0, 0, []) := by decide +kernel
theorem f158_35 : pm_f 158 35 = some (.bipush 30, 2, 0, 0, 30, []) := by decide +kernel
theorem f158_37 : pm_f 158 37 = some (.goto 9, 3, 46, 0, 0, []) := by decide +kernel
theorem f158_40 : pm_f 158 40 = some (.aload_n 0, 1, 0, 0, 0, []) := by decide +kernel
theorem f158_41 : pm_f 158 41 = some (.getfield 32, 3, 8, 7, 2, []) := by decide +kernel
theorem f158_44 : pm_f 158 44 = some (.iload_n 1, 1, 1, 0, 0, []) := by decide +kernel
theorem f158_45 : pm_f 158 45 = some (.iaload, 1, 0, 0, 0, []) := by decide +kernel
theorem f158_46 : pm_f 158 46 = some (.ireturn, 1, 0, 0, 0, []) := by decide +kernel
theorem f158_47 : pm_f 158 47 = some (.aload_n 0, 1, 0, 0, 0, []) := by decide +kernel
theorem f158_48 : pm_f 158 48 = some (.getfield 22, 3, 8, 4, 2, []) := by decide +kernel
theorem f158_51 : pm_f 158 51 = some (.iload_n 1, 1, 1, 0, 0, []) := by decide +kernel
theorem f158_52 : pm_f 158 52 = some (.iaload, 1, 0, 0, 0, []) := by decide +kernel
theorem f158_53 : pm_f 158 53 = some (.iconst 5, 1, 0, 0, 5, []) := by decide +kernel
theorem f158_54 : pm_f 158 54 = some (.if_icmp .ne 27, 3, 81, 0, 0, []) := by decide +kernel
theorem f158_57 : pm_f 158 57 = some (.aload_n 0, 1, 0, 0, 0, []) := by decide +kernel
theorem f158_58 : pm_f 158 58 = some (.getfield 13, 3, 8, 1, 0, []) := by decide +kernel
theorem f158_61 : pm_f 158 61 = some (.aload_n 0, 1, 0, 0, 0, []) := by decide +kernel
theorem f158_62 : pm_f 158 62 = some (.getfield 7, 3, 8, 0, 0, []) := by decide +kernel
theorem f158_65 : pm_f 158 65 = some (.irem, 1, 0, 0, 0, []) := by decide +kernel
theorem f158_66 : pm_f 158 66 = some (.iload_n 1, 1, 1, 0, 0, []) := by decide +kernel
theorem f158_67 : pm_f 158 67 = some (.if_icmp .ne 14, 3, 81, 0, 0, []) := by decide +kernel
theorem f158_70 : pm_f 158 70 = some (.iconst 2, 1, 0, 0, 2, []) := by decide +kernel
theorem f158_71 : pm_f 158 71 = some (.aload_n 0, 1, 0, 0, 0, []) := by decide +kernel
theorem f158_72 : pm_f 158 72 = some (.getfield 32, 3, 8, 7, 2, []) := by decide +kernel
theorem f158_75 : pm_f 158 75 = some (.iload_n 1, 1, 1, 0, 0, []) := by decide +kernel
theorem f158_76 : pm_f 158 76 = some (.iaload, 1, 0, 0, 0, []) := by decide +kernel
theorem f158_77 : pm_f 158 77 = some (.imul, 1, 0, 0, 0, []) := by decide +kernel
theorem f158_78 : pm_f 158 78 = some (.goto 9, 3, 87, 0, 0, []) := by decide +kernel
theorem f158_81 : pm_f 158 81 = some (.aload_n 0, 1, 0, 0, 0, []) := by decide +kernel
theorem f158_82 : pm_f 158 82 = some (.getfield 32, 3, 8, 7, 2, []) := by decide +kernel
theorem f158_85 : pm_f 158 85 = some (.iload_n 1, 1, 1, 0, 0, []) := by decide +kernel
theorem f158_86 : pm_f 158 86 = some (.iaload, 1, 0, 0, 0, []) := by decide +kernel
theorem f158_87 : pm_f 158 87 = some (.ireturn, 1, 0, 0, 0, []) := by decide +kernel
theorem f159_0 : pm_f 159 0 = some (.aload_n 0, 1, 0, 0, 0, []) := by decide +kernel
theorem f159_1 : pm_f 159 1 = some (.getfield 29, 3, 8, 6, 2, []) := by decide +kernel
theorem f159_4 : pm_f 159 4 = some (.iload_n 1, 1, 1, 0, 0, []) := by decide +kernel
theorem f159_5 : pm_f 159 5 = some (.iaload, 1, 0, 0, 0, []) := by decide +kernel
theorem f159_6 : pm_f 159 6 = some (.aload_n 0, 1, 0, 0, 0, []) := by decide +kernel
theorem f159_7 : pm_f 159 7 = some (.getfield 29, 3, 8, 6, 2, []) := by decide +kernel
theorem f159_10 : pm_f 159 10 = some (.iload_n 2, 1, 2, 0, 0, []) := by decide +kernel
theorem f159_11 : pm_f 159 11 = some (.iaload, 1, 0, 0, 0, []) := by decide +kernel
theorem f159_12 : pm_f 159 12 = some (.if_icmp .ge 19, 3, 31, 0, 0, []) := by decide +kernel
theorem f159_15 : pm_f 159 15 = some (.aload_n 0, 1, 0, 0, 0, []) := by decide +kernel
theorem f159_16 : pm_f 159 16 = some (.getfield 29, 3, 8, 6, 2, []) := by decide +kernel
theorem f159_19 : pm_f 159 19 = some (.iload_n 2, 1, 2, 0, 0, []) := by decide +kernel
theorem f159_20 : pm_f 159 20 = some (.iaload, 1, 0, 0, 0, []) := by decide +kernel
theorem f159_21 : pm_f 159 21 = some (.aload_n 0, 1, 0, 0, 0, []) := by decide +kernel
theorem f159_22 : pm_f 159 22 = some (.getfield 29, 3, 8, 6, 2, []) := by decide +kernel
theorem f159_25 : pm_f 159 25 = some (.iload_n 1, 1, 1, 0, 0, []) := by decide +kernel
theorem f159_26 : pm_f 159 26 = some (.iaload, 1, 0, 0, 0, []) := by decide +kernel
theorem f159_27 : pm_f 159 27 = some (.isub, 1, 0, 0, 0, []) := by decide +kernel
theorem f159_28 : pm_f 159 28 = some (.goto 16, 3, 44, 0, 0, []) := by decide +kernel
theorem f159_31 : pm_f 159 31 = some (.aload_n 0, 1, 0, 0, 0, []) := by decide +kernel
theorem f159_32 : pm_f 159 32 = some (.getfield 29, 3, 8, 6, 2, []) := by decide +kernel
theorem f159_35 : pm_f 159 35 = some (.iload_n 1, 1, 1, 0, 0, []) := by decide +kernel
theorem f159_36 : pm_f 159 36 = some (.iaload, 1, 0, 0, 0, []) := by decide +kernel
theorem f159_37 : pm_f 159 37 = some (.aload_n 0, 1, 0, 0, 0, []) := by decide +kernel
theorem f159_38 : pm_f 159 38 = some (.getfield 29, 3, 8, 6, 2, []) := by decide +kernel
theorem f159_41 : pm_f 159 41 = some (.iload_n 2, 1, 2, 0, 0, []) := by decide +kernel
theorem f159_42 : pm_f 159 42 = some (.iaload, 1, 0, 0, 0, []) := by decide +kernel
theorem f159_43 : pm_f 159 43 = some (.isub, 1, 0, 0, 0, []) := by decide +kernel
theorem f159_44 : pm_f 159 44 = some (.istore_n 3, 1, 3, 0, 0, []) := by decide +kernel
theorem f159_45 : pm_f 159 45 = some (.iload_n 3, 1, 3, 0, 0, []) := by decide +kernel
theorem f159_46 : pm_f 159 46 = some (.bipush 10, 2, 0, 0, 10, []) := by decide +kernel
theorem f159_48 : pm_f 159 48 = some (.if_icmp .le 10, 3, 58, 0, 0, []) := by decide +kernel
theorem f159_51 : pm_f 159 51 = some (.bipush 20, 2, 0, 0, 20, []) := by decide +kernel
theorem f159_53 : pm_f 159 53 = some (.iload_n 3, 1, 3, 0, 0, []) := by decide +kernel
theorem f159_54 : pm_f 159 54 = some (.isub, 1, 0, 0, 0, []) := by decide +kernel
theorem f159_55 : pm_f 159 55 = some (.goto 4, 3, 59, 0, 0, []) := by decide +kernel
theorem f159_58 : pm_f 159 58 = some (.iload_n 3, 1, 3, 0, 0, []) := by decide +kernel
theorem f159_59 : pm_f 159 59 = some (.ireturn, 1, 0, 0, 0, []) := by decide +kernel
theorem f160_0 : pm_f 160 0 = some (.aload_n 0, 1, 0, 0, 0, []) := by decide +kernel
theorem f160_1 : pm_f 160 1 = some (.iload_n 2, 1, 2, 0, 0, []) := by decide +kernel
theorem f160_2 : pm_f 160 2 = some (.invokevirtual 323, 3, 158, 1, 8, []) := by decide +kernel
theorem f160_5 : pm_f 160 5 = some (.iconst 2, 1, 0, 0, 2, []) := by decide +kernel
theorem f160_6 : pm_f 160 6 = some (.aload_n 0, 1, 0, 0, 0, []) := by decide +kernel
theorem f160_7 : pm_f 160 7 = some (.iload_n 1, 1, 1, 0, 0, []) := by decide +kernel
theorem f160_8 : pm_f 160 8 = some (.iload_n 2, 1, 2, 0, 0, []) := by decide +kernel
theorem f160_9 : pm_f 160 9 = some (.invokevirtual 326, 3, 159, 2, 8, []) := by decide +kernel
theorem f160_12 : pm_f 160 12 = some (.imul, 1, 0, 0, 0, []) := by decide +kernel
theorem f160_13 : pm_f 160 13 = some (.isub, 1, 0, 0, 0, []) := by decide +kernel
theorem f160_14 : pm_f 160 14 = some (.istore_n 3, 1, 3, 0, 0, []) := by decide +kernel
theorem f160_15 : pm_f 160 15 = some (.iload_n 3, 1, 3, 0, 0, []) := by decide +kernel
theorem f160_16 : pm_f 160 16 = some (.ifCond .ge 7, 3, 23, 0, 0, []) := by decide +kernel
theorem f160_19 : pm_f 160 19 = some (.iconst 0, 1, 0, 0, 0, []) := by decide +kernel
theorem f160_20 : pm_f 160 20 = some (.goto 4, 3, 24, 0, 0, []) := by decide +kernel
theorem f160_23 : pm_f 160 23 = some (.iload_n 3, 1, 3, 0, 0, []) := by decide +kernel
theorem f160_24 : pm_f 160 24 = some (.ireturn, 1, 0, 0, 0, []) := by decide +kernel
theorem f161_0 : pm_f 161 0 = some (.bipush (-5), 2, 0, 0, (-5), []) := by decide +kernel
theorem f161_2 : pm_f 161 2 = some (.istore_n 2, 1, 2, 0, 0, []) := by decide +kernel
theorem f161_3 : pm_f 161 3 = some (.iconst 0, 1, 0, 0, 0, []) := by decide +kernel
theorem f161_4 : pm_f 161 4 = some (.istore_n 3, 1, 3, 0, 0, []) := by decide +kernel
theorem f161_5 : pm_f 161 5 = some (.iconst 0, 1, 0, 0, 0, []) := by decide +kernel
theorem f161_6 : pm_f 161 6 = some (.istore 4, 2, 4, 0, 0, []) := by decide +kernel
theorem f161_8 : pm_f 161 8 = some (.iload 4, 2, 4, 0, 0, []) := by decide +kernel
theorem f161_10 : pm_f 161 10 = some (.aload_n 0, 1, 0, 0, 0, []) := by decide +kernel
theorem f161_11 : pm_f 161 11 = some (.getfield 7, 3, 8, 0, 0, []) := by decide +kernel
theorem f161_14 : pm_f 161 14 = some (.if_icmp .ge 40, 3, 54, 0, 0, []) := by decide +kernel
theorem f161_17 : pm_f 161 17 = some (.iload 4, 2, 4, 0, 0, []) := by decide +kernel
theorem f161_19 : pm_f 161 19 = some (.iload_n 1, 1, 1, 0, 0, []) := by decide +kernel
theorem f161_20 : pm_f 161 20 = some (.if_icmp .eq 28, 3, 48, 0, 0, []) := by decide +kernel
theorem f161_23 : pm_f 161 23 = some (.aload_n 0, 1, 0, 0, 0, []) := by decide +kernel
theorem f161_24 : pm_f 161 24 = some (.iload_n 1, 1, 1, 0, 0, []) := by decide +kernel
theorem f161_25 : pm_f 161 25 = some (.iload 4, 2, 4, 0, 0, []) := by decide +kernel
theorem f161_27 : pm_f 161 27 = some (.invokevirtual 329, 3, 160, 2, 8, []) := by decide +kernel
theorem f161_30 : pm_f 161 30 = some (.iload_n 3, 1, 3, 0, 0, []) := by decide +kernel
theorem f161_31 : pm_f 161 31 = some (.if_icmp .gt 6, 3, 37, 0, 0, []) := by decide +kernel
theorem f161_34 : pm_f 161 34 = some (.goto 14, 3, 48, 0, 0, []) := by decide +kernel
theorem f161_37 : pm_f 161 37 = some (.iload 4, 2, 4, 0, 0, []) := by decide +kernel
theorem f161_39 : pm_f 161 39 = some (.istore_n 2, 1, 2, 0, 0, []) := by decide +kernel
theorem f161_40 : pm_f 161 40 = some (.aload_n 0, 1, 0, 0, 0, []) := by decide +kernel
theorem f161_41 : pm_f 161 41 = some (.iload_n 1, 1, 1, 0, 0, []) := by decide +kernel
theorem f161_42 : pm_f 161 42 = some (.iload 4, 2, 4, 0, 0, []) := by decide +kernel
theorem f161_44 : pm_f 161 44 = some (.invokevirtual 329, 3, 160, 2, 8, []) := by decide +kernel
theorem f161_47 : pm_f 161 47 = some (.istore_n 3, 1, 3, 0, 0, []) := by decide +kernel
theorem f161_48 : pm_f 161 48 = some (.iinc 4 1, 3, 4, 0, 1, []) := by decide +kernel
theorem f161_51 : pm_f 161 51 = some (.goto (-43), 3, 8, 0, 0, []) := by decide +kernel
theorem f161_54 : pm_f 161 54 = some (.iload_n 2, 1, 2, 0, 0, []) := by decide +kernel
theorem f161_55 : pm_f 161 55 = some (.ireturn, 1, 0, 0, 0, []) := by decide +kernel
theorem f162_0 : pm_f 162 0 = some (.iconst 0, 1, 0, 0, 0, []) := by decide +kernel
theorem f162_1 : pm_f 162 1 = some (.istore_n 2, 1, 2, 0, 0, []) := by decide +kernel
theorem f162_2 : pm_f 162 2 = some (.iconst 0, 1, 0, 0, 0, []) := by decide +kernel
theorem f162_3 : pm_f 162 3 = some (.istore_n 3, 1, 3, 0, 0, []) := by decide +kernel
theorem f162_4 : pm_f 162 4 = some (.iload_n 3, 1, 3, 0, 0, []) := by decide +kernel
theorem f162_5 : pm_f 162 5 = some (.aload_n 0, 1, 0, 0, 0, []) := by decide +kernel
theorem f162_6 : pm_f 162 6 = some (.getfield 7, 3, 8, 0, 0, []) := by decide +kernel
theorem f162_9 : pm_f 162 9 = some (.if_icmp .ge 27, 3, 36, 0, 0, []) := by decide +kernel
theorem f162_12 : pm_f 162 12 = some (.iload_n 2, 1, 2, 0, 0, []) := by decide +kernel
theorem f162_13 : pm_f 162 13 = some (.iload_n 3, 1, 3, 0, 0, []) := by decide +kernel
theorem f162_14 : pm_f 162 14 = some (.iload_n 1, 1, 1, 0, 0, []) := by decide +kernel
theorem f162_15 : pm_f 162 15 = some (.if_icmp .ne 7, 3, 22, 0, 0, []) := by decide +kernel
theorem f162_18 : pm_f 162 18 = some (.iconst 0, 1, 0, 0, 0, []) := by decide +kernel
theorem f162_19 : pm_f 162 19 = some (.goto 9, 3, 28, 0, 0, []) := by decide +kernel
theorem f162_22 : pm_f 162 22 = some (.aload_n 0, 1, 0, 0, 0, []) := by decide +kernel
theorem f162_23 : pm_f 162 23 = some (.iload_n 1, 1, 1, 0, 0, []) := by decide +kernel
theorem f162_24 : pm_f 162 24 = some (.iload_n 3, 1, 3, 0, 0, []) := by decide +kernel
theorem f162_25 : pm_f 162 25 = some (.invokevirtual 329, 3, 160, 2, 8, []) := by decide +kernel
theorem f162_28 : pm_f 162 28 = some (.iadd, 1, 0, 0, 0, []) := by decide +kernel
theorem f162_29 : pm_f 162 29 = some (.istore_n 2, 1, 2, 0, 0, []) := by decide +kernel
theorem f162_30 : pm_f 162 30 = some (.iinc 3 1, 3, 3, 0, 1, []) := by decide +kernel
theorem f162_33 : pm_f 162 33 = some (.goto (-29), 3, 4, 0, 0, []) := by decide +kernel
theorem f162_36 : pm_f 162 36 = some (.iload_n 2, 1, 2, 0, 0, []) := by decide +kernel
theorem f162_37 : pm_f 162 37 = some (.ireturn, 1, 0, 0, 0, []) := by decide +kernel
theorem f163_0 : pm_f 163 0 = some (.iconst 0, 1, 0, 0, 0, []) := by decide +kernel
theorem f163_1 : pm_f 163 1 = some (.istore_n 1, 1, 1, 0, 0, []) := by decide +kernel
theorem f163_2 : pm_f 163 2 = some (.iconst 0, 1, 0, 0, 0, []) := by decide +kernel
theorem f163_3 : pm_f 163 3 = some (.istore_n 2, 1, 2, 0, 0, []) := by decide +kernel
theorem f163_4 : pm_f 163 4 = some (.iload_n 2, 1, 2, 0, 0, []) := by decide +kernel
theorem f163_5 : pm_f 163 5 = some (.aload_n 0, 1, 0, 0, 0, []) := by decide +kernel
theorem f163_6 : pm_f 163 6 = some (.getfield 7, 3, 8, 0, 0, []) := by decide +kernel
theorem f163_9 : pm_f 163 9 = some (.if_icmp .ge 17, 3, 26, 0, 0, []) := by decide +kernel
theorem f163_12 : pm_f 163 12 = some (.iload_n 1, 1, 1, 0, 0, []) := by decide +kernel
theorem f163_13 : pm_f 163 13 = some (.aload_n 0, 1, 0, 0, 0, []) := by decide +kernel
theorem f163_14 : pm_f 163 14 = some (.iload_n 2, 1, 2, 0, 0, []) := by decide +kernel
theorem f163_15 : pm_f 163 15 = some (.invokevirtual 323, 3, 158, 1, 8, []) := by decide +kernel
theorem f163_18 : pm_f 163 18 = some (.iadd, 1, 0, 0, 0, []) := by decide +kernel
theorem f163_19 : pm_f 163 19 = some (.istore_n 1, 1, 1, 0, 0, []) := by decide +kernel
theorem f163_20 : pm_f 163 20 = some (.iinc 2 1, 3, 2, 0, 1, []) := by decide +kernel
theorem f163_23 : pm_f 163 23 = some (.goto (-19), 3, 4, 0, 0, []) := by decide +kernel
theorem f163_26 : pm_f 163 26 = some (.iload_n 1, 1, 1, 0, 0, []) := by decide +kernel
theorem f163_27 : pm_f 163 27 = some (.ireturn, 1, 0, 0, 0, []) := by decide +kernel
theorem f164_0 : pm_f 164 0 = some (.aload_n 0, 1, 0, 0, 0, []) := by decide +kernel
theorem f164_1 : pm_f 164 1 = some (.iload_n 1, 1, 1, 0, 0, []) := by decide +kernel
theorem f164_2 : pm_f 164 2 = some (.invokevirtual 332, 3, 161, 1, 8, []) := by decide +kernel
theorem f164_5 : pm_f 164 5 = some (.istore_n 2, 1, 2, 0, 0, []) := by decide +kernel
theorem f164_6 : pm_f 164 6 = some (.iload_n 2, 1, 2, 0, 0, []) := by decide +kernel
theorem f164_7 : pm_f 164 7 = some (.ifCond .ge 12, 3, 19, 0, 0, []) := by decide +kernel
theorem f164_10 : pm_f 164 10 = some (.aload_n 0, 1, 0, 0, 0, []) := by decide +kernel
theorem f164_11 : pm_f 164 11 = some (.getfield 35, 3, 8, 8, 2, []) := by decide +kernel
theorem f164_14 : pm_f 164 14 = some (.iload_n 1, 1, 1, 0, 0, []) := by decide +kernel
theorem f164_15 : pm_f 164 15 = some (.iaload, 1, 0, 0, 0, []) := by decide +kernel
theorem f164_16 : pm_f 164 16 = some (.goto 9, 3, 25, 0, 0, []) := by decide +kernel
theorem f164_19 : pm_f 164 19 = some (.aload_n 0, 1, 0, 0, 0, []) := by decide +kernel
theorem f164_20 : pm_f 164 20 = some (.getfield 35, 3, 8, 8, 2, []) := by decide +kernel
theorem f164_23 : pm_f 164 23 = some (.iload_n 2, 1, 2, 0, 0, []) := by decide +kernel
theorem f164_24 : pm_f 164 24 = some (.iaload, 1, 0, 0, 0, []) := by decide +kernel
theorem f164_25 : pm_f 164 25 = some (.istore_n 3, 1, 3, 0, 0, []) := by decide +kernel
theorem f164_26 : pm_f 164 26 = some (.aload_n 0, 1, 0, 0, 0, []) := by decide +kernel
theorem f164_27 : pm_f 164 27 = some (.getfield 13, 3, 8, 1, 0, []) := by decide +kernel
theorem f164_30 : pm_f 164 30 = some (.aload_n 0, 1, 0, 0, 0, []) := by decide +kernel
theorem f164_31 : pm_f 164 31 = some (.getfield 26, 3, 8, 5, 2, []) := by decide +kernel
theorem f164_34 : pm_f 164 34 = some (.iload_n 1, 1, 1, 0, 0, []) := by decide +kernel
theorem f164_35 : pm_f 164 35 = some (.iaload, 1, 0, 0, 0, []) := by decide +kernel
theorem f164_36 : pm_f 164 36 = some (.iconst 2, 1, 0, 0, 2, []) := by decide +kernel
theorem f164_37 : pm_f 164 37 = some (.iadd, 1, 0, 0, 0, []) := by decide +kernel
theorem f164_38 : pm_f 164 38 = some (.irem, 1, 0, 0, 0, []) := by decide +kernel
theorem f164_39 : pm_f 164 39 = some (.ifCond .ne 12, 3, 51, 0, 0, []) := by decide +kernel
theorem f164_42 : pm_f 164 42 = some (.aload_n 0, 1, 0, 0, 0, []) := by decide +kernel
theorem f164_43 : pm_f 164 43 = some (.getfield 35, 3, 8, 8, 2, []) := by decide +kernel
theorem f164_46 : pm_f 164 46 = some (.iload_n 1, 1, 1, 0, 0, []) := by decide +kernel
theorem f164_47 : pm_f 164 47 = some (.iaload, 1, 0, 0, 0, []) := by decide +kernel
theorem f164_48 : pm_f 164 48 = some (.goto 4, 3, 52, 0, 0, []) := by decide +kernel
theorem f164_51 : pm_f 164 51 = some (.iload_n 3, 1, 3, 0, 0, []) := by decide +kernel
theorem f164_52 : pm_f 164 52 = some (.istore 4, 2, 4, 0, 0, []) := by decide +kernel
theorem f164_54 : pm_f 164 54 = some (.aload_n 0, 1, 0, 0, 0, []) := by decide +kernel
theorem f164_55 : pm_f 164 55 = some (.getfield 22, 3, 8, 4, 2, []) := by decide +kernel
theorem f164_58 : pm_f 164 58 = some (.iload_n 1, 1, 1, 0, 0, []) := by decide +kernel
theorem f164_59 : pm_f 164 59 = some (.iaload, 1, 0, 0, 0, []) := by decide +kernel
theorem f164_60 : pm_f 164 60 = some (.tableswitch 78 1 6 #[40, 47, 56, 40, 47, 59], 40, 138, 0, 0, [(1, 100), (2, 107), (3, 116), (4, 100), (5, 107), (6, 119)]) := by decide +kernel
theorem f164_100 : pm_f 164 100 = some (.aload_n 0, 1, 0, 0, 0, []) := by decide +kernel
theorem f164_101 : pm_f 164 101 = some (.getfield 35, 3, 8, 8, 2, []) := by decide +kernel
theorem f164_104 : pm_f 164 104 = some (.iload_n 1, 1, 1, 0, 0, []) := by decide +kernel
theorem f164_105 : pm_f 164 105 = some (.iaload, 1, 0, 0, 0, []) := by decide +kernel
theorem f164_106 : pm_f 164 106 = some (.ireturn, 1, 0, 0, 0, []) := by decide +kernel
theorem f164_107 : pm_f 164 107 = some (.iload_n 3, 1, 3, 0, 0, []) := by decide +kernel
theorem f164_108 : pm_f 164 108 = some (.aload_n 0, 1, 0, 0, 0, []) := by decide +kernel
theorem f164_109 : pm_f 164 109 = some (.getfield 26, 3, 8, 5, 2, []) := by decide +kernel
theorem f164_112 : pm_f 164 112 = some (.iload_n 1, 1, 1, 0, 0, []) := by decide +kernel
theorem f164_113 : pm_f 164 113 = some (.iaload, 1, 0, 0, 0, []) := by decide +kernel
theorem f164_114 : pm_f 164 114 = some (.iadd, 1, 0, 0, 0, []) := by decide +kernel
theorem f164_115 : pm_f 164 115 = some (.ireturn, 1, 0, 0, 0, []) := by decide +kernel
theorem f164_116 : pm_f 164 116 = some (.iload 4, 2, 4, 0, 0, []) := by decide +kernel
theorem f164_118 : pm_f 164 118 = some (.ireturn, 1, 0, 0, 0, []) := by decide +kernel
theorem f164_119 : pm_f 164 119 = some (.iload 4, 2, 4, 0, 0, []) := by decide +kernel
theorem f164_121 : pm_f 164 121 = some (.aload_n 0, 1, 0, 0, 0, []) := by decide +kernel
theorem f164_122 : pm_f 164 122 = some (.getfield 38, 3, 8, 9, 2, []) := by decide +kernel
theorem f164_125 : pm_f 164 125 = some (.iconst 4, 1, 0, 0, 4, []) := by decide +kernel
theorem f164_126 : pm_f 164 126 = some (.iload_n 1, 1, 1, 0, 0, []) := by decide +kernel
theorem f164_127 : pm_f 164 127 = some (.imul, 1, 0, 0, 0, []) := by decide +kernel
theorem f164_128 : pm_f 164 128 = some (.aload_n 0, 1, 0, 0, 0, []) := by decide +kernel
theorem f164_129 : pm_f 164 129 = some (.getfield 13, 3, 8, 1, 0, []) := by decide +kernel
theorem f164_132 : pm_f 164 132 = some (.iconst 4, 1, 0, 0, 4, []) := by decide +kernel
theorem f164_133 : pm_f 164 133 = some (.irem, 1, 0, 0, 0, []) := by decide +kernel
theorem f164_134 : pm_f 164 134 = some (.iadd, 1, 0, 0, 0, []) := by decide +kernel
theorem f164_135 : pm_f 164 135 = some (.iaload, 1, 0, 0, 0, []) := by decide +kernel
theorem f164_136 : pm_f 164 136 = some (.iadd, 1, 0, 0, 0, []) := by decide +kernel
theorem f164_137 : pm_f 164 137 = some (.ireturn, 1, 0, 0, 0, []) := by decide +kernel
theorem f164_138 : pm_f 164 138 = some (.iload_n 3, 1, 3, 0, 0, []) := by decide +kernel
theorem f164_139 : pm_f 164 139 = some (.ireturn, 1, 0, 0, 0, []) := by decide +kernel
theorem f165_0 : pm_f 165 0 = some (.aload_n 0, 1, 0, 0, 0, []) := by decide +kernel
theorem f165_1 : pm_f 165 1 = some (.iload_n 1, 1, 1, 0, 0, []) := by decide +kernel
theorem f165_2 : pm_f 165 2 = some (.invokevirtual 247, 3, 125, 1, 8, []) := by decide +kernel
theorem f165_5 : pm_f 165 5 = some (.ifCond .ne 7, 3, 12, 0, 0, []) := by decide +kernel
theorem f165_8 : pm_f 165 8 = some (.sipush (-1001), 3, 0, 0, (-1001), []) := by decide +kernel
theorem f165_11 : pm_f 165 11 = some (.ireturn, 1, 0, 0, 0, []) := by decide +kernel
theorem f165_12 : pm_f 165 12 = some (.iload_n 2, 1, 2, 0, 0, []) := by decide +kernel
theorem f165_13 : pm_f 165 13 = some (.tableswitch 142 0 10 #[59, 66, 73, 80, 87, 94, 112, 118, 124, 130, 136], 59, 155, 0, 0, [(0, 72), (1, 79), (2, 86), (3, 93), (4, 100), (5, 107), (6, 125), (7, 131), (8, 137), (9, 143), (10, 149)]) := by decide +kernel
theorem f165_72 : pm_f 165 72 = some (.aload_n 0, 1, 0, 0, 0, []) := by decide +kernel
theorem f165_73 : pm_f 165 73 = some (.getfield 22, 3, 8, 4, 2, []) := by decide +kernel
theorem f165_76 : pm_f 165 76 = some (.iload_n 1, 1, 1, 0, 0, []) := by decide +kernel
theorem f165_77 : pm_f 165 77 = some (.iaload, 1, 0, 0, 0, []) := by decide +kernel
theorem f165_78 : pm_f 165 78 = some (.ireturn, 1, 0, 0, 0, []) := by decide +kernel
theorem f165_79 : pm_f 165 79 = some (.aload_n 0, 1, 0, 0, 0, []) := by decide +kernel
theorem f165_80 : pm_f 165 80 = some (.getfield 26, 3, 8, 5, 2, []) := by decide +kernel
theorem f165_83 : pm_f 165 83 = some (.iload_n 1, 1, 1, 0, 0, []) := by decide +kernel
theorem f165_84 : pm_f 165 84 = some (.iaload, 1, 0, 0, 0, []) := by decide +kernel
theorem f165_85 : pm_f 165 85 = some (.ireturn, 1, 0, 0, 0, []) := by decide +kernel
theorem f165_86 : pm_f 165 86 = some (.aload_n 0, 1, 0, 0, 0, []) := by decide +kernel
theorem f165_87 : pm_f 165 87 = some (.getfield 29, 3, 8, 6, 2, []) := by decide +kernel
theorem f165_90 : pm_f 165 90 = some (.iload_n 1, 1, 1, 0, 0, []) := by decide +kernel
theorem f165_91 : pm_f 165 91 = some (.iaload, 1, 0, 0, 0, []) := by decide +kernel
theorem f165_92 : pm_f 165 92 = some (.ireturn, 1, 0, 0, 0, []) := by decide +kernel
theorem f165_93 : pm_f 165 93 = some (.aload_n 0, 1, 0, 0, 0, []) := by decide +kernel
theorem f165_94 : pm_f 165 94 = some (.getfield 32, 3, 8, 7, 2, []) := by decide +kernel
theorem f165_97 : pm_f 165 97 = some (.iload_n 1, 1, 1, 0, 0, []) := by decide +kernel
theorem f165_98 : pm_f 165 98 = some (.iaload, 1, 0, 0, 0, []) := by decide +kernel
theorem f165_99 : pm_f 165 99 = some (.ireturn, 1, 0, 0, 0, []) := by decide +kernel
theorem f165_100 : pm_f 165 100 = some (.aload_n 0, 1, 0, 0, 0, []) := by decide +kernel
theorem f165_101 : pm_f 165 101 = some (.getfield 35, 3, 8, 8, 2, []) := by decide +kernel
theorem f165_104 : pm_f 165 104 = some (.iload_n 1, 1, 1, 0, 0, []) := by decide +kernel
theorem f165_105 : pm_f 165 105 = some (.iaload, 1, 0, 0, 0, []) := by decide +kernel
theorem f165_106 : pm_f 165 106 = some (.ireturn, 1, 0, 0, 0, []) := by decide +kernel
theorem f165_107 : pm_f 165 107 = some (.aload_n 0, 1, 0, 0, 0, []) := by decide +kernel
theorem f165_108 : pm_f 165 108 = some (.aload_n 0, 1, 0, 0, 0, []) := by decide +kernel
theorem f165_109 : pm_f 165 109 = some (.getfield 19, 3, 8, 3, 0, []) := by decide +kernel
theorem f165_112 : pm_f 165 112 = some (.iload_n 1, 1, 1, 0, 0, []) := by decide +kernel
theorem f165_113 : pm_f 165 113 = some (.invokevirtual 250, 3, 124, 2, 8, []) := by decide +kernel
theorem f165_116 : pm_f 165 116 = some (.ifCond .eq 7, 3, 123, 0, 0, []) := by decide +kernel
theorem f165_119 : pm_f 165 119 = some (.iconst 1, 1, 0, 0, 1, []) := by decide +kernel
theorem f165_120 : pm_f 165 120 = some (.goto 4, 3, 124, 0, 0, []) := by decide +kernel
theorem f165_123 : pm_f 165 123 = some (.iconst 0, 1, 0, 0, 0, []) := by decide +kernel
theorem f165_124 : pm_f 165 124 = some (.ireturn, 1, 0, 0, 0, []) := by decide +kernel
theorem f165_125 : pm_f 165 125 = some (.aload_n 0, 1, 0, 0, 0, []) := by decide +kernel
theorem f165_126 : pm_f 165 126 = some (.iload_n 1, 1, 1, 0, 0, []) := by decide +kernel
theorem f165_127 : pm_f 165 127 = some (.invokevirtual 323, 3, 158, 1, 8, []) := by decide +kernel
theorem f165_130 : pm_f 165 130 = some (.ireturn, 1, 0, 0, 0, []) := by decide +kernel
theorem f165_131 : pm_f 165 131 = some (.aload_n 0, 1, 0, 0, 0, []) := by decide +kernel
theorem f165_132 : pm_f 165 132 = some (.iload_n 1, 1, 1, 0, 0, []) := by decide +kernel
theorem f165_133 : pm_f 165 133 = some (.invokevirtual 332, 3, 161, 1, 8, []) := by decide +kernel
theorem f165_136 : pm_f 165 136 = some (.ireturn, 1, 0, 0, 0, []) := by decide +kernel
theorem f165_137 : pm_f 165 137 = some (.aload_n 0, 1, 0, 0, 0, []) := by decide +kernel
theorem f165_138 : pm_f 165 138 = some (.iload_n 1, 1, 1, 0, 0, []) := by decide +kernel
theorem f165_139 : pm_f 165 139 = some (.invokevirtual 335, 3, 162, 1, 8, []) := by decide +kernel
theorem f165_142 : pm_f 165 142 = some (.ireturn, 1, 0, 0, 0, []) := by decide +kernel
theorem f165_143 : pm_f 165 143 = some (.aload_n 0, 1, 0, 0, 0, []) := by decide +kernel
theorem f165_144 : pm_f 165 144 = some (.iload_n 1, 1, 1, 0, 0, []) := by decide +kernel
theorem f165_145 : pm_f 165 145 = some (.invokevirtual 338, 3, 164, 1, 8, []) := by decide +kernel
theorem f165_148 : pm_f 165 148 = some (.ireturn, 1, 0, 0, 0, []) := by decide +kernel
theorem f165_149 : pm_f 165 149 = some (.aload_n 0, 1, 0, 0, 0, []) := by decide +kernel
theorem f165_150 : pm_f 165 150 = some (.iload_n 1, 1, 1, 0, 0, []) := by decide +kernel
theorem f165_151 : pm_f 165 151 = some (.invokevirtual 341, 3, 157, 1, 8, []) := by decide +kernel
theorem f165_154 : pm_f 165 154 = some (.ireturn, 1, 0, 0, 0, []) := by decide +kernel
theorem f165_155 : pm_f 165 155 = some (.sipush (-1001), 3, 0, 0, (-1001), []) := by decide +kernel
theorem f165_158 : pm_f 165 158 = some (.ireturn, 1, 0, 0, 0, []) := by decide +kernel
theorem f166_0 : pm_f 166 0 = some (.iload_n 1, 1, 1, 0, 0, []) := by decide +kernel
theorem f166_1 : pm_f 166 1 = some (.tableswitch 80 0 6 #[43, 48, 53, 58, 65, 70, 75], 43, 81, 0, 0, [(0, 44), (1, 49), (2, 54), (3, 59), (4, 66), (5, 71), (6, 76)]) := by decide +kernel
theorem f166_44 : pm_f 166 44 = some (.aload_n 0, 1, 0, 0, 0, []) := by decide +kernel
theorem f166_45 : pm_f 166 45 = some (.getfield 13, 3, 8, 1, 0, []) := by decide +kernel
theorem f166_48 : pm_f 166 48 = some (.ireturn, 1, 0, 0, 0, []) := by decide +kernel
theorem f166_49 : pm_f 166 49 = some (.aload_n 0, 1, 0, 0, 0, []) := by decide +kernel
theorem f166_50 : pm_f 166 50 = some (.getfield 16, 3, 8, 2, 0, []) := by decide +kernel
theorem f166_53 : pm_f 166 53 = some (.ireturn, 1, 0, 0, 0, []) := by decide +kernel
theorem f166_54 : pm_f 166 54 = some (.aload_n 0, 1, 0, 0, 0, []) := by decide +kernel
theorem f166_55 : pm_f 166 55 = some (.invokevirtual 344, 3, 163, 0, 8, []) := by decide +kernel
theorem f166_58 : pm_f 166 58 = some (.ireturn, 1, 0, 0, 0, []) := by decide +kernel
theorem f166_59 : pm_f 166 59 = some (.aload_n 0, 1, 0, 0, 0, []) := by decide +kernel
theorem f166_60 : pm_f 166 60 = some (.iconst 2, 1, 0, 0, 2, []) := by decide +kernel
theorem f166_61 : pm_f 166 61 = some (.iconst 2, 1, 0, 0, 2, []) := by decide +kernel
theorem f166_62 : pm_f 166 62 = some (.invokevirtual 313, 3, 152, 2, 8, []) := by decide +kernel
theorem f166_65 : pm_f 166 65 = some (.ireturn, 1, 0, 0, 0, []) := by decide +kernel
theorem f166_66 : pm_f 166 66 = some (.aload_n 0, 1, 0, 0, 0, []) := by decide +kernel
theorem f166_67 : pm_f 166 67 = some (.invokevirtual 347, 3, 153, 0, 8, []) := by decide +kernel
theorem f166_70 : pm_f 166 70 = some (.ireturn, 1, 0, 0, 0, []) := by decide +kernel
theorem f166_71 : pm_f 166 71 = some (.aload_n 0, 1, 0, 0, 0, []) := by decide +kernel
theorem f166_72 : pm_f 166 72 = some (.invokevirtual 350, 3, 154, 0, 8, []) := by decide +kernel
theorem f166_75 : pm_f 166 75 = some (.ireturn, 1, 0, 0, 0, []) := by decide +kernel
theorem f166_76 : pm_f 166 76 = some (.aload_n 0, 1, 0, 0, 0, []) := by decide +kernel
theorem f166_77 : pm_f 166 77 = some (.getfield 19, 3, 8, 3, 0, []) := by decide +kernel
theorem f166_80 : pm_f 166 80 = some (.ireturn, 1, 0, 0, 0, []) := by decide +kernel
theorem f166_81 : pm_f 166 81 = some (.iconst (-1), 1, 0, 0, (-1), []) := by decide +kernel
theorem f166_82 : pm_f 166 82 = some (.ireturn, 1, 0, 0, 0, []) := by decide +kernel
theorem f167_0 : pm_f 167 0 = some (.aload_n 0, 1, 0, 0, 0, []) := by decide +kernel
theorem f167_1 : pm_f 167 1 = some (.iload_n 1, 1, 1, 0, 0, []) := by decide +kernel
theorem f167_2 : pm_f 167 2 = some (.invokevirtual 338, 3, 164, 1, 8, []) := by decide +kernel
theorem f167_5 : pm_f 167 5 = some (.istore_n 2, 1, 2, 0, 0, []) := by decide +kernel
theorem f167_6 : pm_f 167 6 = some (.aload_n 0, 1, 0, 0, 0, []) := by decide +kernel
theorem f167_7 : pm_f 167 7 = some (.iconst 2, 1, 0, 0, 2, []) := by decide +kernel
theorem f167_8 : pm_f 167 8 = some (.iconst 2, 1, 0, 0, 2, []) := by decide +kernel
theorem f167_9 : pm_f 167 9 = some (.invokevirtual 313, 3, 152, 2, 8, []) := by decide +kernel
theorem f167_12 : pm_f 167 12 = some (.istore_n 3, 1, 3, 0, 0, []) := by decide +kernel
theorem f167_13 : pm_f 167 13 = some (.iload_n 2, 1, 2, 0, 0, []) := by decide +kernel
theorem f167_14 : pm_f 167 14 = some (.aload_n 0, 1, 0, 0, 0, []) := by decide +kernel
theorem f167_15 : pm_f 167 15 = some (.getfield 35, 3, 8, 8, 2, []) := by decide +kernel
theorem f167_18 : pm_f 167 18 = some (.iload_n 1, 1, 1, 0, 0, []) := by decide +kernel
theorem f167_19 : pm_f 167 19 = some (.iaload, 1, 0, 0, 0, []) := by decide +kernel
theorem f167_20 : pm_f 167 20 = some (.iload_n 3, 1, 3, 0, 0, []) := by decide +kernel
theorem f167_21 : pm_f 167 21 = some (.iadd, 1, 0, 0, 0, []) := by decide +kernel
theorem f167_22 : pm_f 167 22 = some (.if_icmp .le 14, 3, 36, 0, 0, []) := by decide +kernel
theorem f167_25 : pm_f 167 25 = some (.aload_n 0, 1, 0, 0, 0, []) := by decide +kernel
theorem f167_26 : pm_f 167 26 = some (.getfield 35, 3, 8, 8, 2, []) := by decide +kernel
theorem f167_29 : pm_f 167 29 = some (.iload_n 1, 1, 1, 0, 0, []) := by decide +kernel
theorem f167_30 : pm_f 167 30 = some (.iaload, 1, 0, 0, 0, []) := by decide +kernel
theorem f167_31 : pm_f 167 31 = some (.iload_n 3, 1, 3, 0, 0, []) := by decide +kernel
theorem f167_32 : pm_f 167 32 = some (.iadd, 1, 0, 0, 0, []) := by decide +kernel
theorem f167_33 : pm_f 167 33 = some (.goto 27, 3, 60, 0, 0, []) := by decide +kernel
theorem f167_36 : pm_f 167 36 = some (.iload_n 2, 1, 2, 0, 0, []) := by decide +kernel
theorem f167_37 : pm_f 167 37 = some (.aload_n 0, 1, 0, 0, 0, []) := by decide +kernel
theorem f167_38 : pm_f 167 38 = some (.getfield 35, 3, 8, 8, 2, []) := by decide +kernel
theorem f167_41 : pm_f 167 41 = some (.iload_n 1, 1, 1, 0, 0, []) := by decide +kernel
theorem f167_42 : pm_f 167 42 = some (.iaload, 1, 0, 0, 0, []) := by decide +kernel
theorem f167_43 : pm_f 167 43 = some (.iload_n 3, 1, 3, 0, 0, []) := by decide +kernel
theorem f167_44 : pm_f 167 44 = some (.isub, 1, 0, 0, 0, []) := by decide +kernel
theorem f167_45 : pm_f 167 45 = some (.if_icmp .ge 14, 3, 59, 0, 0, []) := by decide +kernel
theorem f167_48 : pm_f 167 48 = some (.aload_n 0, 1, 0, 0, 0, []) := by decide +kernel
theorem f167_49 : pm_f 167 49 = some (.getfield 35, 3, 8, 8, 2, []) := by decide +kernel
theorem f167_52 : pm_f 167 52 = some (.iload_n 1, 1, 1, 0, 0, []) := by decide +kernel
theorem f167_53 : pm_f 167 53 = some (.iaload, 1, 0, 0, 0, []) := by decide +kernel
theorem f167_54 : pm_f 167 54 = some (.iload_n 3, 1, 3, 0, 0, []) := by decide +kernel
theorem f167_55 : pm_f 167 55 = some (.isub, 1, 0, 0, 0, []) := by decide +kernel
theorem f167_56 : pm_f 167 56 = some (.goto 4, 3, 60, 0, 0, []) := by decide +kernel
theorem f167_59 : pm_f 167 59 = some (.iload_n 2, 1, 2, 0, 0, []) := by decide +kernel
theorem f167_60 : pm_f 167 60 = some (.istore 4, 2, 4, 0, 0, []) := by decide +kernel
theorem f167_62 : pm_f 167 62 = some (.aload_n 0, 1, 0, 0, 0, []) := by decide +kernel
theorem f167_63 : pm_f 167 63 = some (.iload 4, 2, 4, 0, 0, []) := by decide +kernel
theorem f167_65 : pm_f 167 65 = some (.iconst 1, 1, 0, 0, 1, []) := by decide +kernel
theorem f167_66 : pm_f 167 66 = some (.sipush 200, 3, 0, 0, 200, []) := by decide +kernel
theorem f167_69 : pm_f 167 69 = some (.invokevirtual 353, 3, 123, 3, 8, []) := by decide +kernel
theorem f167_72 : pm_f 167 72 = some (.ireturn, 1, 0, 0, 0, []) := by decide +kernel
theorem f168_0 : pm_f 168 0 = some (.aload_n 0, 1, 0, 0, 0, []) := by decide +kernel
theorem f168_1 : pm_f 168 1 = some (.invokevirtual 344, 3, 163, 0, 8, []) := by decide +kernel
theorem f168_4 : pm_f 168 4 = some (.istore_n 1, 1, 1, 0, 0, []) := by decide +kernel
theorem f168_5 : pm_f 168 5 = some (.iconst 0, 1, 0, 0, 0, []) := by decide +kernel
theorem f168_6 : pm_f 168 6 = some (.istore_n 2, 1, 2, 0, 0, []) := by decide +kernel
theorem f168_7 : pm_f 168 7 = some (.iload_n 2, 1, 2, 0, 0, []) := by decide +kernel
theorem f168_8 : pm_f 168 8 = some (.aload_n 0, 1, 0, 0, 0, []) := by decide +kernel
theorem f168_9 : pm_f 168 9 = some (.getfield 7, 3, 8, 0, 0, []) := by decide +kernel
theorem f168_12 : pm_f 168 12 = some (.if_icmp .ge 85, 3, 97, 0, 0, []) := by decide +kernel
theorem f168_15 : pm_f 168 15 = some (.aload_n 0, 1, 0, 0, 0, []) := by decide +kernel
theorem f168_16 : pm_f 168 16 = some (.getfield 96, 3, 8, 28, 2, []) := by decide +kernel
theorem f168_19 : pm_f 168 19 = some (.iload_n 2, 1, 2, 0, 0, []) := by decide +kernel
theorem f168_20 : pm_f 168 20 = some (.aload_n 0, 1, 0, 0, 0, []) := by decide +kernel
theorem f168_21 : pm_f 168 21 = some (.iload_n 2, 1, 2, 0, 0, []) := by decide +kernel
theorem f168_22 : pm_f 168 22 = some (.invokevirtual 357, 3, 167, 1, 8, []) := by decide +kernel
theorem f168_25 : pm_f 168 25 = some (.iastore, 1, 0, 0, 0, []) := by decide +kernel
theorem f168_26 : pm_f 168 26 = some (.aload_n 0, 1, 0, 0, 0, []) := by decide +kernel
theorem f168_27 : pm_f 168 27 = some (.getfield 99, 3, 8, 29, 2, []) := by decide +kernel
theorem f168_30 : pm_f 168 30 = some (.iload_n 2, 1, 2, 0, 0, []) := by decide +kernel
theorem f168_31 : pm_f 168 31 = some (.aload_n 0, 1, 0, 0, 0, []) := by decide +kernel
theorem f168_32 : pm_f 168 32 = some (.aload_n 0, 1, 0, 0, 0, []) := by decide +kernel
theorem f168_33 : pm_f 168 33 = some (.getfield 19, 3, 8, 3, 0, []) := by decide +kernel
theorem f168_36 : pm_f 168 36 = some (.iload_n 2, 1, 2, 0, 0, []) := by decide +kernel
theorem f168_37 : pm_f 168 37 = some (.invokevirtual 250, 3, 124, 2, 8, []) := by decide +kernel
theorem f168_40 : pm_f 168 40 = some (.ifCond .eq 12, 3, 52, 0, 0, []) := by decide +kernel
theorem f168_43 : pm_f 168 43 = some (.aload_n 0, 1, 0, 0, 0, []) := by decide +kernel
theorem f168_44 : pm_f 168 44 = some (.getfield 32, 3, 8, 7, 2, []) := by decide +kernel
theorem f168_47 : pm_f 168 47 = some (.iload_n 2, 1, 2, 0, 0, []) := by decide +kernel
theorem f168_48 : pm_f 168 48 = some (.iaload, 1, 0, 0, 0, []) := by decide +kernel
theorem f168_49 : pm_f 168 49 = some (.goto 41, 3, 90, 0, 0, []) := by decide +kernel
theorem f168_52 : pm_f 168 52 = some (.aload_n 0, 1, 0, 0, 0, []) := by decide +kernel
theorem f168_53 : pm_f 168 53 = some (.aload_n 0, 1, 0, 0, 0, []) := by decide +kernel
theorem f168_54 : pm_f 168 54 = some (.getfield 32, 3, 8, 7, 2, []) := by decide +kernel
theorem f168_57 : pm_f 168 57 = some (.iload_n 2, 1, 2, 0, 0, []) := by decide +kernel
theorem f168_58 : pm_f 168 58 = some (.iaload, 1, 0, 0, 0, []) := by decide +kernel
theorem f168_59 : pm_f 168 59 = some (.aload_n 0, 1, 0, 0, 0, []) := by decide +kernel
theorem f168_60 : pm_f 168 60 = some (.iload_n 2, 1, 2, 0, 0, []) := by decide +kernel
theorem f168_61 : pm_f 168 61 = some (.invokevirtual 341, 3, 157, 1, 8, []) := by decide +kernel
theorem f168_64 : pm_f 168 64 = some (.iadd, 1, 0, 0, 0, []) := by decide +kernel
theorem f168_65 : pm_f 168 65 = some (.aload_n 0, 1, 0, 0, 0, []) := by decide +kernel
theorem f168_66 : pm_f 168 66 = some (.iload_n 2, 1, 2, 0, 0, []) := by decide +kernel
theorem f168_67 : pm_f 168 67 = some (.invokevirtual 335, 3, 162, 1, 8, []) := by decide +kernel
theorem f168_70 : pm_f 168 70 = some (.aload_n 0, 1, 0, 0, 0, []) := by decide +kernel
theorem f168_71 : pm_f 168 71 = some (.iload_n 2, 1, 2, 0, 0, []) := by decide +kernel
theorem f168_72 : pm_f 168 72 = some (.invokevirtual 323, 3, 158, 1, 8, []) := by decide +kernel
theorem f168_75 : pm_f 168 75 = some (.if_icmp .le 7, 3, 82, 0, 0, []) := by decide +kernel
theorem f168_78 : pm_f 168 78 = some (.iconst 3, 1, 0, 0, 3, []) := by decide +kernel
theorem f168_79 : pm_f 168 79 = some (.goto 4, 3, 83, 0, 0, []) := by decide +kernel
theorem f168_82 : pm_f 168 82 = some (.iconst 0, 1, 0, 0, 0, []) := by decide +kernel
theorem f168_83 : pm_f 168 83 = some (.iadd, 1, 0, 0, 0, []) := by decide +kernel
theorem f168_84 : pm_f 168 84 = some (.iconst 0, 1, 0, 0, 0, []) := by decide +kernel
theorem f168_85 : pm_f 168 85 = some (.bipush 99, 2, 0, 0, 99, []) := by decide +kernel
theorem f168_87 : pm_f 168 87 = some (.invokevirtual 353, 3, 123, 3, 8, []) := by decide +kernel
theorem f168_90 : pm_f 168 90 = some (.iastore, 1, 0, 0, 0, []) := by decide +kernel
theorem f168_91 : pm_f 168 91 = some (.iinc 2 1, 3, 2, 0, 1, []) := by decide +kernel
theorem f168_94 : pm_f 168 94 = some (.goto (-87), 3, 7, 0, 0, []) := by decide +kernel
theorem f168_97 : pm_f 168 97 = some (.iconst 0, 1, 0, 0, 0, []) := by decide +kernel
theorem f168_98 : pm_f 168 98 = some (.istore_n 2, 1, 2, 0, 0, []) := by decide +kernel
theorem f168_99 : pm_f 168 99 = some (.iload_n 2, 1, 2, 0, 0, []) := by decide +kernel
theorem f168_100 : pm_f 168 100 = some (.aload_n 0, 1, 0, 0, 0, []) := by decide +kernel
theorem f168_101 : pm_f 168 101 = some (.getfield 7, 3, 8, 0, 0, []) := by decide +kernel
theorem f168_104 : pm_f 168 104 = some (.if_icmp .ge 33, 3, 137, 0, 0, []) := by decide +kernel
theorem f168_107 : pm_f 168 107 = some (.aload_n 0, 1, 0, 0, 0, []) := by decide +kernel
theorem f168_108 : pm_f 168 108 = some (.getfield 35, 3, 8, 8, 2, []) := by decide +kernel
theorem f168_111 : pm_f 168 111 = some (.iload_n 2, 1, 2, 0, 0, []) := by decide +kernel
theorem f168_112 : pm_f 168 112 = some (.aload_n 0, 1, 0, 0, 0, []) := by decide +kernel
theorem f168_113 : pm_f 168 113 = some (.getfield 96, 3, 8, 28, 2, []) := by decide +kernel
theorem f168_116 : pm_f 168 116 = some (.iload_n 2, 1, 2, 0, 0, []) := by decide +kernel
theorem f168_117 : pm_f 168 117 = some (.iaload, 1, 0, 0, 0, []) := by decide +kernel
theorem f168_118 : pm_f 168 118 = some (.iastore, 1, 0, 0, 0, []) := by decide +kernel
theorem f168_119 : pm_f 168 119 = some (.aload_n 0, 1, 0, 0, 0, []) := by decide +kernel
theorem f168_120 : pm_f 168 120 = some (.getfield 32, 3, 8, 7, 2, []) := by decide +kernel
theorem f168_123 : pm_f 168 123 = some (.iload_n 2, 1, 2, 0, 0, []) := by decide +kernel
theorem f168_124 : pm_f 168 124 = some (.aload_n 0, 1, 0, 0, 0, []) := by decide +kernel
theorem f168_125 : pm_f 168 125 = some (.getfield 99, 3, 8, 29, 2, []) := by decide +kernel
theorem f168_128 : pm_f 168 128 = some (.iload_n 2, 1, 2, 0, 0, []) := by decide +kernel
theorem f168_129 : pm_f 168 129 = some (.iaload, 1, 0, 0, 0, []) := by decide +kernel
theorem f168_130 : pm_f 168 130 = some (.iastore, 1, 0, 0, 0, []) := by decide +kernel
theorem f168_131 : pm_f 168 131 = some (.iinc 2 1, 3, 2, 0, 1, []) := by decide +kernel
theorem f168_134 : pm_f 168 134 = some (.goto (-35), 3, 99, 0, 0, []) := by decide +kernel
theorem f168_137 : pm_f 168 137 = some (.aload_n 0, 1, 0, 0, 0, []) := by decide +kernel
theorem f168_138 : pm_f 168 138 = some (.aload_n 0, 1, 0, 0, 0, []) := by decide +kernel
theorem f168_139 : pm_f 168 139 = some (.iload_n 1, 1, 1, 0, 0, []) := by decide +kernel
theorem f168_140 : pm_f 168 140 = some (.aload_n 0, 1, 0, 0, 0, []) := by decide +kernel
theorem f168_141 : pm_f 168 141 = some (.invokevirtual 347, 3, 153, 0, 8, []) := by decide +kernel
theorem f168_144 : pm_f 168 144 = some (.if_icmp .ge 17, 3, 161, 0, 0, []) := by decide +kernel
theorem f168_147 : pm_f 168 147 = some (.aload_n 0, 1, 0, 0, 0, []) := by decide +kernel
theorem f168_148 : pm_f 168 148 = some (.getfield 16, 3, 8, 2, 0, []) := by decide +kernel
theorem f168_151 : pm_f 168 151 = some (.iload_n 1, 1, 1, 0, 0, []) := by decide +kernel
theorem f168_152 : pm_f 168 152 = some (.aload_n 0, 1, 0, 0, 0, []) := by decide +kernel
theorem f168_153 : pm_f 168 153 = some (.invokevirtual 350, 3, 154, 0, 8, []) := by decide +kernel
theorem f168_156 : pm_f 168 156 = some (.idiv, 1, 0, 0, 0, []) := by decide +kernel
theorem f168_157 : pm_f 168 157 = some (.iadd, 1, 0, 0, 0, []) := by decide +kernel
theorem f168_158 : pm_f 168 158 = some (.goto 10, 3, 168, 0, 0, []) := by decide +kernel
theorem f168_161 : pm_f 168 161 = some (.aload_n 0, 1, 0, 0, 0, []) := by decide +kernel
theorem f168_162 : pm_f 168 162 = some (.getfield 16, 3, 8, 2, 0, []) := by decide +kernel
theorem f168_165 : pm_f 168 165 = some (.bipush 10, 2, 0, 0, 10, []) := by decide +kernel
theorem f168_167 : pm_f 168 167 = some (.isub, 1, 0, 0, 0, []) := by decide +kernel
theorem f168_168 : pm_f 168 168 = some (.iconst 0, 1, 0, 0, 0, []) := by decide +kernel
theorem f168_169 : pm_f 168 169 = some (.ldc_w 360, 3, 0, 0, 99999, []) := by decide +kernel
theorem f168_172 : pm_f 168 172 = some (.invokevirtual 353, 3, 123, 3, 8, []) := by decide +kernel
theorem f168_175 : pm_f 168 175 = some (.putfield 16, 3, 8, 2, 0, []) := by decide +kernel
theorem f168_178 : pm_f 168 178 = some (.aload_n 0, 1, 0, 0, 0, []) := by decide +kernel
theorem f168_179 : pm_f 168 179 = some (.dup, 1, 0, 0, 0, []) := by decide +kernel
theorem f168_180 : pm_f 168 180 = some (.getfield 13, 3, 8, 1, 0, []) := by decide +kernel
theorem f168_183 : pm_f 168 183 = some (.iconst 1, 1, 0, 0, 1, []) := by decide +kernel
theorem f168_184 : pm_f 168 184 = some (.iadd, 1, 0, 0, 0, []) := by decide +kernel
theorem f168_185 : pm_f 168 185 = some (.putfield 13, 3, 8, 1, 0, []) := by decide +kernel
theorem f168_188 : pm_f 168 188 = some (.return_, 1, 0, 0, 0, []) := by decide +kernel
theorem f169_0 : pm_f 169 0 = some (.aload_n 0, 1, 0, 0, 0, []) := by decide +kernel
theorem f169_1 : pm_f 169 1 = some (.iload_n 1, 1, 1, 0, 0, []) := by decide +kernel
theorem f169_2 : pm_f 169 2 = some (.invokevirtual 361, 3, 127, 1, 8, []) := by decide +kernel
theorem f169_5 : pm_f 169 5 = some (.ifCond .ne 6, 3, 11, 0, 0, []) := by decide +kernel
theorem f169_8 : pm_f 169 8 = some (.bipush (-2), 2, 0, 0, (-2), []) := by decide +kernel
theorem f169_10 : pm_f 169 10 = some (.ireturn, 1, 0, 0, 0, []) := by decide +kernel
theorem f169_11 : pm_f 169 11 = some (.aload_n 0, 1, 0, 0, 0, []) := by decide +kernel
theorem f169_12 : pm_f 169 12 = some (.getfield 13, 3, 8, 1, 0, []) := by decide +kernel
theorem f169_15 : pm_f 169 15 = some (.iload_n 1, 1, 1, 0, 0, []) := by decide +kernel
theorem f169_16 : pm_f 169 16 = some (.iadd, 1, 0, 0, 0, []) := by decide +kernel
theorem f169_17 : pm_f 169 17 = some (.sipush 9999, 3, 0, 0, 9999, []) := by decide +kernel
theorem f169_20 : pm_f 169 20 = some (.if_icmp .le 6, 3, 26, 0, 0, []) := by decide +kernel
theorem f169_23 : pm_f 169 23 = some (.bipush (-3), 2, 0, 0, (-3), []) := by decide +kernel
theorem f169_25 : pm_f 169 25 = some (.ireturn, 1, 0, 0, 0, []) := by decide +kernel
theorem f169_26 : pm_f 169 26 = some (.iconst 0, 1, 0, 0, 0, []) := by decide +kernel
theorem f169_27 : pm_f 169 27 = some (.istore_n 2, 1, 2, 0, 0, []) := by decide +kernel
theorem f169_28 : pm_f 169 28 = some (.iload_n 2, 1, 2, 0, 0, []) := by decide +kernel
theorem f169_29 : pm_f 169 29 = some (.iload_n 1, 1, 1, 0, 0, []) := by decide +kernel
theorem f169_30 : pm_f 169 30 = some (.if_icmp .ge 13, 3, 43, 0, 0, []) := by decide +kernel
theorem f169_33 : pm_f 169 33 = some (.aload_n 0, 1, 0, 0, 0, []) := by decide +kernel
theorem f169_34 : pm_f 169 34 = some (.invokevirtual 364, 3, 168, 0, 8, []) := by decide +kernel
theorem f169_37 : pm_f 169 37 = some (.iinc 2 1, 3, 2, 0, 1, []) := by decide +kernel
theorem f169_40 : pm_f 169 40 = some (.goto (-12), 3, 28, 0, 0, []) := by decide +kernel
theorem f169_43 : pm_f 169 43 = some (.aload_n 0, 1, 0, 0, 0, []) := by decide +kernel
theorem f169_44 : pm_f 169 44 = some (.invokevirtual 344, 3, 163, 0, 8, []) := by decide +kernel
theorem f169_47 : pm_f 169 47 = some (.ireturn, 1, 0, 0, 0, []) := by decide +kernel
theorem f170_0 : pm_f 170 0 = some (.aload_n 0, 1, 0, 0, 0, []) := by decide +kernel
theorem f170_1 : pm_f 170 1 = some (.aload_n 0, 1, 0, 0, 0, []) := by decide +kernel
theorem f170_2 : pm_f 170 2 = some (.getfield 13, 3, 8, 1, 0, []) := by decide +kernel
theorem f170_5 : pm_f 170 5 = some (.putfield 102, 3, 8, 30, 0, []) := by decide +kernel
theorem f170_8 : pm_f 170 8 = some (.aload_n 0, 1, 0, 0, 0, []) := by decide +kernel
theorem f170_9 : pm_f 170 9 = some (.aload_n 0, 1, 0, 0, 0, []) := by decide +kernel
theorem f170_10 : pm_f 170 10 = some (.getfield 16, 3, 8, 2, 0, []) := by decide +kernel
theorem f170_13 : pm_f 170 13 = some (.putfield 105, 3, 8, 31, 0, []) := by decide +kernel
theorem f170_16 : pm_f 170 16 = some (.aload_n 0, 1, 0, 0, 0, []) := by decide +kernel
theorem f170_17 : pm_f 170 17 = some (.aload_n 0, 1, 0, 0, 0, []) := by decide +kernel
theorem f170_18 : pm_f 170 18 = some (.getfield 19, 3, 8, 3, 0, []) := by decide +kernel
theorem f170_21 : pm_f 170 21 = some (.putfield 108, 3, 8, 32, 0, []) := by decide +kernel
theorem f170_24 : pm_f 170 24 = some (.iconst 0, 1, 0, 0, 0, []) := by decide +kernel
theorem f170_25 : pm_f 170 25 = some (.istore_n 1, 1, 1, 0, 0, []) := by decide +kernel
theorem f170_26 : pm_f 170 26 = some (.iload_n 1, 1, 1, 0, 0, []) := by decide +kernel
theorem f170_27 : pm_f 170 27 = some (.bipush 6, 2, 0, 0, 6, []) := by decide +kernel
theorem f170_29 : pm_f 170 29 = some (.if_icmp .ge 45, 3, 74, 0, 0, []) := by decide +kernel
theorem f170_32 : pm_f 170 32 = some (.aload_n 0, 1, 0, 0, 0, []) := by decide +kernel
theorem f170_33 : pm_f 170 33 = some (.getfield 111, 3, 8, 33, 2, []) := by decide +kernel
theorem f170_36 : pm_f 170 36 = some (.iload_n 1, 1, 1, 0, 0, []) := by decide +kernel
theorem f170_37 : pm_f 170 37 = some (.aload_n 0, 1, 0, 0, 0, []) := by decide +kernel
theorem f170_38 : pm_f 170 38 = some (.getfield 29, 3, 8, 6, 2, []) := by decide +kernel
theorem f170_41 : pm_f 170 41 = some (.iload_n 1, 1, 1, 0, 0, []) := by decide +kernel
theorem f170_42 : pm_f 170 42 = some (.iaload, 1, 0, 0, 0, []) := by decide +kernel
theorem f170_43 : pm_f 170 43 = some (.iastore, 1, 0, 0, 0, []) := by decide +kernel
theorem f170_44 : pm_f 170 44 = some (.aload_n 0, 1, 0, 0, 0, []) := by decide +kernel
theorem f170_45 : pm_f 170 45 = some (.getfield 114, 3, 8, 34, 2, []) := by decide +kernel
theorem f170_48 : pm_f 170 48 = some (.iload_n 1, 1, 1, 0, 0, []) := by decide +kernel
theorem f170_49 : pm_f 170 49 = some (.aload_n 0, 1, 0, 0, 0, []) := by decide +kernel
theorem f170_50 : pm_f 170 50 = some (.getfield 32, 3, 8, 7, 2, []) := by decide +kernel
theorem f170_53 : pm_f 170 53 = some (.iload_n 1, 1, 1, 0, 0, []) := by decide +kernel
theorem f170_54 : pm_f 170 54 = some (.iaload, 1, 0, 0, 0, []) := by decide +kernel
theorem f170_55 : pm_f 170 55 = some (.iastore, 1, 0, 0, 0, []) := by decide +kernel
theorem f170_56 : pm_f 170 56 = some (.aload_n 0, 1, 0, 0, 0, []) := by decide +kernel
theorem f170_57 : pm_f 170 57 = some (.getfield 117, 3, 8, 35, 2, []) := by decide +kernel
theorem f170_60 : pm_f 170 60 = some (.iload_n 1, 1, 1, 0, 0, []) := by decide +kernel
theorem f170_61 : pm_f 170 61 = some (.aload_n 0, 1, 0, 0, 0, []) := by decide +kernel
theorem f170_62 : pm_f 170 62 = some (.getfield 35, 3, 8, 8, 2, []) := by decide +kernel
theorem f170_65 : pm_f 170 65 = some (.iload_n 1, 1, 1, 0, 0, []) := by decide +kernel
theorem f170_66 : pm_f 170 66 = some (.iaload, 1, 0, 0, 0, []) := by decide +kernel
theorem f170_67 : pm_f 170 67 = some (.iastore, 1, 0, 0, 0, []) := by decide +kernel
theorem f170_68 : pm_f 170 68 = some (.iinc 1 1, 3, 1, 0, 1, []) := by decide +kernel
theorem f170_71 : pm_f 170 71 = some (.goto (-45), 3, 26, 0, 0, []) := by decide +kernel
theorem f170_74 : pm_f 170 74 = some (.return_, 1, 0, 0, 0, []) := by decide +kernel
theorem f171_0 : pm_f 171 0 = some (.aload_n 0, 1, 0, 0, 0, []) := by decide +kernel
theorem f171_1 : pm_f 171 1 = some (.aload_n 0, 1, 0, 0, 0, []) := by decide +kernel
theorem f171_2 : pm_f 171 2 = some (.getfield 102, 3, 8, 30, 0, []) := by decide +kernel
theorem f171_5 : pm_f 171 5 = some (.putfield 13, 3, 8, 1, 0, []) := by decide +kernel
theorem f171_8 : pm_f 171 8 = some (.aload_n 0, 1, 0, 0, 0, []) := by decide +kernel
theorem f171_9 : pm_f 171 9 = some (.aload_n 0, 1, 0, 0, 0, []) := by decide +kernel
theorem f171_10 : pm_f 171 10 = some (.getfield 105, 3, 8, 31, 0, []) := by decide +kernel
theorem f171_13 : pm_f 171 13 = some (.putfield 16, 3, 8, 2, 0, []) := by decide +kernel
theorem f171_16 : pm_f 171 16 = some (.aload_n 0, 1, 0, 0, 0, []) := by decide +kernel
theorem f171_17 : pm_f 171 17 = some (.aload_n 0, 1, 0, 0, 0, []) := by decide +kernel
theorem f171_18 : pm_f 171 18 = some (.getfield 108, 3, 8, 32, 0, []) := by decide +kernel
theorem f171_21 : pm_f 171 21 = some (.putfield 19, 3, 8, 3, 0, []) := by decide +kernel
theorem f171_24 : pm_f 171 24 = some (.iconst 0, 1, 0, 0, 0, []) := by decide +kernel
theorem f171_25 : pm_f 171 25 = some (.istore_n 1, 1, 1, 0, 0, []) := by decide +kernel
theorem f171_26 : pm_f 171 26 = some (.iload_n 1, 1, 1, 0, 0, []) := by decide +kernel
theorem f171_27 : pm_f 171 27 = some (.bipush 6, 2, 0, 0, 6, []) := by decide +kernel
theorem f171_29 : pm_f 171 29 = some (.if_icmp .ge 45, 3, 74, 0, 0, []) := by decide +kernel
theorem f171_32 : pm_f 171 32 = some (.aload_n 0, 1, 0, 0, 0, []) := by decide +kernel
theorem f171_33 : pm_f 171 33 = some (.getfield 29, 3, 8, 6, 2, []) := by decide +kernel
theorem f171_36 : pm_f 171 36 = some (.iload_n 1, 1, 1, 0, 0, []) := by decide +kernel
theorem f171_37 : pm_f 171 37 = some (.aload_n 0, 1, 0, 0, 0, []) := by decide +kernel
theorem f171_38 : pm_f 171 38 = some (.getfield 111, 3, 8, 33, 2, []) := by decide +kernel
theorem f171_41 : pm_f 171 41 = some (.iload_n 1, 1, 1, 0, 0, []) := by decide +kernel
theorem f171_42 : pm_f 171 42 = some (.iaload, 1, 0, 0, 0, []) := by decide +kernel
theorem f171_43 : pm_f 171 43 = some (.iastore, 1, 0, 0, 0, []) := by decide +kernel
theorem f171_44 : pm_f 171 44 = some (.aload_n 0, 1, 0, 0, 0, []) := by decide +kernel
theorem f171_45 : pm_f 171 45 = some (.getfield 32, 3, 8, 7, 2, []) := by decide +kernel
theorem f171_48 : pm_f 171 48 = some (.iload_n 1, 1, 1, 0, 0, []) := by decide +kernel
theorem f171_49 : pm_f 171 49 = some (.aload_n 0, 1, 0, 0, 0, []) := by decide +kernel
theorem f171_50 : pm_f 171 50 = some (.getfield 114, 3, 8, 34, 2, []) := by decide +kernel
theorem f171_53 : pm_f 171 53 = some (.iload_n 1, 1, 1, 0, 0, []) := by decide +kernel
theorem f171_54 : pm_f 171 54 = some (.iaload, 1, 0, 0, 0, []) := by decide +kernel
theorem f171_55 : pm_f 171 55 = some (.iastore, 1, 0, 0, 0, []) := by decide +kernel
theorem f171_56 : pm_f 171 56 = some (.aload_n 0, 1, 0, 0, 0, []) := by decide +kernel
theorem f171_57 : pm_f 171 57 = some (.getfield 35, 3, 8, 8, 2, []) := by decide +kernel
theorem f171_60 : pm_f 171 60 = some (.iload_n 1, 1, 1, 0, 0, []) := by decide +kernel
theorem f171_61 : pm_f 171 61 = some (.aload_n 0, 1, 0, 0, 0, []) := by decide +kernel
theorem f171_62 : pm_f 171 62 = some (.getfield 117, 3, 8, 35, 2, []) := by decide +kernel
theorem f171_65 : pm_f 171 65 = some (.iload_n 1, 1, 1, 0, 0, []) := by decide +kernel
theorem f171_66 : pm_f 171 66 = some (.iaload, 1, 0, 0, 0, []) := by decide +kernel
theorem f171_67 : pm_f 171 67 = some (.iastore, 1, 0, 0, 0, []) := by decide +kernel
theorem f171_68 : pm_f 171 68 = some (.iinc 1 1, 3, 1, 0, 1, []) := by decide +kernel
theorem f171_71 : pm_f 171 71 = some (.goto (-45), 3, 26, 0, 0, []) := by decide +kernel
theorem f171_74 : pm_f 171 74 = some (.return_, 1, 0, 0, 0, []) := by decide +kernel
theorem f172_0 : pm_f 172 0 = some (.iconst 0, 1, 0, 0, 0, []) := by decide +kernel
theorem f172_1 : pm_f 172 1 = some (.istore_n 2, 1, 2, 0, 0, []) := by decide +kernel
theorem f172_2 : pm_f 172 2 = some (.iload_n 2, 1, 2, 0, 0, []) := by decide +kernel
theorem f172_3 : pm_f 172 3 = some (.iload_n 1, 1, 1, 0, 0, []) := by decide +kernel
theorem f172_4 : pm_f 172 4 = some (.if_icmp .ge 13, 3, 17, 0, 0, []) := by decide +kernel
theorem f172_7 : pm_f 172 7 = some (.aload_n 0, 1, 0, 0, 0, []) := by decide +kernel
theorem f172_8 : pm_f 172 8 = some (.invokevirtual 364, 3, 168, 0, 8, []) := by decide +kernel
theorem f172_11 : pm_f 172 11 = some (.iinc 2 1, 3, 2, 0, 1, []) := by decide +kernel
theorem f172_14 : pm_f 172 14 = some (.goto (-12), 3, 2, 0, 0, []) := by decide +kernel
theorem f172_17 : pm_f 172 17 = some (.return_, 1, 0, 0, 0, []) := by decide +kernel
theorem f173_0 : pm_f 173 0 = some (.aload_n 0, 1, 0, 0, 0, []) := by decide +kernel
theorem f173_1 : pm_f 173 1 = some (.iload_n 2, 1, 2, 0, 0, []) := by decide +kernel
theorem f173_2 : pm_f 173 2 = some (.iconst 0, 1, 0, 0, 0, []) := by decide +kernel
theorem f173_3 : pm_f 173 3 = some (.iconst 1, 1, 0, 0, 1, []) := by decide +kernel
theorem f173_4 : pm_f 173 4 = some (.invokevirtual 239, 3, 122, 3, 8, []) := by decide +kernel
theorem f173_7 : pm_f 173 7 = some (.ifCond .ne 39, 3, 46, 0, 0, []) := by decide +kernel
theorem f173_10 : pm_f 173 10 = some (.aload_n 0, 1, 0, 0, 0, []) := by decide +kernel
theorem f173_11 : pm_f 173 11 = some (.iload_n 2, 1, 2, 0, 0, []) := by decide +kernel
theorem f173_12 : pm_f 173 12 = some (.bipush 10, 2, 0, 0, 10, []) := by decide +kernel
theorem f173_14 : pm_f 173 14 = some (.bipush 9, 2, 0, 0, 9, []) := by decide +kernel
theorem f173_16 : pm_f 173 16 = some (.aload_n 0, 1, 0, 0, 0, []) := by decide +kernel
theorem f173_17 : pm_f 173 17 = some (.getfield 7, 3, 8, 0, 0, []) := by decide +kernel
theorem f173_20 : pm_f 173 20 = some (.iadd, 1, 0, 0, 0, []) := by decide +kernel
theorem f173_21 : pm_f 173 21 = some (.invokevirtual 239, 3, 122, 3, 8, []) := by decide +kernel
theorem f173_24 : pm_f 173 24 = some (.ifCond .ne 22, 3, 46, 0, 0, []) := by decide +kernel
theorem f173_27 : pm_f 173 27 = some (.aload_n 0, 1, 0, 0, 0, []) := by decide +kernel
theorem f173_28 : pm_f 173 28 = some (.iload_n 2, 1, 2, 0, 0, []) := by decide +kernel
theorem f173_29 : pm_f 173 29 = some (.bipush 20, 2, 0, 0, 20, []) := by decide +kernel
theorem f173_31 : pm_f 173 31 = some (.bipush 19, 2, 0, 0, 19, []) := by decide +kernel
theorem f173_33 : pm_f 173 33 = some (.aload_n 0, 1, 0, 0, 0, []) := by decide +kernel
theorem f173_34 : pm_f 173 34 = some (.getfield 7, 3, 8, 0, 0, []) := by decide +kernel
theorem f173_37 : pm_f 173 37 = some (.iadd, 1, 0, 0, 0, []) := by decide +kernel
theorem f173_38 : pm_f 173 38 = some (.invokevirtual 239, 3, 122, 3, 8, []) := by decide +kernel
theorem f173_41 : pm_f 173 41 = some (.ifCond .ne 5, 3, 46, 0, 0, []) := by decide +kernel
theorem f173_44 : pm_f 173 44 = some (.iconst (-1), 1, 0, 0, (-1), []) := by decide +kernel
theorem f173_45 : pm_f 173 45 = some (.ireturn, 1, 0, 0, 0, []) := by decide +kernel
theorem f173_46 : pm_f 173 46 = some (.aload_n 0, 1, 0, 0, 0, []) := by decide +kernel
theorem f173_47 : pm_f 173 47 = some (.iload_n 1, 1, 1, 0, 0, []) := by decide +kernel
theorem f173_48 : pm_f 173 48 = some (.invokevirtual 361, 3, 127, 1, 8, []) := by decide +kernel
theorem f173_51 : pm_f 173 51 = some (.ifCond .ne 6, 3, 57, 0, 0, []) := by decide +kernel
theorem f173_54 : pm_f 173 54 = some (.bipush (-2), 2, 0, 0, (-2), []) := by decide +kernel
theorem f173_56 : pm_f 173 56 = some (.ireturn, 1, 0, 0, 0, []) := by decide +kernel
theorem f173_57 : pm_f 173 57 = some (.aload_n 0, 1, 0, 0, 0, []) := by decide +kernel
theorem f173_58 : pm_f 173 58 = some (.invokevirtual 367, 3, 170, 0, 8, []) := by decide +kernel
theorem f173_61 : pm_f 173 61 = some (.aload_n 0, 1, 0, 0, 0, []) := by decide +kernel
theorem f173_62 : pm_f 173 62 = some (.iload_n 1, 1, 1, 0, 0, []) := by decide +kernel
theorem f173_63 : pm_f 173 63 = some (.invokevirtual 370, 3, 172, 1, 8, []) := by decide +kernel
theorem f173_66 : pm_f 173 66 = some (.iload_n 2, 1, 2, 0, 0, []) := by decide +kernel
theorem f173_67 : pm_f 173 67 = some (.ifCond .ne 10, 3, 77, 0, 0, []) := by decide +kernel
theorem f173_70 : pm_f 173 70 = some (.aload_n 0, 1, 0, 0, 0, []) := by decide +kernel
theorem f173_71 : pm_f 173 71 = some (.invokevirtual 344, 3, 163, 0, 8, []) := by decide +kernel
theorem f173_74 : pm_f 173 74 = some (.goto 42, 3, 116, 0, 0, []) := by decide +kernel
theorem f173_77 : pm_f 173 77 = some (.iload_n 2, 1, 2, 0, 0, []) := by decide +kernel
theorem f173_78 : pm_f 173 78 = some (.iconst 1, 1, 0, 0, 1, []) := by decide +kernel
theorem f173_79 : pm_f 173 79 = some (.if_icmp .ne 10, 3, 89, 0, 0, []) := by decide +kernel
theorem f173_82 : pm_f 173 82 = some (.aload_n 0, 1, 0, 0, 0, []) := by decide +kernel
theorem f173_83 : pm_f 173 83 = some (.getfield 16, 3, 8, 2, 0, []) := by decide +kernel
theorem f173_86 : pm_f 173 86 = some (.goto 30, 3, 116, 0, 0, []) := by decide +kernel
theorem f173_89 : pm_f 173 89 = some (.iload_n 2, 1, 2, 0, 0, []) := by decide +kernel
theorem f173_90 : pm_f 173 90 = some (.bipush 20, 2, 0, 0, 20, []) := by decide +kernel
theorem f173_92 : pm_f 173 92 = some (.if_icmp .ge 15, 3, 107, 0, 0, []) := by decide +kernel
theorem f173_95 : pm_f 173 95 = some (.aload_n 0, 1, 0, 0, 0, []) := by decide +kernel
theorem f173_96 : pm_f 173 96 = some (.getfield 35, 3, 8, 8, 2, []) := by decide +kernel
theorem f173_99 : pm_f 173 99 = some (.iload_n 2, 1, 2, 0, 0, []) := by decide +kernel
theorem f173_100 : pm_f 173 100 = some (.bipush 10, 2, 0, 0, 10, []) := by decide +kernel
theorem f173_102 : pm_f 173 102 = some (.isub, 1, 0, 0, 0, []) := by decide +kernel
theorem f173_103 : pm_f 173 103 = some (.iaload, 1, 0, 0, 0, []) := by decide +kernel
theorem f173_104 : pm_f 173 104 = some (.goto 12, 3, 116, 0, 0, []) := by decide +kernel
theorem f173_107 : pm_f 173 107 = some (.aload_n 0, 1, 0, 0, 0, []) := by decide +kernel
theorem f173_108 : pm_f 173 108 = some (.getfield 32, 3, 8, 7, 2, []) := by decide +kernel
theorem f173_111 : pm_f 173 111 = some (.iload_n 2, 1, 2, 0, 0, []) := by decide +kernel
theorem f173_112 : pm_f 173 112 = some (.bipush 20, 2, 0, 0, 20, []) := by decide +kernel
theorem f173_114 : pm_f 173 114 = some (.isub, 1, 0, 0, 0, []) := by decide +kernel
theorem f173_115 : pm_f 173 115 = some (.iaload, 1, 0, 0, 0, []) := by decide +kernel
theorem f173_116 : pm_f 173 116 = some (.istore_n 3, 1, 3, 0, 0, []) := by decide +kernel
theorem f173_117 : pm_f 173 117 = some (.aload_n 0, 1, 0, 0, 0, []) := by decide +kernel
theorem f173_118 : pm_f 173 118 = some (.invokevirtual 373, 3, 171, 0, 8, []) := by decide +kernel
theorem f173_121 : pm_f 173 121 = some (.iload_n 3, 1, 3, 0, 0, []) := by decide +kernel
theorem f173_122 : pm_f 173 122 = some (.ireturn, 1, 0, 0, 0, []) := by decide +kernel
theorem f174_0 : pm_f 174 0 = some (.iconst 0, 1, 0, 0, 0, []) := by decide +kernel
theorem f174_1 : pm_f 174 1 = some (.istore_n 1, 1, 1, 0, 0, []) := by decide +kernel
theorem f174_2 : pm_f 174 2 = some (.iload_n 1, 1, 1, 0, 0, []) := by decide +kernel
theorem f174_3 : pm_f 174 3 = some (.bipush 61, 2, 0, 0, 61, []) := by decide +kernel
theorem f174_5 : pm_f 174 5 = some (.if_icmp .ge 24, 3, 29, 0, 0, []) := by decide +kernel
theorem f174_8 : pm_f 174 8 = some (.aload_n 0, 1, 0, 0, 0, []) := by decide +kernel
theorem f174_9 : pm_f 174 9 = some (.invokevirtual 344, 3, 163, 0, 8, []) := by decide +kernel
theorem f174_12 : pm_f 174 12 = some (.aload_n 0, 1, 0, 0, 0, []) := by decide +kernel
theorem f174_13 : pm_f 174 13 = some (.invokevirtual 347, 3, 153, 0, 8, []) := by decide +kernel
theorem f174_16 : pm_f 174 16 = some (.if_icmp .ge 13, 3, 29, 0, 0, []) := by decide +kernel
theorem f174_19 : pm_f 174 19 = some (.aload_n 0, 1, 0, 0, 0, []) := by decide +kernel
theorem f174_20 : pm_f 174 20 = some (.invokevirtual 364, 3, 168, 0, 8, []) := by decide +kernel
theorem f174_23 : pm_f 174 23 = some (.iinc 1 1, 3, 1, 0, 1, []) := by decide +kernel
theorem f174_26 : pm_f 174 26 = some (.goto (-24), 3, 2, 0, 0, []) := by decide +kernel
theorem f174_29 : pm_f 174 29 = some (.iload_n 1, 1, 1, 0, 0, []) := by decide +kernel
theorem f174_30 : pm_f 174 30 = some (.ireturn, 1, 0, 0, 0, []) := by decide +kernel
theorem f175_0 : pm_f 175 0 = some (.iconst (-1), 1, 0, 0, (-1), []) := by decide +kernel
theorem f175_1 : pm_f 175 1 = some (.istore_n 1, 1, 1, 0, 0, []) := by decide +kernel
theorem f175_2 : pm_f 175 2 = some (.iconst 0, 1, 0, 0, 0, []) := by decide +kernel
theorem f175_3 : pm_f 175 3 = some (.istore_n 2, 1, 2, 0, 0, []) := by decide +kernel
theorem f175_4 : pm_f 175 4 = some (.iload_n 2, 1, 2, 0, 0, []) := by decide +kernel
theorem f175_5 : pm_f 175 5 = some (.aload_n 0, 1, 0, 0, 0, []) := by decide +kernel
theorem f175_6 : pm_f 175 6 = some (.getfield 7, 3, 8, 0, 0, []) := by decide +kernel
theorem f175_9 : pm_f 175 9 = some (.if_icmp .ge 47, 3, 56, 0, 0, []) := by decide +kernel
theorem f175_12 : pm_f 175 12 = some (.aload_n 0, 1, 0, 0, 0, []) := by decide +kernel
theorem f175_13 : pm_f 175 13 = some (.aload_n 0, 1, 0, 0, 0, []) := by decide +kernel
theorem f175_14 : pm_f 175 14 = some (.getfield 19, 3, 8, 3, 0, []) := by decide +kernel
theorem f175_17 : pm_f 175 17 = some (.iload_n 2, 1, 2, 0, 0, []) := by decide +kernel
theorem f175_18 : pm_f 175 18 = some (.invokevirtual 250, 3, 124, 2, 8, []) := by decide +kernel
theorem f175_21 : pm_f 175 21 = some (.ifCond .eq 6, 3, 27, 0, 0, []) := by decide +kernel
theorem f175_24 : pm_f 175 24 = some (.goto 26, 3, 50, 0, 0, []) := by decide +kernel
theorem f175_27 : pm_f 175 27 = some (.iload_n 1, 1, 1, 0, 0, []) := by decide +kernel
theorem f175_28 : pm_f 175 28 = some (.ifCond .lt 20, 3, 48, 0, 0, []) := by decide +kernel
theorem f175_31 : pm_f 175 31 = some (.aload_n 0, 1, 0, 0, 0, []) := by decide +kernel
theorem f175_32 : pm_f 175 32 = some (.getfield 35, 3, 8, 8, 2, []) := by decide +kernel
theorem f175_35 : pm_f 175 35 = some (.iload_n 2, 1, 2, 0, 0, []) := by decide +kernel
theorem f175_36 : pm_f 175 36 = some (.iaload, 1, 0, 0, 0, []) := by decide +kernel
theorem f175_37 : pm_f 175 37 = some (.aload_n 0, 1, 0, 0, 0, []) := by decide +kernel
theorem f175_38 : pm_f 175 38 = some (.getfield 35, 3, 8, 8, 2, []) := by decide +kernel
theorem f175_41 : pm_f 175 41 = some (.iload_n 1, 1, 1, 0, 0, []) := by decide +kernel
theorem f175_42 : pm_f 175 42 = some (.iaload, 1, 0, 0, 0, []) := by decide +kernel
theorem f175_43 : pm_f 175 43 = some (.if_icmp .eq 5, 3, 48, 0, 0, []) := by decide +kernel
theorem f175_46 : pm_f 175 46 = some (.iconst 0, 1, 0, 0, 0, []) := by decide +kernel
theorem f175_47 : pm_f 175 47 = some (.ireturn, 1, 0, 0, 1, []) := by decide +kernel
theorem f175_48 : pm_f 175 48 = some (.iload_n 2, 1, 2, 0, 0, []) := by decide +kernel
theorem f175_49 : pm_f 175 49 = some (.istore_n 1, 1, 1, 0, 0, []) := by decide +kernel
theorem f175_50 : pm_f 175 50 = some (.iinc 2 1, 3, 2, 0, 1, []) := by decide +kernel
theorem f175_53 : pm_f 175 53 = some (.goto (-49), 3, 4, 0, 0, []) := by decide +kernel
theorem f175_56 : pm_f 175 56 = some (.iconst 1, 1, 0, 0, 1, []) := by decide +kernel
theorem f175_57 : pm_f 175 57 = some (.ireturn, 1, 0, 0, 1, []) := by decide +kernel
theorem f176_0 : pm_f 176 0 = some (.iconst 0, 1, 0, 0, 0, []) := by decide +kernel
theorem f176_1 : pm_f 176 1 = some (.istore_n 1, 1, 1, 0, 0, []) := by decide +kernel
theorem f176_2 : pm_f 176 2 = some (.iload_n 1, 1, 1, 0, 0, []) := by decide +kernel
theorem f176_3 : pm_f 176 3 = some (.bipush 61, 2, 0, 0, 61, []) := by decide +kernel
theorem f176_5 : pm_f 176 5 = some (.if_icmp .ge 20, 3, 25, 0, 0, []) := by decide +kernel
theorem f176_8 : pm_f 176 8 = some (.aload_n 0, 1, 0, 0, 0, []) := by decide +kernel
theorem f176_9 : pm_f 176 9 = some (.invokevirtual 376, 3, 175, 0, 8, []) := by decide +kernel
theorem f176_12 : pm_f 176 12 = some (.ifCond .ne 13, 3, 25, 0, 0, []) := by decide +kernel
theorem f176_15 : pm_f 176 15 = some (.aload_n 0, 1, 0, 0, 0, []) := by decide +kernel
theorem f176_16 : pm_f 176 16 = some (.invokevirtual 364, 3, 168, 0, 8, []) := by decide +kernel
theorem f176_19 : pm_f 176 19 = some (.iinc 1 1, 3, 1, 0, 1, []) := by decide +kernel
theorem f176_22 : pm_f 176 22 = some (.goto (-20), 3, 2, 0, 0, []) := by decide +kernel
theorem f176_25 : pm_f 176 25 = some (.iload_n 1, 1, 1, 0, 0, []) := by decide +kernel
theorem f176_26 : pm_f 176 26 = some (.ireturn, 1, 0, 0, 0, []) := by decide +kernel
theorem f177_0 : pm_f 177 0 = some (.iload_n 1, 1, 1, 0, 0, []) := by decide +kernel
theorem f177_1 : pm_f 177 1 = some (.bipush 60, 2, 0, 0, 60, []) := by decide +kernel
theorem f177_3 : pm_f 177 3 = some (.if_icmp .le 8, 3, 11, 0, 0, []) := by decide +kernel
theorem f177_6 : pm_f 177 6 = some (.bipush (-5), 2, 0, 0, (-5), []) := by decide +kernel
theorem f177_8 : pm_f 177 8 = some (.goto 4, 3, 12, 0, 0, []) := by decide +kernel
theorem f177_11 : pm_f 177 11 = some (.iload_n 1, 1, 1, 0, 0, []) := by decide +kernel
theorem f177_12 : pm_f 177 12 = some (.ireturn, 1, 0, 0, 0, []) := by decide +kernel
theorem f178_0 : pm_f 178 0 = some (.aload_n 0, 1, 0, 0, 0, []) := by decide +kernel
theorem f178_1 : pm_f 178 1 = some (.invokevirtual 367, 3, 170, 0, 8, []) := by decide +kernel
theorem f178_4 : pm_f 178 4 = some (.aload_n 0, 1, 0, 0, 0, []) := by decide +kernel
theorem f178_5 : pm_f 178 5 = some (.invokevirtual 379, 3, 174, 0, 8, []) := by decide +kernel
theorem f178_8 : pm_f 178 8 = some (.istore_n 1, 1, 1, 0, 0, []) := by decide +kernel
theorem f178_9 : pm_f 178 9 = some (.aload_n 0, 1, 0, 0, 0, []) := by decide +kernel
theorem f178_10 : pm_f 178 10 = some (.invokevirtual 373, 3, 171, 0, 8, []) := by decide +kernel
theorem f178_13 : pm_f 178 13 = some (.iload_n 1, 1, 1, 0, 0, []) := by decide +kernel
theorem f178_14 : pm_f 178 14 = some (.ireturn, 1, 0, 0, 0, []) := by decide +kernel
theorem f179_0 : pm_f 179 0 = some (.aload_n 0, 1, 0, 0, 0, []) := by decide +kernel
theorem f179_1 : pm_f 179 1 = some (.invokevirtual 367, 3, 170, 0, 8, []) := by decide +kernel
theorem f179_4 : pm_f 179 4 = some (.aload_n 0, 1, 0, 0, 0, []) := by decide +kernel
theorem f179_5 : pm_f 179 5 = some (.invokevirtual 382, 3, 176, 0, 8, []) := by decide +kernel
theorem f179_8 : pm_f 179 8 = some (.istore_n 1, 1, 1, 0, 0, []) := by decide +kernel
theorem f179_9 : pm_f 179 9 = some (.aload_n 0, 1, 0, 0, 0, []) := by decide +kernel
theorem f179_10 : pm_f 179 10 = some (.invokevirtual 373, 3, 171, 0, 8, []) := by decide +kernel
theorem f179_13 : pm_f 179 13 = some (.iload_n 1, 1, 1, 0, 0, []) := by decide +kernel
theorem f179_14 : pm_f 179 14 = some (.ireturn, 1, 0, 0, 0, []) := by decide +kernel
theorem f180_0 : pm_f 180 0 = some (.aload_n 0, 1, 0, 0, 0, []) := by decide +kernel
theorem f180_1 : pm_f 180 1 = some (.aload_n 0, 1, 0, 0, 0, []) := by decide +kernel
theorem f180_2 : pm_f 180 2 = some (.invokevirtual 385, 3, 178, 0, 8, []) := by decide +kernel
theorem f180_5 : pm_f 180 5 = some (.invokevirtual 388, 3, 177, 1, 8, []) := by decide +kernel
theorem f180_8 : pm_f 180 8 = some (.ireturn, 1, 0, 0, 0, []) := by decide +kernel
theorem f181_0 : pm_f 181 0 = some (.aload_n 0, 1, 0, 0, 0, []) := by decide +kernel
theorem f181_1 : pm_f 181 1 = some (.aload_n 0, 1, 0, 0, 0, []) := by decide +kernel
theorem f181_2 : pm_f 181 2 = some (.invokevirtual 391, 3, 179, 0, 8, []) := by decide +kernel
theorem f181_5 : pm_f 181 5 = some (.invokevirtual 388, 3, 177, 1, 8, []) := by decide +kernel
theorem f181_8 : pm_f 181 8 = some (.ireturn, 1, 0, 0, 0, []) := by decide +kernel
theorem f182_0 : pm_f 182 0 = some (.aload_n 0, 1, 0, 0, 0, []) := by decide +kernel
theorem f182_1 : pm_f 182 1 = some (.iload_n 1, 1, 1, 0, 0, []) := by decide +kernel
theorem f182_2 : pm_f 182 2 = some (.invokevirtual 361, 3, 127, 1, 8, []) := by decide +kernel
theorem f182_5 : pm_f 182 5 = some (.ifCond .ne 6, 3, 11, 0, 0, []) := by decide +kernel
theorem f182_8 : pm_f 182 8 = some (.bipush (-2), 2, 0, 0, (-2), []) := by decide +kernel
theorem f182_10 : pm_f 182 10 = some (.ireturn, 1, 0, 0, 0, []) := by decide +kernel
theorem f182_11 : pm_f 182 11 = some (.aload_n 0, 1, 0, 0, 0, []) := by decide +kernel
theorem f182_12 : pm_f 182 12 = some (.invokevirtual 367, 3, 170, 0, 8, []) := by decide +kernel
theorem f182_15 : pm_f 182 15 = some (.aload_n 0, 1, 0, 0, 0, []) := by decide +kernel
theorem f182_16 : pm_f 182 16 = some (.iload_n 1, 1, 1, 0, 0, []) := by decide +kernel
theorem f182_17 : pm_f 182 17 = some (.invokevirtual 370, 3, 172, 1, 8, []) := by decide +kernel
theorem f182_20 : pm_f 182 20 = some (.iconst 0, 1, 0, 0, 0, []) := by decide +kernel
theorem f182_21 : pm_f 182 21 = some (.istore_n 2, 1, 2, 0, 0, []) := by decide +kernel
theorem f182_22 : pm_f 182 22 = some (.iload_n 2, 1, 2, 0, 0, []) := by decide +kernel
theorem f182_23 : pm_f 182 23 = some (.bipush 6, 2, 0, 0, 6, []) := by decide +kernel
theorem f182_25 : pm_f 182 25 = some (.if_icmp .ge 16, 3, 41, 0, 0, []) := by decide +kernel
theorem f182_28 : pm_f 182 28 = some (.aload_n 0, 1, 0, 0, 0, []) := by decide +kernel
theorem f182_29 : pm_f 182 29 = some (.getfield 120, 3, 8, 36, 2, []) := by decide +kernel
theorem f182_32 : pm_f 182 32 = some (.iload_n 2, 1, 2, 0, 0, []) := by decide +kernel
theorem f182_33 : pm_f 182 33 = some (.iconst 0, 1, 0, 0, 0, []) := by decide +kernel
theorem f182_34 : pm_f 182 34 = some (.iastore, 1, 0, 0, 0, []) := by decide +kernel
theorem f182_35 : pm_f 182 35 = some (.iinc 2 1, 3, 2, 0, 1, []) := by decide +kernel
theorem f182_38 : pm_f 182 38 = some (.goto (-16), 3, 22, 0, 0, []) := by decide +kernel
theorem f182_41 : pm_f 182 41 = some (.iconst 0, 1, 0, 0, 0, []) := by decide +kernel
theorem f182_42 : pm_f 182 42 = some (.istore_n 2, 1, 2, 0, 0, []) := by decide +kernel
theorem f182_43 : pm_f 182 43 = some (.iload_n 2, 1, 2, 0, 0, []) := by decide +kernel
theorem f182_44 : pm_f 182 44 = some (.aload_n 0, 1, 0, 0, 0, []) := by decide +kernel
theorem f182_45 : pm_f 182 45 = some (.getfield 7, 3, 8, 0, 0, []) := by decide +kernel
theorem f182_48 : pm_f 182 48 = some (.if_icmp .ge 43, 3, 91, 0, 0, []) := by decide +kernel
theorem f182_51 : pm_f 182 51 = some (.aload_n 0, 1, 0, 0, 0, []) := by decide +kernel
theorem f182_52 : pm_f 182 52 = some (.aload_n 0, 1, 0, 0, 0, []) := by decide +kernel
theorem f182_53 : pm_f 182 53 = some (.getfield 19, 3, 8, 3, 0, []) := by decide +kernel
theorem f182_56 : pm_f 182 56 = some (.iload_n 2, 1, 2, 0, 0, []) := by decide +kernel
theorem f182_57 : pm_f 182 57 = some (.invokevirtual 250, 3, 124, 2, 8, []) := by decide +kernel
theorem f182_60 : pm_f 182 60 = some (.ifCond .ne 25, 3, 85, 0, 0, []) := by decide +kernel
theorem f182_63 : pm_f 182 63 = some (.aload_n 0, 1, 0, 0, 0, []) := by decide +kernel
theorem f182_64 : pm_f 182 64 = some (.iload_n 2, 1, 2, 0, 0, []) := by decide +kernel
theorem f182_65 : pm_f 182 65 = some (.invokevirtual 332, 3, 161, 1, 8, []) := by decide +kernel
theorem f182_68 : pm_f 182 68 = some (.ifCond .lt 17, 3, 85, 0, 0, []) := by decide +kernel
theorem f182_71 : pm_f 182 71 = some (.aload_n 0, 1, 0, 0, 0, []) := by decide +kernel
theorem f182_72 : pm_f 182 72 = some (.getfield 120, 3, 8, 36, 2, []) := by decide +kernel
theorem f182_75 : pm_f 182 75 = some (.aload_n 0, 1, 0, 0, 0, []) := by decide +kernel
theorem f182_76 : pm_f 182 76 = some (.iload_n 2, 1, 2, 0, 0, []) := by decide +kernel
theorem f182_77 : pm_f 182 77 = some (.invokevirtual 332, 3, 161, 1, 8, []) := by decide +kernel
theorem f182_80 : pm_f 182 80 = some (.dup2, 1, 0, 0, 0, []) := by decide +kernel
theorem f182_81 : pm_f 182 81 = some (.iaload, 1, 0, 0, 0, []) := by decide +kernel
theorem f182_82 : pm_f 182 82 = some (.iconst 1, 1, 0, 0, 1, []) := by decide +kernel
theorem f182_83 : pm_f 182 83 = some (.iadd, 1, 0, 0, 0, []) := by decide +kernel
theorem f182_84 : pm_f 182 84 = some (.iastore, 1, 0, 0, 0, []) := by decide +kernel
theorem f182_85 : pm_f 182 85 = some (.iinc 2 1, 3, 2, 0, 1, []) := by decide +kernel
theorem f182_88 : pm_f 182 88 = some (.goto (-45), 3, 43, 0, 0, []) := by decide +kernel
theorem f182_91 : pm_f 182 91 = some (.aload_n 0, 1, 0, 0, 0, []) := by decide +kernel
theorem f182_92 : pm_f 182 92 = some (.invokevirtual 373, 3, 171, 0, 8, []) := by decide +kernel
theorem f182_95 : pm_f 182 95 = some (.bipush (-5), 2, 0, 0, (-5), []) := by decide +kernel
theorem f182_97 : pm_f 182 97 = some (.istore_n 2, 1, 2, 0, 0, []) := by decide +kernel
theorem f182_98 : pm_f 182 98 = some (.iconst 0, 1, 0, 0, 0, []) := by decide +kernel
theorem f182_99 : pm_f 182 99 = some (.istore_n 3, 1, 3, 0, 0, []) := by decide +kernel
theorem f182_100 : pm_f 182 100 = some (.iconst 0, 1, 0, 0, 0, []) := by decide +kernel
theorem f182_101 : pm_f 182 101 = some (.istore 4, 2, 4, 0, 0, []) := by decide +kernel
theorem f182_103 : pm_f 182 103 = some (.iload 4, 2, 4, 0, 0, []) := by decide +kernel
theorem f182_105 : pm_f 182 105 = some (.aload_n 0, 1, 0, 0, 0, []) := by decide +kernel
theorem f182_106 : pm_f 182 106 = some (.getfield 7, 3, 8, 0, 0, []) := by decide +kernel
theorem f182_109 : pm_f 182 109 = some (.if_icmp .ge 34, 3, 143, 0, 0, []) := by decide +kernel
theorem f182_112 : pm_f 182 112 = some (.aload_n 0, 1, 0, 0, 0, []) := by decide +kernel
theorem f182_113 : pm_f 182 113 = some (.getfield 120, 3, 8, 36, 2, []) := by decide +kernel
theorem f182_116 : pm_f 182 116 = some (.iload 4, 2, 4, 0, 0, []) := by decide +kernel
theorem f182_118 : pm_f 182 118 = some (.iaload, 1, 0, 0, 0, []) := by decide +kernel
theorem f182_119 : pm_f 182 119 = some (.iload_n 3, 1, 3, 0, 0, []) := by decide +kernel
theorem f182_120 : pm_f 182 120 = some (.if_icmp .gt 6, 3, 126, 0, 0, []) := by decide +kernel
theorem f182_123 : pm_f 182 123 = some (.goto 14, 3, 137, 0, 0, []) := by decide +kernel
theorem f182_126 : pm_f 182 126 = some (.iload 4, 2, 4, 0, 0, []) := by decide +kernel
theorem f182_128 : pm_f 182 128 = some (.istore_n 2, 1, 2, 0, 0, []) := by decide +kernel
theorem f182_129 : pm_f 182 129 = some (.aload_n 0, 1, 0, 0, 0, []) := by decide +kernel
theorem f182_130 : pm_f 182 130 = some (.getfield 120, 3, 8, 36, 2, []) := by decide +kernel
theorem f182_133 : pm_f 182 133 = some (.iload 4, 2, 4, 0, 0, []) := by decide +kernel
theorem f182_135 : pm_f 182 135 = some (.iaload, 1, 0, 0, 0, []) := by decide +kernel
theorem f182_136 : pm_f 182 136 = some (.istore_n 3, 1, 3, 0, 0, []) := by decide +kernel
theorem f182_137 : pm_f 182 137 = some (.iinc 4 1, 3, 4, 0, 1, []) := by decide +kernel
theorem f182_140 : pm_f 182 140 = some (.goto (-37), 3, 103, 0, 0, []) := by decide +kernel
theorem f182_143 : pm_f 182 143 = some (.iload_n 2, 1, 2, 0, 0, []) := by decide +kernel
theorem f182_144 : pm_f 182 144 = some (.ireturn, 1, 0, 0, 0, []) := by decide +kernel
theorem f183_0 : pm_f 183 0 = some (.aload_n 0, 1, 0, 0, 0, []) := by decide +kernel
theorem f183_1 : pm_f 183 1 = some (.invokevirtual 391, 3, 179, 0, 8, []) := by decide +kernel
theorem f183_4 : pm_f 183 4 = some (.istore_n 1, 1, 1, 0, 0, []) := by decide +kernel
theorem f183_5 : pm_f 183 5 = some (.bipush (-5), 2, 0, 0, (-5), []) := by decide +kernel
theorem f183_7 : pm_f 183 7 = some (.istore_n 2, 1, 2, 0, 0, []) := by decide +kernel
theorem f183_8 : pm_f 183 8 = some (.iconst 0, 1, 0, 0, 0, []) := by decide +kernel
theorem f183_9 : pm_f 183 9 = some (.istore_n 3, 1, 3, 0, 0, []) := by decide +kernel
theorem f183_10 : pm_f 183 10 = some (.iload_n 3, 1, 3, 0, 0, []) := by decide +kernel
theorem f183_11 : pm_f 183 11 = some (.aload_n 0, 1, 0, 0, 0, []) := by decide +kernel
theorem f183_12 : pm_f 183 12 = some (.getfield 7, 3, 8, 0, 0, []) := by decide +kernel
theorem f183_15 : pm_f 183 15 = some (.if_icmp .ge 89, 3, 104, 0, 0, []) := by decide +kernel
theorem f183_18 : pm_f 183 18 = some (.iload_n 3, 1, 3, 0, 0, []) := by decide +kernel
theorem f183_19 : pm_f 183 19 = some (.iconst 1, 1, 0, 0, 1, []) := by decide +kernel
theorem f183_20 : pm_f 183 20 = some (.iadd, 1, 0, 0, 0, []) := by decide +kernel
theorem f183_21 : pm_f 183 21 = some (.istore 4, 2, 4, 0, 0, []) := by decide +kernel
theorem f183_23 : pm_f 183 23 = some (.iload 4, 2, 4, 0, 0, []) := by decide +kernel
theorem f183_25 : pm_f 183 25 = some (.aload_n 0, 1, 0, 0, 0, []) := by decide +kernel
theorem f183_26 : pm_f 183 26 = some (.getfield 7, 3, 8, 0, 0, []) := by decide +kernel
theorem f183_29 : pm_f 183 29 = some (.if_icmp .ge 69, 3, 98, 0, 0, []) := by decide +kernel
theorem f183_32 : pm_f 183 32 = some (.aload_n 0, 1, 0, 0, 0, []) := by decide +kernel
theorem f183_33 : pm_f 183 33 = some (.invokevirtual 367, 3, 170, 0, 8, []) := by decide +kernel
theorem f183_36 : pm_f 183 36 = some (.aload_n 0, 1, 0, 0, 0, []) := by decide +kernel
theorem f183_37 : pm_f 183 37 = some (.getfield 29, 3, 8, 6, 2, []) := by decide +kernel
theorem f183_40 : pm_f 183 40 = some (.iload_n 3, 1, 3, 0, 0, []) := by decide +kernel
theorem f183_41 : pm_f 183 41 = some (.aload_n 0, 1, 0, 0, 0, []) := by decide +kernel
theorem f183_42 : pm_f 183 42 = some (.getfield 111, 3, 8, 33, 2, []) := by decide +kernel
theorem f183_45 : pm_f 183 45 = some (.iload 4, 2, 4, 0, 0, []) := by decide +kernel
theorem f183_47 : pm_f 183 47 = some (.iaload, 1, 0, 0, 0, []) := by decide +kernel
theorem f183_48 : pm_f 183 48 = some (.iastore, 1, 0, 0, 0, []) := by decide +kernel
theorem f183_49 : pm_f 183 49 = some (.aload_n 0, 1, 0, 0, 0, []) := by decide +kernel
theorem f183_50 : pm_f 183 50 = some (.getfield 29, 3, 8, 6, 2, []) := by decide +kernel
theorem f183_53 : pm_f 183 53 = some (.iload 4, 2, 4, 0, 0, []) := by decide +kernel
theorem f183_55 : pm_f 183 55 = some (.aload_n 0, 1, 0, 0, 0, []) := by decide +kernel
theorem f183_56 : pm_f 183 56 = some (.getfield 111, 3, 8, 33, 2, []) := by decide +kernel
theorem f183_59 : pm_f 183 59 = some (.iload_n 3, 1, 3, 0, 0, []) := by decide +kernel
theorem f183_60 : pm_f 183 60 = some (.iaload, 1, 0, 0, 0, []) := by decide +kernel
theorem f183_61 : pm_f 183 61 = some (.iastore, 1, 0, 0, 0, []) := by decide +kernel
theorem f183_62 : pm_f 183 62 = some (.aload_n 0, 1, 0, 0, 0, []) := by decide +kernel
theorem f183_63 : pm_f 183 63 = some (.invokevirtual 382, 3, 176, 0, 8, []) := by decide +kernel
theorem f183_66 : pm_f 183 66 = some (.istore 5, 2, 5, 0, 0, []) := by decide +kernel
theorem f183_68 : pm_f 183 68 = some (.aload_n 0, 1, 0, 0, 0, []) := by decide +kernel
theorem f183_69 : pm_f 183 69 = some (.invokevirtual 373, 3, 171, 0, 8, []) := by decide +kernel
theorem f183_72 : pm_f 183 72 = some (.iload 5, 2, 5, 0, 0, []) := by decide +kernel
theorem f183_74 : pm_f 183 74 = some (.iload_n 1, 1, 1, 0, 0, []) := by decide +kernel
theorem f183_75 : pm_f 183 75 = some (.if_icmp .lt 6, 3, 81, 0, 0, []) := by decide +kernel
theorem f183_78 : pm_f 183 78 = some (.goto 14, 3, 92, 0, 0, []) := by decide +kernel
theorem f183_81 : pm_f 183 81 = some (.bipush 10, 2, 0, 0, 10, []) := by decide +kernel
theorem f183_83 : pm_f 183 83 = some (.iload_n 3, 1, 3, 0, 0, []) := by decide +kernel
theorem f183_84 : pm_f 183 84 = some (.imul, 1, 0, 0, 0, []) := by decide +kernel
theorem f183_85 : pm_f 183 85 = some (.iload 4, 2, 4, 0, 0, []) := by decide +kernel
theorem f183_87 : pm_f 183 87 = some (.iadd, 1, 0, 0, 0, []) := by decide +kernel
theorem f183_88 : pm_f 183 88 = some (.istore_n 2, 1, 2, 0, 0, []) := by decide +kernel
theorem f183_89 : pm_f 183 89 = some (.iload 5, 2, 5, 0, 0, []) := by decide +kernel
theorem f183_91 : pm_f 183 91 = some (.istore_n 1, 1, 1, 0, 0, []) := by decide +kernel
theorem f183_92 : pm_f 183 92 = some (.iinc 4 1, 3, 4, 0, 1, []) := by decide +kernel
theorem f183_95 : pm_f 183 95 = some (.goto (-72), 3, 23, 0, 0, []) := by decide +kernel
theorem f183_98 : pm_f 183 98 = some (.iinc 3 1, 3, 3, 0, 1, []) := by decide +kernel
theorem f183_101 : pm_f 183 101 = some (.goto (-91), 3, 10, 0, 0, []) := by decide +kernel
theorem f183_104 : pm_f 183 104 = some (.iload_n 2, 1, 2, 0, 0, []) := by decide +kernel
theorem f183_105 : pm_f 183 105 = some (.ireturn, 1, 0, 0, 0, []) := by decide +kernel
theorem f184_0 : pm_f 184 0 = some (.aload_n 0, 1, 0, 0, 0, []) := by decide +kernel
theorem f184_1 : pm_f 184 1 = some (.invokevirtual 385, 3, 178, 0, 8, []) := by decide +kernel
theorem f184_4 : pm_f 184 4 = some (.istore_n 1, 1, 1, 0, 0, []) := by decide +kernel
theorem f184_5 : pm_f 184 5 = some (.bipush (-5), 2, 0, 0, (-5), []) := by decide +kernel
theorem f184_7 : pm_f 184 7 = some (.istore_n 2, 1, 2, 0, 0, []) := by decide +kernel
theorem f184_8 : pm_f 184 8 = some (.iconst 0, 1, 0, 0, 0, []) := by decide +kernel
theorem f184_9 : pm_f 184 9 = some (.istore_n 3, 1, 3, 0, 0, []) := by decide +kernel
theorem f184_10 : pm_f 184 10 = some (.iload_n 3, 1, 3, 0, 0, []) := by decide +kernel
theorem f184_11 : pm_f 184 11 = some (.aload_n 0, 1, 0, 0, 0, []) := by decide +kernel
theorem f184_12 : pm_f 184 12 = some (.getfield 7, 3, 8, 0, 0, []) := by decide +kernel
theorem f184_15 : pm_f 184 15 = some (.if_icmp .ge 58, 3, 73, 0, 0, []) := by decide +kernel
theorem f184_18 : pm_f 184 18 = some (.aload_n 0, 1, 0, 0, 0, []) := by decide +kernel
theorem f184_19 : pm_f 184 19 = some (.aload_n 0, 1, 0, 0, 0, []) := by decide +kernel
theorem f184_20 : pm_f 184 20 = some (.getfield 19, 3, 8, 3, 0, []) := by decide +kernel
theorem f184_23 : pm_f 184 23 = some (.iload_n 3, 1, 3, 0, 0, []) := by decide +kernel
theorem f184_24 : pm_f 184 24 = some (.invokevirtual 250, 3, 124, 2, 8, []) := by decide +kernel
theorem f184_27 : pm_f 184 27 = some (.ifCond .eq 6, 3, 33, 0, 0, []) := by decide +kernel
theorem f184_30 : pm_f 184 30 = some (.goto 37, 3, 67, 0, 0, []) := by decide +kernel
theorem f184_33 : pm_f 184 33 = some (.aload_n 0, 1, 0, 0, 0, []) := by decide +kernel
theorem f184_34 : pm_f 184 34 = some (.invokevirtual 367, 3, 170, 0, 8, []) := by decide +kernel
theorem f184_37 : pm_f 184 37 = some (.aload_n 0, 1, 0, 0, 0, []) := by decide +kernel
theorem f184_38 : pm_f 184 38 = some (.iload_n 3, 1, 3, 0, 0, []) := by decide +kernel
theorem f184_39 : pm_f 184 39 = some (.iconst 1, 1, 0, 0, 1, []) := by decide +kernel
theorem f184_40 : pm_f 184 40 = some (.invokevirtual 254, 3, 130, 2, 8, []) := by decide +kernel
theorem f184_43 : pm_f 184 43 = some (.aload_n 0, 1, 0, 0, 0, []) := by decide +kernel
theorem f184_44 : pm_f 184 44 = some (.invokevirtual 379, 3, 174, 0, 8, []) := by decide +kernel
theorem f184_47 : pm_f 184 47 = some (.istore 4, 2, 4, 0, 0, []) := by decide +kernel
theorem f184_49 : pm_f 184 49 = some (.aload_n 0, 1, 0, 0, 0, []) := by decide +kernel
theorem f184_50 : pm_f 184 50 = some (.invokevirtual 373, 3, 171, 0, 8, []) := by decide +kernel
theorem f184_53 : pm_f 184 53 = some (.iload 4, 2, 4, 0, 0, []) := by decide +kernel
theorem f184_55 : pm_f 184 55 = some (.iload_n 1, 1, 1, 0, 0, []) := by decide +kernel
theorem f184_56 : pm_f 184 56 = some (.if_icmp .gt 6, 3, 62, 0, 0, []) := by decide +kernel
theorem f184_59 : pm_f 184 59 = some (.goto 8, 3, 67, 0, 0, []) := by decide +kernel
theorem f184_62 : pm_f 184 62 = some (.iload_n 3, 1, 3, 0, 0, []) := by decide +kernel
theorem f184_63 : pm_f 184 63 = some (.istore_n 2, 1, 2, 0, 0, []) := by decide +kernel
theorem f184_64 : pm_f 184 64 = some (.iload 4, 2, 4, 0, 0, []) := by decide +kernel
theorem f184_66 : pm_f 184 66 = some (.istore_n 1, 1, 1, 0, 0, []) := by decide +kernel
theorem f184_67 : pm_f 184 67 = some (.iinc 3 1, 3, 3, 0, 1, []) := by decide +kernel
theorem f184_70 : pm_f 184 70 = some (.goto (-60), 3, 10, 0, 0, []) := by decide +kernel
theorem f184_73 : pm_f 184 73 = some (.iload_n 2, 1, 2, 0, 0, []) := by decide +kernel
theorem f184_74 : pm_f 184 74 = some (.ireturn, 1, 0, 0, 0, []) := by decide +kernel
theorem f185_0 : pm_f 185 0 = some (.aload_n 0, 1, 0, 0, 0, []) := by decide +kernel
theorem f185_1 : pm_f 185 1 = some (.iload_n 1, 1, 1, 0, 0, []) := by decide +kernel
theorem f185_2 : pm_f 185 2 = some (.invokevirtual 247, 3, 125, 1, 8, []) := by decide +kernel
theorem f185_5 : pm_f 185 5 = some (.ifCond .ne 5, 3, 10, 0, 0, []) := by decide +kernel
theorem f185_8 : pm_f 185 8 = some (.iconst (-1), 1, 0, 0, (-1), []) := by decide +kernel
theorem f185_9 : pm_f 185 9 = some (.ireturn, 1, 0, 0, 0, []) := by decide +kernel
theorem f185_10 : pm_f 185 10 = some (.bipush (-5), 2, 0, 0, (-5), []) := by decide +kernel
theorem f185_12 : pm_f 185 12 = some (.istore_n 2, 1, 2, 0, 0, []) := by decide +kernel
theorem f185_13 : pm_f 185 13 = some (.bipush 10, 2, 0, 0, 10, []) := by decide +kernel
theorem f185_15 : pm_f 185 15 = some (.istore_n 3, 1, 3, 0, 0, []) := by decide +kernel
theorem f185_16 : pm_f 185 16 = some (.iload_n 3, 1, 3, 0, 0, []) := by decide +kernel
theorem f185_17 : pm_f 185 17 = some (.sipush 201, 3, 0, 0, 201, []) := by decide +kernel
theorem f185_20 : pm_f 185 20 = some (.if_icmp .ge 44, 3, 64, 0, 0, []) := by decide +kernel
theorem f185_23 : pm_f 185 23 = some (.iload_n 2, 1, 2, 0, 0, []) := by decide +kernel
theorem f185_24 : pm_f 185 24 = some (.ifCond .ge 40, 3, 64, 0, 0, []) := by decide +kernel
theorem f185_27 : pm_f 185 27 = some (.aload_n 0, 1, 0, 0, 0, []) := by decide +kernel
theorem f185_28 : pm_f 185 28 = some (.invokevirtual 367, 3, 170, 0, 8, []) := by decide +kernel
theorem f185_31 : pm_f 185 31 = some (.aload_n 0, 1, 0, 0, 0, []) := by decide +kernel
theorem f185_32 : pm_f 185 32 = some (.getfield 35, 3, 8, 8, 2, []) := by decide +kernel
theorem f185_35 : pm_f 185 35 = some (.iload_n 1, 1, 1, 0, 0, []) := by decide +kernel
theorem f185_36 : pm_f 185 36 = some (.iload_n 3, 1, 3, 0, 0, []) := by decide +kernel
theorem f185_37 : pm_f 185 37 = some (.iastore, 1, 0, 0, 0, []) := by decide +kernel
theorem f185_38 : pm_f 185 38 = some (.aload_n 0, 1, 0, 0, 0, []) := by decide +kernel
theorem f185_39 : pm_f 185 39 = some (.invokevirtual 382, 3, 176, 0, 8, []) := by decide +kernel
theorem f185_42 : pm_f 185 42 = some (.bipush 30, 2, 0, 0, 30, []) := by decide +kernel
theorem f185_44 : pm_f 185 44 = some (.if_icmp .le 8, 3, 52, 0, 0, []) := by decide +kernel
theorem f185_47 : pm_f 185 47 = some (.bipush (-5), 2, 0, 0, (-5), []) := by decide +kernel
theorem f185_49 : pm_f 185 49 = some (.goto 4, 3, 53, 0, 0, []) := by decide +kernel
theorem f185_52 : pm_f 185 52 = some (.iload_n 3, 1, 3, 0, 0, []) := by decide +kernel
theorem f185_53 : pm_f 185 53 = some (.istore_n 2, 1, 2, 0, 0, []) := by decide +kernel
theorem f185_54 : pm_f 185 54 = some (.aload_n 0, 1, 0, 0, 0, []) := by decide +kernel
theorem f185_55 : pm_f 185 55 = some (.invokevirtual 373, 3, 171, 0, 8, []) := by decide +kernel
theorem f185_58 : pm_f 185 58 = some (.iinc 3 10, 3, 3, 0, 10, []) := by decide +kernel
theorem f185_61 : pm_f 185 61 = some (.goto (-45), 3, 16, 0, 0, []) := by decide +kernel
theorem f185_64 : pm_f 185 64 = some (.iload_n 2, 1, 2, 0, 0, []) := by decide +kernel
theorem f185_65 : pm_f 185 65 = some (.ireturn, 1, 0, 0, 0, []) := by decide +kernel
theorem f186_0 : pm_f 186 0 = some (.aload_n 0, 1, 0, 0, 0, []) := by decide +kernel
theorem f186_1 : pm_f 186 1 = some (.iload_n 1, 1, 1, 0, 0, []) := by decide +kernel
theorem f186_2 : pm_f 186 2 = some (.invokevirtual 361, 3, 127, 1, 8, []) := by decide +kernel
theorem f186_5 : pm_f 186 5 = some (.ifCond .ne 6, 3, 11, 0, 0, []) := by decide +kernel
theorem f186_8 : pm_f 186 8 = some (.bipush (-2), 2, 0, 0, (-2), []) := by decide +kernel
theorem f186_10 : pm_f 186 10 = some (.ireturn, 1, 0, 0, 0, []) := by decide +kernel
theorem f186_11 : pm_f 186 11 = some (.aload_n 0, 1, 0, 0, 0, []) := by decide +kernel
theorem f186_12 : pm_f 186 12 = some (.invokevirtual 367, 3, 170, 0, 8, []) := by decide +kernel
theorem f186_15 : pm_f 186 15 = some (.iconst 0, 1, 0, 0, 0, []) := by decide +kernel
theorem f186_16 : pm_f 186 16 = some (.istore_n 2, 1, 2, 0, 0, []) := by decide +kernel
theorem f186_17 : pm_f 186 17 = some (.aload_n 0, 1, 0, 0, 0, []) := by decide +kernel
theorem f186_18 : pm_f 186 18 = some (.getfield 16, 3, 8, 2, 0, []) := by decide +kernel
theorem f186_21 : pm_f 186 21 = some (.istore_n 3, 1, 3, 0, 0, []) := by decide +kernel
theorem f186_22 : pm_f 186 22 = some (.iconst 1, 1, 0, 0, 1, []) := by decide +kernel
theorem f186_23 : pm_f 186 23 = some (.istore 4, 2, 4, 0, 0, []) := by decide +kernel
theorem f186_25 : pm_f 186 25 = some (.iload 4, 2, 4, 0, 0, []) := by decide +kernel
theorem f186_27 : pm_f 186 27 = some (.iload_n 1, 1, 1, 0, 0, []) := by decide +kernel
theorem f186_28 : pm_f 186 28 = some (.if_icmp .gt 32, 3, 60, 0, 0, []) := by decide +kernel
theorem f186_31 : pm_f 186 31 = some (.aload_n 0, 1, 0, 0, 0, []) := by decide +kernel
theorem f186_32 : pm_f 186 32 = some (.invokevirtual 364, 3, 168, 0, 8, []) := by decide +kernel
theorem f186_35 : pm_f 186 35 = some (.aload_n 0, 1, 0, 0, 0, []) := by decide +kernel
theorem f186_36 : pm_f 186 36 = some (.getfield 16, 3, 8, 2, 0, []) := by decide +kernel
theorem f186_39 : pm_f 186 39 = some (.iload_n 3, 1, 3, 0, 0, []) := by decide +kernel
theorem f186_40 : pm_f 186 40 = some (.if_icmp .gt 6, 3, 46, 0, 0, []) := by decide +kernel
theorem f186_43 : pm_f 186 43 = some (.goto 11, 3, 54, 0, 0, []) := by decide +kernel
theorem f186_46 : pm_f 186 46 = some (.iload 4, 2, 4, 0, 0, []) := by decide +kernel
theorem f186_48 : pm_f 186 48 = some (.istore_n 2, 1, 2, 0, 0, []) := by decide +kernel
theorem f186_49 : pm_f 186 49 = some (.aload_n 0, 1, 0, 0, 0, []) := by decide +kernel
theorem f186_50 : pm_f 186 50 = some (.getfield 16, 3, 8, 2, 0, []) := by decide +kernel
theorem f186_53 : pm_f 186 53 = some (.istore_n 3, 1, 3, 0, 0, []) := by decide +kernel
theorem f186_54 : pm_f 186 54 = some (.iinc 4 1, 3, 4, 0, 1, []) := by decide +kernel
theorem f186_57 : pm_f 186 57 = some (.goto (-32), 3, 25, 0, 0, []) := by decide +kernel
theorem f186_60 : pm_f 186 60 = some (.aload_n 0, 1, 0, 0, 0, []) := by decide +kernel
theorem f186_61 : pm_f 186 61 = some (.invokevirtual 373, 3, 171, 0, 8, []) := by decide +kernel
theorem f186_64 : pm_f 186 64 = some (.iload_n 2, 1, 2, 0, 0, []) := by decide +kernel
theorem f186_65 : pm_f 186 65 = some (.ireturn, 1, 0, 0, 0, []) := by decide +kernel
theorem f187_0 : pm_f 187 0 = some (.iload_n 1, 1, 1, 0, 0, []) := by decide +kernel
theorem f187_1 : pm_f 187 1 = some (.iconst (-1), 1, 0, 0, (-1), []) := by decide +kernel
theorem f187_2 : pm_f 187 2 = some (.if_icmp .ne 10, 3, 12, 0, 0, []) := by decide +kernel
theorem f187_5 : pm_f 187 5 = some (.aload_n 0, 1, 0, 0, 0, []) := by decide +kernel
theorem f187_6 : pm_f 187 6 = some (.iconst 0, 1, 0, 0, 0, []) := by decide +kernel
theorem f187_7 : pm_f 187 7 = some (.putfield 123, 3, 8, 37, 0, []) := by decide +kernel
theorem f187_10 : pm_f 187 10 = some (.iconst 0, 1, 0, 0, 0, []) := by decide +kernel
theorem f187_11 : pm_f 187 11 = some (.ireturn, 1, 0, 0, 0, []) := by decide +kernel
theorem f187_12 : pm_f 187 12 = some (.aload_n 0, 1, 0, 0, 0, []) := by decide +kernel
theorem f187_13 : pm_f 187 13 = some (.iload_n 1, 1, 1, 0, 0, []) := by decide +kernel
theorem f187_14 : pm_f 187 14 = some (.invokevirtual 247, 3, 125, 1, 8, []) := by decide +kernel
theorem f187_17 : pm_f 187 17 = some (.ifCond .ne 5, 3, 22, 0, 0, []) := by decide +kernel
theorem f187_20 : pm_f 187 20 = some (.iconst (-1), 1, 0, 0, (-1), []) := by decide +kernel
theorem f187_21 : pm_f 187 21 = some (.ireturn, 1, 0, 0, 0, []) := by decide +kernel
theorem f187_22 : pm_f 187 22 = some (.aload_n 0, 1, 0, 0, 0, []) := by decide +kernel
theorem f187_23 : pm_f 187 23 = some (.iload_n 2, 1, 2, 0, 0, []) := by decide +kernel
theorem f187_24 : pm_f 187 24 = some (.invokevirtual 243, 3, 126, 1, 8, []) := by decide +kernel
theorem f187_27 : pm_f 187 27 = some (.ifCond .eq 14, 3, 41, 0, 0, []) := by decide +kernel
theorem f187_30 : pm_f 187 30 = some (.aload_n 0, 1, 0, 0, 0, []) := by decide +kernel
theorem f187_31 : pm_f 187 31 = some (.iload_n 3, 1, 3, 0, 0, []) := by decide +kernel
theorem f187_32 : pm_f 187 32 = some (.iconst 0, 1, 0, 0, 0, []) := by decide +kernel
theorem f187_33 : pm_f 187 33 = some (.bipush 8, 2, 0, 0, 8, []) := by decide +kernel
theorem f187_35 : pm_f 187 35 = some (.invokevirtual 239, 3, 122, 3, 8, []) := by decide +kernel
theorem f187_38 : pm_f 187 38 = some (.ifCond .ne 6, 3, 44, 0, 0, []) := by decide +kernel
theorem f187_41 : pm_f 187 41 = some (.bipush (-2), 2, 0, 0, (-2), []) := by decide +kernel
theorem f187_43 : pm_f 187 43 = some (.ireturn, 1, 0, 0, 0, []) := by decide +kernel
theorem f187_44 : pm_f 187 44 = some (.aload_n 0, 1, 0, 0, 0, []) := by decide +kernel
theorem f187_45 : pm_f 187 45 = some (.getfield 123, 3, 8, 37, 0, []) := by decide +kernel
theorem f187_48 : pm_f 187 48 = some (.iconst 5, 1, 0, 0, 5, []) := by decide +kernel
theorem f187_49 : pm_f 187 49 = some (.if_icmp .ne 6, 3, 55, 0, 0, []) := by decide +kernel
theorem f187_52 : pm_f 187 52 = some (.bipush (-4), 2, 0, 0, (-4), []) := by decide +kernel
theorem f187_54 : pm_f 187 54 = some (.ireturn, 1, 0, 0, 0, []) := by decide +kernel
theorem f187_55 : pm_f 187 55 = some (.aload_n 0, 1, 0, 0, 0, []) := by decide +kernel
theorem f187_56 : pm_f 187 56 = some (.getfield 126, 3, 8, 38, 2, []) := by decide +kernel
theorem f187_59 : pm_f 187 59 = some (.aload_n 0, 1, 0, 0, 0, []) := by decide +kernel
theorem f187_60 : pm_f 187 60 = some (.getfield 123, 3, 8, 37, 0, []) := by decide +kernel
theorem f187_63 : pm_f 187 63 = some (.iload_n 1, 1, 1, 0, 0, []) := by decide +kernel
theorem f187_64 : pm_f 187 64 = some (.iastore, 1, 0, 0, 0, []) := by decide +kernel
theorem f187_65 : pm_f 187 65 = some (.aload_n 0, 1, 0, 0, 0, []) := by decide +kernel
theorem f187_66 : pm_f 187 66 = some (.getfield 129, 3, 8, 39, 2, []) := by decide +kernel
theorem f187_69 : pm_f 187 69 = some (.aload_n 0, 1, 0, 0, 0, []) := by decide +kernel
theorem f187_70 : pm_f 187 70 = some (.getfield 123, 3, 8, 37, 0, []) := by decide +kernel
theorem f187_73 : pm_f 187 73 = some (.iload_n 2, 1, 2, 0, 0, []) := by decide +kernel
theorem f187_74 : pm_f 187 74 = some (.iastore, 1, 0, 0, 0, []) := by decide +kernel
theorem f187_75 : pm_f 187 75 = some (.aload_n 0, 1, 0, 0, 0, []) := by decide +kernel
theorem f187_76 : pm_f 187 76 = some (.getfield 132, 3, 8, 40, 2, []) := by decide +kernel
theorem f187_79 : pm_f 187 79 = some (.aload_n 0, 1, 0, 0, 0, []) := by decide +kernel
theorem f187_80 : pm_f 187 80 = some (.getfield 123, 3, 8, 37, 0, []) := by decide +kernel
theorem f187_83 : pm_f 187 83 = some (.iload_n 3, 1, 3, 0, 0, []) := by decide +kernel
theorem f187_84 : pm_f 187 84 = some (.iastore, 1, 0, 0, 0, []) := by decide +kernel
theorem f187_85 : pm_f 187 85 = some (.aload_n 0, 1, 0, 0, 0, []) := by decide +kernel
theorem f187_86 : pm_f 187 86 = some (.dup, 1, 0, 0, 0, []) := by decide +kernel
theorem f187_87 : pm_f 187 87 = some (.getfield 123, 3, 8, 37, 0, []) := by decide +kernel
theorem f187_90 : pm_f 187 90 = some (.iconst 1, 1, 0, 0, 1, []) := by decide +kernel
theorem f187_91 : pm_f 187 91 = some (.iadd, 1, 0, 0, 0, []) := by decide +kernel
theorem f187_92 : pm_f 187 92 = some (.putfield 123, 3, 8, 37, 0, []) := by decide +kernel
theorem f187_95 : pm_f 187 95 = some (.aload_n 0, 1, 0, 0, 0, []) := by decide +kernel
theorem f187_96 : pm_f 187 96 = some (.getfield 123, 3, 8, 37, 0, []) := by decide +kernel
theorem f187_99 : pm_f 187 99 = some (.ireturn, 1, 0, 0, 0, []) := by decide +kernel
theorem f188_0 : pm_f 188 0 = some (.iconst 1, 1, 0, 0, 1, []) := by decide +kernel
theorem f188_1 : pm_f 188 1 = some (.istore_n 1, 1, 1, 0, 0, []) := by decide +kernel
theorem f188_2 : pm_f 188 2 = some (.iconst 0, 1, 0, 0, 0, []) := by decide +kernel
theorem f188_3 : pm_f 188 3 = some (.istore_n 2, 1, 2, 0, 0, []) := by decide +kernel
theorem f188_4 : pm_f 188 4 = some (.iload_n 2, 1, 2, 0, 0, []) := by decide +kernel
theorem f188_5 : pm_f 188 5 = some (.aload_n 0, 1, 0, 0, 0, []) := by decide +kernel
theorem f188_6 : pm_f 188 6 = some (.getfield 123, 3, 8, 37, 0, []) := by decide +kernel
theorem f188_9 : pm_f 188 9 = some (.if_icmp .ge 57, 3, 66, 0, 0, []) := by decide +kernel
theorem f188_12 : pm_f 188 12 = some (.iload_n 1, 1, 1, 0, 0, []) := by decide +kernel
theorem f188_13 : pm_f 188 13 = some (.ifCond .eq 53, 3, 66, 0, 0, []) := by decide +kernel
theorem f188_16 : pm_f 188 16 = some (.aload_n 0, 1, 0, 0, 0, []) := by decide +kernel
theorem f188_17 : pm_f 188 17 = some (.invokevirtual 367, 3, 170, 0, 8, []) := by decide +kernel
theorem f188_20 : pm_f 188 20 = some (.aload_n 0, 1, 0, 0, 0, []) := by decide +kernel
theorem f188_21 : pm_f 188 21 = some (.aload_n 0, 1, 0, 0, 0, []) := by decide +kernel
theorem f188_22 : pm_f 188 22 = some (.getfield 132, 3, 8, 40, 2, []) := by decide +kernel
theorem f188_25 : pm_f 188 25 = some (.iload_n 2, 1, 2, 0, 0, []) := by decide +kernel
theorem f188_26 : pm_f 188 26 = some (.iaload, 1, 0, 0, 0, []) := by decide +kernel
theorem f188_27 : pm_f 188 27 = some (.invokevirtual 370, 3, 172, 1, 8, []) := by decide +kernel
theorem f188_30 : pm_f 188 30 = some (.aload_n 0, 1, 0, 0, 0, []) := by decide +kernel
theorem f188_31 : pm_f 188 31 = some (.getfield 35, 3, 8, 8, 2, []) := by decide +kernel
theorem f188_34 : pm_f 188 34 = some (.aload_n 0, 1, 0, 0, 0, []) := by decide +kernel
theorem f188_35 : pm_f 188 35 = some (.getfield 126, 3, 8, 38, 2, []) := by decide +kernel
theorem f188_38 : pm_f 188 38 = some (.iload_n 2, 1, 2, 0, 0, []) := by decide +kernel
theorem f188_39 : pm_f 188 39 = some (.iaload, 1, 0, 0, 0, []) := by decide +kernel
theorem f188_40 : pm_f 188 40 = some (.iaload, 1, 0, 0, 0, []) := by decide +kernel
theorem f188_41 : pm_f 188 41 = some (.aload_n 0, 1, 0, 0, 0, []) := by decide +kernel
theorem f188_42 : pm_f 188 42 = some (.getfield 129, 3, 8, 39, 2, []) := by decide +kernel
theorem f188_45 : pm_f 188 45 = some (.iload_n 2, 1, 2, 0, 0, []) := by decide +kernel
theorem f188_46 : pm_f 188 46 = some (.iaload, 1, 0, 0, 0, []) := by decide +kernel
theorem f188_47 : pm_f 188 47 = some (.if_icmp .ne 7, 3, 54, 0, 0, []) := by decide +kernel
theorem f188_50 : pm_f 188 50 = some (.iconst 1, 1, 0, 0, 1, []) := by decide +kernel
theorem f188_51 : pm_f 188 51 = some (.goto 4, 3, 55, 0, 0, []) := by decide +kernel
theorem f188_54 : pm_f 188 54 = some (.iconst 0, 1, 0, 0, 0, []) := by decide +kernel
theorem f188_55 : pm_f 188 55 = some (.istore_n 1, 1, 1, 0, 0, []) := by decide +kernel
theorem f188_56 : pm_f 188 56 = some (.aload_n 0, 1, 0, 0, 0, []) := by decide +kernel
theorem f188_57 : pm_f 188 57 = some (.invokevirtual 373, 3, 171, 0, 8, []) := by decide +kernel
theorem f188_60 : pm_f 188 60 = some (.iinc 2 1, 3, 2, 0, 1, []) := by decide +kernel
theorem f188_63 : pm_f 188 63 = some (.goto (-59), 3, 4, 0, 0, []) := by decide +kernel
theorem f188_66 : pm_f 188 66 = some (.iload_n 1, 1, 1, 0, 0, []) := by decide +kernel
theorem f188_67 : pm_f 188 67 = some (.ireturn, 1, 0, 0, 1, []) := by decide +kernel
theorem f189_0 : pm_f 189 0 = some (.aload_n 0, 1, 0, 0, 0, []) := by decide +kernel
theorem f189_1 : pm_f 189 1 = some (.getfield 19, 3, 8, 3, 0, []) := by decide +kernel
theorem f189_4 : pm_f 189 4 = some (.istore_n 1, 1, 1, 0, 0, []) := by decide +kernel
theorem f189_5 : pm_f 189 5 = some (.iconst 0, 1, 0, 0, 0, []) := by decide +kernel
theorem f189_6 : pm_f 189 6 = some (.istore_n 2, 1, 2, 0, 0, []) := by decide +kernel
theorem f189_7 : pm_f 189 7 = some (.iconst 0, 1, 0, 0, 0, []) := by decide +kernel
theorem f189_8 : pm_f 189 8 = some (.istore_n 3, 1, 3, 0, 0, []) := by decide +kernel
theorem f189_9 : pm_f 189 9 = some (.iload_n 3, 1, 3, 0, 0, []) := by decide +kernel
theorem f189_10 : pm_f 189 10 = some (.aload_n 0, 1, 0, 0, 0, []) := by decide +kernel
theorem f189_11 : pm_f 189 11 = some (.getfield 7, 3, 8, 0, 0, []) := by decide +kernel
theorem f189_14 : pm_f 189 14 = some (.if_icmp .ge 37, 3, 51, 0, 0, []) := by decide +kernel
theorem f189_17 : pm_f 189 17 = some (.aload_n 0, 1, 0, 0, 0, []) := by decide +kernel
theorem f189_18 : pm_f 189 18 = some (.iload_n 3, 1, 3, 0, 0, []) := by decide +kernel
theorem f189_19 : pm_f 189 19 = some (.iconst 1, 1, 0, 0, 1, []) := by decide +kernel
theorem f189_20 : pm_f 189 20 = some (.invokevirtual 254, 3, 130, 2, 8, []) := by decide +kernel
theorem f189_23 : pm_f 189 23 = some (.iload_n 2, 1, 2, 0, 0, []) := by decide +kernel
theorem f189_24 : pm_f 189 24 = some (.aload_n 0, 1, 0, 0, 0, []) := by decide +kernel
theorem f189_25 : pm_f 189 25 = some (.invokevirtual 394, 3, 188, 0, 8, []) := by decide +kernel
theorem f189_28 : pm_f 189 28 = some (.ifCond .eq 9, 3, 37, 0, 0, []) := by decide +kernel
theorem f189_31 : pm_f 189 31 = some (.iconst 1, 1, 0, 0, 1, []) := by decide +kernel
theorem f189_32 : pm_f 189 32 = some (.iload_n 3, 1, 3, 0, 0, []) := by decide +kernel
theorem f189_33 : pm_f 189 33 = some (.ishl, 1, 0, 0, 0, []) := by decide +kernel
theorem f189_34 : pm_f 189 34 = some (.goto 4, 3, 38, 0, 0, []) := by decide +kernel
theorem f189_37 : pm_f 189 37 = some (.iconst 0, 1, 0, 0, 0, []) := by decide +kernel
theorem f189_38 : pm_f 189 38 = some (.ior, 1, 0, 0, 0, []) := by decide +kernel
theorem f189_39 : pm_f 189 39 = some (.istore_n 2, 1, 2, 0, 0, []) := by decide +kernel
theorem f189_40 : pm_f 189 40 = some (.aload_n 0, 1, 0, 0, 0, []) := by decide +kernel
theorem f189_41 : pm_f 189 41 = some (.iload_n 1, 1, 1, 0, 0, []) := by decide +kernel
theorem f189_42 : pm_f 189 42 = some (.putfield 19, 3, 8, 3, 0, []) := by decide +kernel
theorem f189_45 : pm_f 189 45 = some (.iinc 3 1, 3, 3, 0, 1, []) := by decide +kernel
theorem f189_48 : pm_f 189 48 = some (.goto (-39), 3, 9, 0, 0, []) := by decide +kernel
theorem f189_51 : pm_f 189 51 = some (.iload_n 2, 1, 2, 0, 0, []) := by decide +kernel
theorem f189_52 : pm_f 189 52 = some (.ireturn, 1, 0, 0, 0, []) := by decide +kernel
theorem f190_0 : pm_f 190 0 = some (.aload_n 0, 1, 0, 0, 0, []) := by decide +kernel
theorem f190_1 : pm_f 190 1 = some (.iload_n 1, 1, 1, 0, 0, []) := by decide +kernel
theorem f190_2 : pm_f 190 2 = some (.invokevirtual 247, 3, 125, 1, 8, []) := by decide +kernel
theorem f190_5 : pm_f 190 5 = some (.ifCond .eq 13, 3, 18, 0, 0, []) := by decide +kernel
theorem f190_8 : pm_f 190 8 = some (.aload_n 0, 1, 0, 0, 0, []) := by decide +kernel
theorem f190_9 : pm_f 190 9 = some (.iload_n 2, 1, 2, 0, 0, []) := by decide +kernel
theorem f190_10 : pm_f 190 10 = some (.iconst 0, 1, 0, 0, 0, []) := by decide +kernel
theorem f190_11 : pm_f 190 11 = some (.iconst 1, 1, 0, 0, 1, []) := by decide +kernel
theorem f190_12 : pm_f 190 12 = some (.invokevirtual 239, 3, 122, 3, 8, []) := by decide +kernel
theorem f190_15 : pm_f 190 15 = some (.ifCond .ne 5, 3, 20, 0, 0, []) := by decide +kernel
theorem f190_18 : pm_f 190 18 = some (.iconst (-1), 1, 0, 0, (-1), []) := by decide +kernel
theorem f190_19 : pm_f 190 19 = some (.ireturn, 1, 0, 0, 0, []) := by decide +kernel
theorem f190_20 : pm_f 190 20 = some (.aload_n 0, 1, 0, 0, 0, []) := by decide +kernel
theorem f190_21 : pm_f 190 21 = some (.getfield 32, 3, 8, 7, 2, []) := by decide +kernel
theorem f190_24 : pm_f 190 24 = some (.iload_n 1, 1, 1, 0, 0, []) := by decide +kernel
theorem f190_25 : pm_f 190 25 = some (.iaload, 1, 0, 0, 0, []) := by decide +kernel
theorem f190_26 : pm_f 190 26 = some (.istore_n 3, 1, 3, 0, 0, []) := by decide +kernel
theorem f190_27 : pm_f 190 27 = some (.iconst 0, 1, 0, 0, 0, []) := by decide +kernel
theorem f190_28 : pm_f 190 28 = some (.istore 4, 2, 4, 0, 0, []) := by decide +kernel
theorem f190_30 : pm_f 190 30 = some (.bipush (-5), 2, 0, 0, (-5), []) := by decide +kernel
theorem f190_32 : pm_f 190 32 = some (.istore 5, 2, 5, 0, 0, []) := by decide +kernel
theorem f190_34 : pm_f 190 34 = some (.bipush 99, 2, 0, 0, 99, []) := by decide +kernel
theorem f190_36 : pm_f 190 36 = some (.istore 6, 2, 6, 0, 0, []) := by decide +kernel
theorem f190_38 : pm_f 190 38 = some (.iload 6, 2, 6, 0, 0, []) := by decide +kernel
theorem f190_40 : pm_f 190 40 = some (.ifCond .lt 34, 3, 74, 0, 0, []) := by decide +kernel
theorem f190_43 : pm_f 190 43 = some (.aload_n 0, 1, 0, 0, 0, []) := by decide +kernel
theorem f190_44 : pm_f 190 44 = some (.getfield 32, 3, 8, 7, 2, []) := by decide +kernel
theorem f190_47 : pm_f 190 47 = some (.iload_n 1, 1, 1, 0, 0, []) := by decide +kernel
theorem f190_48 : pm_f 190 48 = some (.iload 6, 2, 6, 0, 0, []) := by decide +kernel
theorem f190_50 : pm_f 190 50 = some (.iastore, 1, 0, 0, 0, []) := by decide +kernel
theorem f190_51 : pm_f 190 51 = some (.aload_n 0, 1, 0, 0, 0, []) := by decide +kernel
theorem f190_52 : pm_f 190 52 = some (.invokevirtual 394, 3, 188, 0, 8, []) := by decide +kernel
theorem f190_55 : pm_f 190 55 = some (.ifCond .ne 6, 3, 61, 0, 0, []) := by decide +kernel
theorem f190_58 : pm_f 190 58 = some (.goto 10, 3, 68, 0, 0, []) := by decide +kernel
theorem f190_61 : pm_f 190 61 = some (.iinc 4 1, 3, 4, 0, 1, []) := by decide +kernel
theorem f190_64 : pm_f 190 64 = some (.iload 6, 2, 6, 0, 0, []) := by decide +kernel
theorem f190_66 : pm_f 190 66 = some (.istore 5, 2, 5, 0, 0, []) := by decide +kernel
theorem f190_68 : pm_f 190 68 = some (.iinc 6 (-1), 3, 6, 0, (-1), []) := by decide +kernel
theorem f190_71 : pm_f 190 71 = some (.goto (-33), 3, 38, 0, 0, []) := by decide +kernel
theorem f190_74 : pm_f 190 74 = some (.aload_n 0, 1, 0, 0, 0, []) := by decide +kernel
theorem f190_75 : pm_f 190 75 = some (.getfield 32, 3, 8, 7, 2, []) := by decide +kernel
theorem f190_78 : pm_f 190 78 = some (.iload_n 1, 1, 1, 0, 0, []) := by decide +kernel
theorem f190_79 : pm_f 190 79 = some (.iload_n 3, 1, 3, 0, 0, []) := by decide +kernel
theorem f190_80 : pm_f 190 80 = some (.iastore, 1, 0, 0, 0, []) := by decide +kernel
theorem f190_81 : pm_f 190 81 = some (.iload_n 2, 1, 2, 0, 0, []) := by decide +kernel
theorem f190_82 : pm_f 190 82 = some (.ifCond .ne 8, 3, 90, 0, 0, []) := by decide +kernel
theorem f190_85 : pm_f 190 85 = some (.iload 4, 2, 4, 0, 0, []) := by decide +kernel
theorem f190_87 : pm_f 190 87 = some (.goto 5, 3, 92, 0, 0, []) := by decide +kernel
theorem f190_90 : pm_f 190 90 = some (.iload 5, 2, 5, 0, 0, []) := by decide +kernel
theorem f190_92 : pm_f 190 92 = some (.ireturn, 1, 0, 0, 0, []) := by decide +kernel
theorem f191_0 : pm_f 191 0 = some (.iload_n 1, 1, 1, 0, 0, []) := by decide +kernel
theorem f191_1 : pm_f 191 1 = some (.istore_n 3, 1, 3, 0, 0, []) := by decide +kernel
theorem f191_2 : pm_f 191 2 = some (.iload_n 2, 1, 2, 0, 0, []) := by decide +kernel
theorem f191_3 : pm_f 191 3 = some (.istore 4, 2, 4, 0, 0, []) := by decide +kernel
theorem f191_5 : pm_f 191 5 = some (.iload 4, 2, 4, 0, 0, []) := by decide +kernel
theorem f191_7 : pm_f 191 7 = some (.ifCond .eq 19, 3, 26, 0, 0, []) := by decide +kernel
theorem f191_10 : pm_f 191 10 = some (.iload_n 3, 1, 3, 0, 0, []) := by decide +kernel
theorem f191_11 : pm_f 191 11 = some (.iload 4, 2, 4, 0, 0, []) := by decide +kernel
theorem f191_13 : pm_f 191 13 = some (.irem, 1, 0, 0, 0, []) := by decide +kernel
theorem f191_14 : pm_f 191 14 = some (.istore 5, 2, 5, 0, 0, []) := by decide +kernel
theorem f191_16 : pm_f 191 16 = some (.iload 4, 2, 4, 0, 0, []) := by decide +kernel
theorem f191_18 : pm_f 191 18 = some (.istore_n 3, 1, 3, 0, 0, []) := by decide +kernel
theorem f191_19 : pm_f 191 19 = some (.iload 5, 2, 5, 0, 0, []) := by decide +kernel
theorem f191_21 : pm_f 191 21 = some (.istore 4, 2, 4, 0, 0, []) := by decide +kernel
theorem f191_23 : pm_f 191 23 = some (.goto (-18), 3, 5, 0, 0, []) := by decide +kernel
theorem f191_26 : pm_f 191 26 = some (.iload_n 3, 1, 3, 0, 0, []) := by decide +kernel
theorem f191_27 : pm_f 191 27 = some (.ireturn, 1, 0, 0, 0, []) := by decide +kernel
theorem f192_0 : pm_f 192 0 = some (.aload_n 0, 1, 0, 0, 0, []) := by decide +kernel
theorem f192_1 : pm_f 192 1 = some (.iload_n 1, 1, 1, 0, 0, []) := by decide +kernel
theorem f192_2 : pm_f 192 2 = some (.iload_n 2, 1, 2, 0, 0, []) := by decide +kernel
theorem f192_3 : pm_f 192 3 = some (.invokevirtual 397, 3, 191, 2, 8, []) := by decide +kernel
theorem f192_6 : pm_f 192 6 = some (.istore 4, 2, 4, 0, 0, []) := by decide +kernel
theorem f192_8 : pm_f 192 8 = some (.iload_n 3, 1, 3, 0, 0, []) := by decide +kernel
theorem f192_9 : pm_f 192 9 = some (.ifCond .ne 11, 3, 20, 0, 0, []) := by decide +kernel
theorem f192_12 : pm_f 192 12 = some (.iload_n 1, 1, 1, 0, 0, []) := by decide +kernel
theorem f192_13 : pm_f 192 13 = some (.iload 4, 2, 4, 0, 0, []) := by decide +kernel
theorem f192_15 : pm_f 192 15 = some (.idiv, 1, 0, 0, 0, []) := by decide +kernel
theorem f192_16 : pm_f 192 16 = some (.i2l, 1, 0, 0, 0, []) := by decide +kernel
theorem f192_17 : pm_f 192 17 = some (.goto 8, 3, 25, 0, 0, []) := by decide +kernel
theorem f192_20 : pm_f 192 20 = some (.iload_n 2, 1, 2, 0, 0, []) := by decide +kernel
theorem f192_21 : pm_f 192 21 = some (.iload 4, 2, 4, 0, 0, []) := by decide +kernel
theorem f192_23 : pm_f 192 23 = some (.idiv, 1, 0, 0, 0, []) := by decide +kernel
theorem f192_24 : pm_f 192 24 = some (.i2l, 1, 0, 0, 0, []) := by decide +kernel
theorem f192_25 : pm_f 192 25 = some (.lreturn, 1, 0, 0, 0, []) := by decide +kernel
theorem f193_0 : pm_f 193 0 = some (.aload_n 0, 1, 0, 0, 0, []) := by decide +kernel
theorem f193_1 : pm_f 193 1 = some (.iload_n 1, 1, 1, 0, 0, []) := by decide +kernel
theorem f193_2 : pm_f 193 2 = some (.iconst 0, 1, 0, 0, 0, []) := by decide +kernel
theorem f193_3 : pm_f 193 3 = some (.bipush 30, 2, 0, 0, 30, []) := by decide +kernel
theorem f193_5 : pm_f 193 5 = some (.invokevirtual 239, 3, 122, 3, 8, []) := by decide +kernel
theorem f193_8 : pm_f 193 8 = some (.ifCond .eq 20, 3, 28, 0, 0, []) := by decide +kernel
theorem f193_11 : pm_f 193 11 = some (.aload_n 0, 1, 0, 0, 0, []) := by decide +kernel
theorem f193_12 : pm_f 193 12 = some (.iload_n 2, 1, 2, 0, 0, []) := by decide +kernel
theorem f193_13 : pm_f 193 13 = some (.iconst 0, 1, 0, 0, 0, []) := by decide +kernel
theorem f193_14 : pm_f 193 14 = some (.iconst 1, 1, 0, 0, 1, []) := by decide +kernel
theorem f193_15 : pm_f 193 15 = some (.invokevirtual 239, 3, 122, 3, 8, []) := by decide +kernel
theorem f193_18 : pm_f 193 18 = some (.ifCond .eq 10, 3, 28, 0, 0, []) := by decide +kernel
theorem f193_21 : pm_f 193 21 = some (.aload_n 0, 1, 0, 0, 0, []) := by decide +kernel
theorem f193_22 : pm_f 193 22 = some (.getfield 7, 3, 8, 0, 0, []) := by decide +kernel
theorem f193_25 : pm_f 193 25 = some (.ifCond .ne 7, 3, 32, 0, 0, []) := by decide +kernel
theorem f193_28 : pm_f 193 28 = some (.ldc2_w 400, 3, 0, 0, (-9223372036854775808), []) := by decide +kernel
theorem f193_31 : pm_f 193 31 = some (.lreturn, 1, 0, 0, 0, []) := by decide +kernel
theorem f193_32 : pm_f 193 32 = some (.iconst 0, 1, 0, 0, 0, []) := by decide +kernel
theorem f193_33 : pm_f 193 33 = some (.istore_n 3, 1, 3, 0, 0, []) := by decide +kernel
theorem f193_34 : pm_f 193 34 = some (.iconst 0, 1, 0, 0, 0, []) := by decide +kernel
theorem f193_35 : pm_f 193 35 = some (.istore 4, 2, 4, 0, 0, []) := by decide +kernel
theorem f193_37 : pm_f 193 37 = some (.iload 4, 2, 4, 0, 0, []) := by decide +kernel
theorem f193_39 : pm_f 193 39 = some (.aload_n 0, 1, 0, 0, 0, []) := by decide +kernel
theorem f193_40 : pm_f 193 40 = some (.getfield 7, 3, 8, 0, 0, []) := by decide +kernel
theorem f193_43 : pm_f 193 43 = some (.if_icmp .ge 40, 3, 83, 0, 0, []) := by decide +kernel
theorem f193_46 : pm_f 193 46 = some (.aload_n 0, 1, 0, 0, 0, []) := by decide +kernel
theorem f193_47 : pm_f 193 47 = some (.invokevirtual 367, 3, 170, 0, 8, []) := by decide +kernel
theorem f193_50 : pm_f 193 50 = some (.aload_n 0, 1, 0, 0, 0, []) := by decide +kernel
theorem f193_51 : pm_f 193 51 = some (.iload 4, 2, 4, 0, 0, []) := by decide +kernel
theorem f193_53 : pm_f 193 53 = some (.iconst 1, 1, 0, 0, 1, []) := by decide +kernel
theorem f193_54 : pm_f 193 54 = some (.invokevirtual 254, 3, 130, 2, 8, []) := by decide +kernel
theorem f193_57 : pm_f 193 57 = some (.iload_n 3, 1, 3, 0, 0, []) := by decide +kernel
theorem f193_58 : pm_f 193 58 = some (.aload_n 0, 1, 0, 0, 0, []) := by decide +kernel
theorem f193_59 : pm_f 193 59 = some (.invokevirtual 382, 3, 176, 0, 8, []) := by decide +kernel
theorem f193_62 : pm_f 193 62 = some (.iload_n 1, 1, 1, 0, 0, []) := by decide +kernel
theorem f193_63 : pm_f 193 63 = some (.if_icmp .gt 7, 3, 70, 0, 0, []) := by decide +kernel
theorem f193_66 : pm_f 193 66 = some (.iconst 1, 1, 0, 0, 1, []) := by decide +kernel
theorem f193_67 : pm_f 193 67 = some (.goto 4, 3, 71, 0, 0, []) := by decide +kernel
theorem f193_70 : pm_f 193 70 = some (.iconst 0, 1, 0, 0, 0, []) := by decide +kernel
theorem f193_71 : pm_f 193 71 = some (.iadd, 1, 0, 0, 0, []) := by decide +kernel
theorem f193_72 : pm_f 193 72 = some (.istore_n 3, 1, 3, 0, 0, []) := by decide +kernel
theorem f193_73 : pm_f 193 73 = some (.aload_n 0, 1, 0, 0, 0, []) := by decide +kernel
theorem f193_74 : pm_f 193 74 = some (.invokevirtual 373, 3, 171, 0, 8, []) := by decide +kernel
theorem f193_77 : pm_f 193 77 = some (.iinc 4 1, 3, 4, 0, 1, []) := by decide +kernel
theorem f193_80 : pm_f 193 80 = some (.goto (-43), 3, 37, 0, 0, []) := by decide +kernel
theorem f193_83 : pm_f 193 83 = some (.aload_n 0, 1, 0, 0, 0, []) := by decide +kernel
theorem f193_84 : pm_f 193 84 = some (.iload_n 3, 1, 3, 0, 0, []) := by decide +kernel
theorem f193_85 : pm_f 193 85 = some (.aload_n 0, 1, 0, 0, 0, []) := by decide +kernel
theorem f193_86 : pm_f 193 86 = some (.getfield 7, 3, 8, 0, 0, []) := by decide +kernel
theorem f193_89 : pm_f 193 89 = some (.iload_n 2, 1, 2, 0, 0, []) := by decide +kernel
theorem f193_90 : pm_f 193 90 = some (.invokevirtual 402, 3, 192, 3, 8, []) := by decide +kernel
theorem f193_93 : pm_f 193 93 = some (.lreturn, 1, 0, 0, 0, []) := by decide +kernel
theorem f194_0 : pm_f 194 0 = some (.aload_n 0, 1, 0, 0, 0, []) := by decide +kernel
theorem f194_1 : pm_f 194 1 = some (.iload_n 1, 1, 1, 0, 0, []) := by decide +kernel
theorem f194_2 : pm_f 194 2 = some (.invokevirtual 361, 3, 127, 1, 8, []) := by decide +kernel
theorem f194_5 : pm_f 194 5 = some (.ifCond .eq 20, 3, 25, 0, 0, []) := by decide +kernel
theorem f194_8 : pm_f 194 8 = some (.aload_n 0, 1, 0, 0, 0, []) := by decide +kernel
theorem f194_9 : pm_f 194 9 = some (.iload_n 2, 1, 2, 0, 0, []) := by decide +kernel
theorem f194_10 : pm_f 194 10 = some (.iconst 0, 1, 0, 0, 0, []) := by decide +kernel
theorem f194_11 : pm_f 194 11 = some (.iconst 1, 1, 0, 0, 1, []) := by decide +kernel
theorem f194_12 : pm_f 194 12 = some (.invokevirtual 239, 3, 122, 3, 8, []) := by decide +kernel
theorem f194_15 : pm_f 194 15 = some (.ifCond .eq 10, 3, 25, 0, 0, []) := by decide +kernel
theorem f194_18 : pm_f 194 18 = some (.aload_n 0, 1, 0, 0, 0, []) := by decide +kernel
theorem f194_19 : pm_f 194 19 = some (.getfield 7, 3, 8, 0, 0, []) := by decide +kernel
theorem f194_22 : pm_f 194 22 = some (.ifCond .ne 7, 3, 29, 0, 0, []) := by decide +kernel
theorem f194_25 : pm_f 194 25 = some (.ldc2_w 400, 3, 0, 0, (-9223372036854775808), []) := by decide +kernel
theorem f194_28 : pm_f 194 28 = some (.lreturn, 1, 0, 0, 0, []) := by decide +kernel
theorem f194_29 : pm_f 194 29 = some (.aload_n 0, 1, 0, 0, 0, []) := by decide +kernel
theorem f194_30 : pm_f 194 30 = some (.invokevirtual 367, 3, 170, 0, 8, []) := by decide +kernel
theorem f194_33 : pm_f 194 33 = some (.aload_n 0, 1, 0, 0, 0, []) := by decide +kernel
theorem f194_34 : pm_f 194 34 = some (.iload_n 1, 1, 1, 0, 0, []) := by decide +kernel
theorem f194_35 : pm_f 194 35 = some (.invokevirtual 370, 3, 172, 1, 8, []) := by decide +kernel
theorem f194_38 : pm_f 194 38 = some (.iconst 0, 1, 0, 0, 0, []) := by decide +kernel
theorem f194_39 : pm_f 194 39 = some (.istore_n 3, 1, 3, 0, 0, []) := by decide +kernel
theorem f194_40 : pm_f 194 40 = some (.iconst 0, 1, 0, 0, 0, []) := by decide +kernel
theorem f194_41 : pm_f 194 41 = some (.istore 4, 2, 4, 0, 0, []) := by decide +kernel
theorem f194_43 : pm_f 194 43 = some (.iload 4, 2, 4, 0, 0, []) := by decide +kernel
theorem f194_45 : pm_f 194 45 = some (.aload_n 0, 1, 0, 0, 0, []) := by decide +kernel
theorem f194_46 : pm_f 194 46 = some (.getfield 7, 3, 8, 0, 0, []) := by decide +kernel
theorem f194_49 : pm_f 194 49 = some (.if_icmp .ge 19, 3, 68, 0, 0, []) := by decide +kernel
theorem f194_52 : pm_f 194 52 = some (.iload_n 3, 1, 3, 0, 0, []) := by decide +kernel
theorem f194_53 : pm_f 194 53 = some (.aload_n 0, 1, 0, 0, 0, []) := by decide +kernel
theorem f194_54 : pm_f 194 54 = some (.getfield 35, 3, 8, 8, 2, []) := by decide +kernel
theorem f194_57 : pm_f 194 57 = some (.iload 4, 2, 4, 0, 0, []) := by decide +kernel
theorem f194_59 : pm_f 194 59 = some (.iaload, 1, 0, 0, 0, []) := by decide +kernel
theorem f194_60 : pm_f 194 60 = some (.iadd, 1, 0, 0, 0, []) := by decide +kernel
theorem f194_61 : pm_f 194 61 = some (.istore_n 3, 1, 3, 0, 0, []) := by decide +kernel
theorem f194_62 : pm_f 194 62 = some (.iinc 4 1, 3, 4, 0, 1, []) := by decide +kernel
theorem f194_65 : pm_f 194 65 = some (.goto (-22), 3, 43, 0, 0, []) := by decide +kernel
theorem f194_68 : pm_f 194 68 = some (.aload_n 0, 1, 0, 0, 0, []) := by decide +kernel
theorem f194_69 : pm_f 194 69 = some (.invokevirtual 373, 3, 171, 0, 8, []) := by decide +kernel
theorem f194_72 : pm_f 194 72 = some (.aload_n 0, 1, 0, 0, 0, []) := by decide +kernel
theorem f194_73 : pm_f 194 73 = some (.iload_n 3, 1, 3, 0, 0, []) := by decide +kernel
theorem f194_74 : pm_f 194 74 = some (.aload_n 0, 1, 0, 0, 0, []) := by decide +kernel
theorem f194_75 : pm_f 194 75 = some (.getfield 7, 3, 8, 0, 0, []) := by decide +kernel
theorem f194_78 : pm_f 194 78 = some (.iload_n 2, 1, 2, 0, 0, []) := by decide +kernel
theorem f194_79 : pm_f 194 79 = some (.invokevirtual 402, 3, 192, 3, 8, []) := by decide +kernel
theorem f194_82 : pm_f 194 82 = some (.lreturn, 1, 0, 0, 0, []) := by decide +kernel
theorem f195_0 : pm_f 195 0 = some (.iload_n 1, 1, 1, 0, 0, []) := by decide +kernel
theorem f195_1 : pm_f 195 1 = some (.iconst (-1), 1, 0, 0, (-1), []) := by decide +kernel
theorem f195_2 : pm_f 195 2 = some (.if_icmp .ne 10, 3, 12, 0, 0, []) := by decide +kernel
theorem f195_5 : pm_f 195 5 = some (.aload_n 0, 1, 0, 0, 0, []) := by decide +kernel
theorem f195_6 : pm_f 195 6 = some (.iconst 0, 1, 0, 0, 0, []) := by decide +kernel
theorem f195_7 : pm_f 195 7 = some (.putfield 135, 3, 8, 41, 0, []) := by decide +kernel
theorem f195_10 : pm_f 195 10 = some (.iconst 0, 1, 0, 0, 0, []) := by decide +kernel
theorem f195_11 : pm_f 195 11 = some (.ireturn, 1, 0, 0, 0, []) := by decide +kernel
theorem f195_12 : pm_f 195 12 = some (.aload_n 0, 1, 0, 0, 0, []) := by decide +kernel
theorem f195_13 : pm_f 195 13 = some (.iload_n 1, 1, 1, 0, 0, []) := by decide +kernel
theorem f195_14 : pm_f 195 14 = some (.iconst 0, 1, 0, 0, 0, []) := by decide +kernel
theorem f195_15 : pm_f 195 15 = some (.iconst 2, 1, 0, 0, 2, []) := by decide +kernel
theorem f195_16 : pm_f 195 16 = some (.invokevirtual 239, 3, 122, 3, 8, []) := by decide +kernel
theorem f195_19 : pm_f 195 19 = some (.ifCond .eq 15, 3, 34, 0, 0, []) := by decide +kernel
theorem f195_22 : pm_f 195 22 = some (.iload_n 1, 1, 1, 0, 0, []) := by decide +kernel
theorem f195_23 : pm_f 195 23 = some (.ifCond .le 13, 3, 36, 0, 0, []) := by decide +kernel
theorem f195_26 : pm_f 195 26 = some (.aload_n 0, 1, 0, 0, 0, []) := by decide +kernel
theorem f195_27 : pm_f 195 27 = some (.iload_n 2, 1, 2, 0, 0, []) := by decide +kernel
theorem f195_28 : pm_f 195 28 = some (.invokevirtual 247, 3, 125, 1, 8, []) := by decide +kernel
theorem f195_31 : pm_f 195 31 = some (.ifCond .ne 5, 3, 36, 0, 0, []) := by decide +kernel
theorem f195_34 : pm_f 195 34 = some (.iconst (-1), 1, 0, 0, (-1), []) := by decide +kernel
theorem f195_35 : pm_f 195 35 = some (.ireturn, 1, 0, 0, 0, []) := by decide +kernel
theorem f195_36 : pm_f 195 36 = some (.aload_n 0, 1, 0, 0, 0, []) := by decide +kernel
theorem f195_37 : pm_f 195 37 = some (.getfield 135, 3, 8, 41, 0, []) := by decide +kernel
theorem f195_40 : pm_f 195 40 = some (.bipush 10, 2, 0, 0, 10, []) := by decide +kernel
theorem f195_42 : pm_f 195 42 = some (.if_icmp .ne 6, 3, 48, 0, 0, []) := by decide +kernel
theorem f195_45 : pm_f 195 45 = some (.bipush (-4), 2, 0, 0, (-4), []) := by decide +kernel
theorem f195_47 : pm_f 195 47 = some (.ireturn, 1, 0, 0, 0, []) := by decide +kernel
theorem f195_48 : pm_f 195 48 = some (.aload_n 0, 1, 0, 0, 0, []) := by decide +kernel
theorem f195_49 : pm_f 195 49 = some (.getfield 141, 3, 8, 43, 2, []) := by decide +kernel
theorem f195_52 : pm_f 195 52 = some (.aload_n 0, 1, 0, 0, 0, []) := by decide +kernel
theorem f195_53 : pm_f 195 53 = some (.getfield 135, 3, 8, 41, 0, []) := by decide +kernel
theorem f195_56 : pm_f 195 56 = some (.iload_n 1, 1, 1, 0, 0, []) := by decide +kernel
theorem f195_57 : pm_f 195 57 = some (.iastore, 1, 0, 0, 0, []) := by decide +kernel
theorem f195_58 : pm_f 195 58 = some (.aload_n 0, 1, 0, 0, 0, []) := by decide +kernel
theorem f195_59 : pm_f 195 59 = some (.getfield 144, 3, 8, 44, 2, []) := by decide +kernel
theorem f195_62 : pm_f 195 62 = some (.aload_n 0, 1, 0, 0, 0, []) := by decide +kernel
theorem f195_63 : pm_f 195 63 = some (.getfield 135, 3, 8, 41, 0, []) := by decide +kernel
theorem f195_66 : pm_f 195 66 = some (.iload_n 1, 1, 1, 0, 0, []) := by decide +kernel
theorem f195_67 : pm_f 195 67 = some (.ifCond .le 7, 3, 74, 0, 0, []) := by decide +kernel
theorem f195_70 : pm_f 195 70 = some (.iload_n 2, 1, 2, 0, 0, []) := by decide +kernel
theorem f195_71 : pm_f 195 71 = some (.goto 4, 3, 75, 0, 0, []) := by decide +kernel
theorem f195_74 : pm_f 195 74 = some (.iconst 0, 1, 0, 0, 0, []) := by decide +kernel
theorem f195_75 : pm_f 195 75 = some (.iastore, 1, 0, 0, 0, []) := by decide +kernel
theorem f195_76 : pm_f 195 76 = some (.aload_n 0, 1, 0, 0, 0, []) := by decide +kernel
theorem f195_77 : pm_f 195 77 = some (.dup, 1, 0, 0, 0, []) := by decide +kernel
theorem f195_78 : pm_f 195 78 = some (.getfield 135, 3, 8, 41, 0, []) := by decide +kernel
theorem f195_81 : pm_f 195 81 = some (.iconst 1, 1, 0, 0, 1, []) := by decide +kernel
theorem f195_82 : pm_f 195 82 = some (.iadd, 1, 0, 0, 0, []) := by decide +kernel
theorem f195_83 : pm_f 195 83 = some (.putfield 135, 3, 8, 41, 0, []) := by decide +kernel
theorem f195_86 : pm_f 195 86 = some (.aload_n 0, 1, 0, 0, 0, []) := by decide +kernel
theorem f195_87 : pm_f 195 87 = some (.getfield 135, 3, 8, 41, 0, []) := by decide +kernel
theorem f195_90 : pm_f 195 90 = some (.ireturn, 1, 0, 0, 0, []) := by decide +kernel
theorem f196_0 : pm_f 196 0 = some (.aload_n 0, 1, 0, 0, 0, []) := by decide +kernel
theorem f196_1 : pm_f 196 1 = some (.iload_n 1, 1, 1, 0, 0, []) := by decide +kernel
theorem f196_2 : pm_f 196 2 = some (.iconst 0, 1, 0, 0, 0, []) := by decide +kernel
theorem f196_3 : pm_f 196 3 = some (.iconst 1, 1, 0, 0, 1, []) := by decide +kernel
theorem f196_4 : pm_f 196 4 = some (.invokevirtual 239, 3, 122, 3, 8, []) := by decide +kernel
theorem f196_7 : pm_f 196 7 = some (.ifCond .ne 5, 3, 12, 0, 0, []) := by decide +kernel
theorem f196_10 : pm_f 196 10 = some (.iconst (-1), 1, 0, 0, (-1), []) := by decide +kernel
theorem f196_11 : pm_f 196 11 = some (.ireturn, 1, 0, 0, 0, []) := by decide +kernel
theorem f196_12 : pm_f 196 12 = some (.aload_n 0, 1, 0, 0, 0, []) := by decide +kernel
theorem f196_13 : pm_f 196 13 = some (.invokevirtual 367, 3, 170, 0, 8, []) := by decide +kernel
theorem f196_16 : pm_f 196 16 = some (.iconst 0, 1, 0, 0, 0, []) := by decide +kernel
theorem f196_17 : pm_f 196 17 = some (.istore_n 2, 1, 2, 0, 0, []) := by decide +kernel
theorem f196_18 : pm_f 196 18 = some (.iload_n 2, 1, 2, 0, 0, []) := by decide +kernel
theorem f196_19 : pm_f 196 19 = some (.aload_n 0, 1, 0, 0, 0, []) := by decide +kernel
theorem f196_20 : pm_f 196 20 = some (.getfield 135, 3, 8, 41, 0, []) := by decide +kernel
theorem f196_23 : pm_f 196 23 = some (.if_icmp .ge 50, 3, 73, 0, 0, []) := by decide +kernel
theorem f196_26 : pm_f 196 26 = some (.aload_n 0, 1, 0, 0, 0, []) := by decide +kernel
theorem f196_27 : pm_f 196 27 = some (.getfield 141, 3, 8, 43, 2, []) := by decide +kernel
theorem f196_30 : pm_f 196 30 = some (.iload_n 2, 1, 2, 0, 0, []) := by decide +kernel
theorem f196_31 : pm_f 196 31 = some (.iaload, 1, 0, 0, 0, []) := by decide +kernel
theorem f196_32 : pm_f 196 32 = some (.ifCond .ne 10, 3, 42, 0, 0, []) := by decide +kernel
theorem f196_35 : pm_f 196 35 = some (.aload_n 0, 1, 0, 0, 0, []) := by decide +kernel
theorem f196_36 : pm_f 196 36 = some (.invokevirtual 364, 3, 168, 0, 8, []) := by decide +kernel
theorem f196_39 : pm_f 196 39 = some (.goto 28, 3, 67, 0, 0, []) := by decide +kernel
theorem f196_42 : pm_f 196 42 = some (.aload_n 0, 1, 0, 0, 0, []) := by decide +kernel
theorem f196_43 : pm_f 196 43 = some (.aload_n 0, 1, 0, 0, 0, []) := by decide +kernel
theorem f196_44 : pm_f 196 44 = some (.getfield 144, 3, 8, 44, 2, []) := by decide +kernel
theorem f196_47 : pm_f 196 47 = some (.iload_n 2, 1, 2, 0, 0, []) := by decide +kernel
theorem f196_48 : pm_f 196 48 = some (.iaload, 1, 0, 0, 0, []) := by decide +kernel
theorem f196_49 : pm_f 196 49 = some (.aload_n 0, 1, 0, 0, 0, []) := by decide +kernel
theorem f196_50 : pm_f 196 50 = some (.getfield 141, 3, 8, 43, 2, []) := by decide +kernel
theorem f196_53 : pm_f 196 53 = some (.iload_n 2, 1, 2, 0, 0, []) := by decide +kernel
theorem f196_54 : pm_f 196 54 = some (.iaload, 1, 0, 0, 0, []) := by decide +kernel
theorem f196_55 : pm_f 196 55 = some (.iconst 1, 1, 0, 0, 1, []) := by decide +kernel
theorem f196_56 : pm_f 196 56 = some (.if_icmp .ne 7, 3, 63, 0, 0, []) := by decide +kernel
theorem f196_59 : pm_f 196 59 = some (.iconst 1, 1, 0, 0, 1, []) := by decide +kernel
theorem f196_60 : pm_f 196 60 = some (.goto 4, 3, 64, 0, 0, []) := by decide +kernel
theorem f196_63 : pm_f 196 63 = some (.iconst 0, 1, 0, 0, 0, []) := by decide +kernel
theorem f196_64 : pm_f 196 64 = some (.invokevirtual 254, 3, 130, 2, 8, []) := by decide +kernel
theorem f196_67 : pm_f 196 67 = some (.iinc 2 1, 3, 2, 0, 1, []) := by decide +kernel
theorem f196_70 : pm_f 196 70 = some (.goto (-52), 3, 18, 0, 0, []) := by decide +kernel
theorem f196_73 : pm_f 196 73 = some (.iload_n 1, 1, 1, 0, 0, []) := by decide +kernel
theorem f196_74 : pm_f 196 74 = some (.ifCond .ne 10, 3, 84, 0, 0, []) := by decide +kernel
theorem f196_77 : pm_f 196 77 = some (.aload_n 0, 1, 0, 0, 0, []) := by decide +kernel
theorem f196_78 : pm_f 196 78 = some (.invokevirtual 344, 3, 163, 0, 8, []) := by decide +kernel
theorem f196_81 : pm_f 196 81 = some (.goto 7, 3, 88, 0, 0, []) := by decide +kernel
theorem f196_84 : pm_f 196 84 = some (.aload_n 0, 1, 0, 0, 0, []) := by decide +kernel
theorem f196_85 : pm_f 196 85 = some (.getfield 16, 3, 8, 2, 0, []) := by decide +kernel
theorem f196_88 : pm_f 196 88 = some (.istore_n 2, 1, 2, 0, 0, []) := by decide +kernel
theorem f196_89 : pm_f 196 89 = some (.aload_n 0, 1, 0, 0, 0, []) := by decide +kernel
theorem f196_90 : pm_f 196 90 = some (.invokevirtual 373, 3, 171, 0, 8, []) := by decide +kernel
theorem f196_93 : pm_f 196 93 = some (.iload_n 2, 1, 2, 0, 0, []) := by decide +kernel
theorem f196_94 : pm_f 196 94 = some (.ireturn, 1, 0, 0, 0, []) := by decide +kernel
theorem f197_0 : pm_f 197 0 = some (.iload_n 1, 1, 1, 0, 0, []) := by decide +kernel
theorem f197_1 : pm_f 197 1 = some (.iconst (-1), 1, 0, 0, (-1), []) := by decide +kernel
theorem f197_2 : pm_f 197 2 = some (.if_icmp .ne 10, 3, 12, 0, 0, []) := by decide +kernel
theorem f197_5 : pm_f 197 5 = some (.aload_n 0, 1, 0, 0, 0, []) := by decide +kernel
theorem f197_6 : pm_f 197 6 = some (.iconst 0, 1, 0, 0, 0, []) := by decide +kernel
theorem f197_7 : pm_f 197 7 = some (.putfield 138, 3, 8, 42, 0, []) := by decide +kernel
theorem f197_10 : pm_f 197 10 = some (.iconst 0, 1, 0, 0, 0, []) := by decide +kernel
theorem f197_11 : pm_f 197 11 = some (.ireturn, 1, 0, 0, 0, []) := by decide +kernel
theorem f197_12 : pm_f 197 12 = some (.aload_n 0, 1, 0, 0, 0, []) := by decide +kernel
theorem f197_13 : pm_f 197 13 = some (.iload_n 1, 1, 1, 0, 0, []) := by decide +kernel
theorem f197_14 : pm_f 197 14 = some (.invokevirtual 247, 3, 125, 1, 8, []) := by decide +kernel
theorem f197_17 : pm_f 197 17 = some (.ifCond .ne 5, 3, 22, 0, 0, []) := by decide +kernel
theorem f197_20 : pm_f 197 20 = some (.iconst (-1), 1, 0, 0, (-1), []) := by decide +kernel
theorem f197_21 : pm_f 197 21 = some (.ireturn, 1, 0, 0, 0, []) := by decide +kernel
theorem f197_22 : pm_f 197 22 = some (.aload_n 0, 1, 0, 0, 0, []) := by decide +kernel
theorem f197_23 : pm_f 197 23 = some (.iload_n 2, 1, 2, 0, 0, []) := by decide +kernel
theorem f197_24 : pm_f 197 24 = some (.invokevirtual 243, 3, 126, 1, 8, []) := by decide +kernel
theorem f197_27 : pm_f 197 27 = some (.ifCond .ne 6, 3, 33, 0, 0, []) := by decide +kernel
theorem f197_30 : pm_f 197 30 = some (.bipush (-2), 2, 0, 0, (-2), []) := by decide +kernel
theorem f197_32 : pm_f 197 32 = some (.ireturn, 1, 0, 0, 0, []) := by decide +kernel
theorem f197_33 : pm_f 197 33 = some (.aload_n 0, 1, 0, 0, 0, []) := by decide +kernel
theorem f197_34 : pm_f 197 34 = some (.getfield 138, 3, 8, 42, 0, []) := by decide +kernel
theorem f197_37 : pm_f 197 37 = some (.bipush 8, 2, 0, 0, 8, []) := by decide +kernel
theorem f197_39 : pm_f 197 39 = some (.if_icmp .ne 6, 3, 45, 0, 0, []) := by decide +kernel
theorem f197_42 : pm_f 197 42 = some (.bipush (-4), 2, 0, 0, (-4), []) := by decide +kernel
theorem f197_44 : pm_f 197 44 = some (.ireturn, 1, 0, 0, 0, []) := by decide +kernel
theorem f197_45 : pm_f 197 45 = some (.aload_n 0, 1, 0, 0, 0, []) := by decide +kernel
theorem f197_46 : pm_f 197 46 = some (.getfield 147, 3, 8, 45, 2, []) := by decide +kernel
theorem f197_49 : pm_f 197 49 = some (.aload_n 0, 1, 0, 0, 0, []) := by decide +kernel
theorem f197_50 : pm_f 197 50 = some (.getfield 138, 3, 8, 42, 0, []) := by decide +kernel
theorem f197_53 : pm_f 197 53 = some (.iload_n 1, 1, 1, 0, 0, []) := by decide +kernel
theorem f197_54 : pm_f 197 54 = some (.iastore, 1, 0, 0, 0, []) := by decide +kernel
theorem f197_55 : pm_f 197 55 = some (.aload_n 0, 1, 0, 0, 0, []) := by decide +kernel
theorem f197_56 : pm_f 197 56 = some (.getfield 150, 3, 8, 46, 2, []) := by decide +kernel
theorem f197_59 : pm_f 197 59 = some (.aload_n 0, 1, 0, 0, 0, []) := by decide +kernel
theorem f197_60 : pm_f 197 60 = some (.getfield 138, 3, 8, 42, 0, []) := by decide +kernel
theorem f197_63 : pm_f 197 63 = some (.iload_n 2, 1, 2, 0, 0, []) := by decide +kernel
theorem f197_64 : pm_f 197 64 = some (.iastore, 1, 0, 0, 0, []) := by decide +kernel
theorem f197_65 : pm_f 197 65 = some (.aload_n 0, 1, 0, 0, 0, []) := by decide +kernel
theorem f197_66 : pm_f 197 66 = some (.dup, 1, 0, 0, 0, []) := by decide +kernel
theorem f197_67 : pm_f 197 67 = some (.getfield 138, 3, 8, 42, 0, []) := by decide +kernel
theorem f197_70 : pm_f 197 70 = some (.iconst 1, 1, 0, 0, 1, []) := by decide +kernel
theorem f197_71 : pm_f 197 71 = some (.iadd, 1, 0, 0, 0, []) := by decide +kernel
theorem f197_72 : pm_f 197 72 = some (.putfield 138, 3, 8, 42, 0, []) := by decide +kernel
theorem f197_75 : pm_f 197 75 = some (.aload_n 0, 1, 0, 0, 0, []) := by decide +kernel
theorem f197_76 : pm_f 197 76 = some (.getfield 138, 3, 8, 42, 0, []) := by decide +kernel
theorem f197_79 : pm_f 197 79 = some (.ireturn, 1, 0, 0, 0, []) := by decide +kernel
theorem f198_0 : pm_f 198 0 = some (.iconst 0, 1, 0, 0, 0, []) := by decide +kernel
theorem f198_1 : pm_f 198 1 = some (.istore_n 1, 1, 1, 0, 0, []) := by decide +kernel
theorem f198_2 : pm_f 198 2 = some (.iload_n 1, 1, 1, 0, 0, []) := by decide +kernel
theorem f198_3 : pm_f 198 3 = some (.aload_n 0, 1, 0, 0, 0, []) := by decide +kernel
theorem f198_4 : pm_f 198 4 = some (.getfield 138, 3, 8, 42, 0, []) := by decide +kernel
theorem f198_7 : pm_f 198 7 = some (.if_icmp .ge 31, 3, 38, 0, 0, []) := by decide +kernel
theorem f198_10 : pm_f 198 10 = some (.aload_n 0, 1, 0, 0, 0, []) := by decide +kernel
theorem f198_11 : pm_f 198 11 = some (.getfield 35, 3, 8, 8, 2, []) := by decide +kernel
theorem f198_14 : pm_f 198 14 = some (.aload_n 0, 1, 0, 0, 0, []) := by decide +kernel
theorem f198_15 : pm_f 198 15 = some (.getfield 147, 3, 8, 45, 2, []) := by decide +kernel
theorem f198_18 : pm_f 198 18 = some (.iload_n 1, 1, 1, 0, 0, []) := by decide +kernel
theorem f198_19 : pm_f 198 19 = some (.iaload, 1, 0, 0, 0, []) := by decide +kernel
theorem f198_20 : pm_f 198 20 = some (.iaload, 1, 0, 0, 0, []) := by decide +kernel
theorem f198_21 : pm_f 198 21 = some (.aload_n 0, 1, 0, 0, 0, []) := by decide +kernel
theorem f198_22 : pm_f 198 22 = some (.getfield 150, 3, 8, 46, 2, []) := by decide +kernel
theorem f198_25 : pm_f 198 25 = some (.iload_n 1, 1, 1, 0, 0, []) := by decide +kernel
theorem f198_26 : pm_f 198 26 = some (.iaload, 1, 0, 0, 0, []) := by decide +kernel
theorem f198_27 : pm_f 198 27 = some (.if_icmp .eq 5, 3, 32, 0, 0, []) := by decide +kernel
theorem f198_30 : pm_f 198 30 = some (.iload_n 1, 1, 1, 0, 0, []) := by decide +kernel
theorem f198_31 : pm_f 198 31 = some (.ireturn, 1, 0, 0, 0, []) := by decide +kernel
theorem f198_32 : pm_f 198 32 = some (.iinc 1 1, 3, 1, 0, 1, []) := by decide +kernel
theorem f198_35 : pm_f 198 35 = some (.goto (-33), 3, 2, 0, 0, []) := by decide +kernel
theorem f198_38 : pm_f 198 38 = some (.bipush (-5), 2, 0, 0, (-5), []) := by decide +kernel
theorem f198_40 : pm_f 198 40 = some (.ireturn, 1, 0, 0, 0, []) := by decide +kernel
theorem f199_0 : pm_f 199 0 = some (.aload_n 0, 1, 0, 0, 0, []) := by decide +kernel
theorem f199_1 : pm_f 199 1 = some (.iload_n 1, 1, 1, 0, 0, []) := by decide +kernel
theorem f199_2 : pm_f 199 2 = some (.invokevirtual 406, 3, 214, 1, 8, []) := by decide +kernel
theorem f199_5 : pm_f 199 5 = some (.ifCond .ne 5, 3, 10, 0, 0, []) := by decide +kernel
theorem f199_8 : pm_f 199 8 = some (.iconst (-1), 1, 0, 0, (-1), []) := by decide +kernel
theorem f199_9 : pm_f 199 9 = some (.ireturn, 1, 0, 0, 0, []) := by decide +kernel
theorem f199_10 : pm_f 199 10 = some (.aload_n 0, 1, 0, 0, 0, []) := by decide +kernel
theorem f199_11 : pm_f 199 11 = some (.getfield 226, 3, 8, 71, 2, []) := by decide +kernel
theorem f199_14 : pm_f 199 14 = some (.iload_n 1, 1, 1, 0, 0, []) := by decide +kernel
theorem f199_15 : pm_f 199 15 = some (.iaload, 1, 0, 0, 0, []) := by decide +kernel
theorem f199_16 : pm_f 199 16 = some (.ifCond .lt 16, 3, 32, 0, 0, []) := by decide +kernel
theorem f199_19 : pm_f 199 19 = some (.aload_n 0, 1, 0, 0, 0, []) := by decide +kernel
theorem f199_20 : pm_f 199 20 = some (.getfield 226, 3, 8, 71, 2, []) := by decide +kernel
theorem f199_23 : pm_f 199 23 = some (.iload_n 1, 1, 1, 0, 0, []) := by decide +kernel
theorem f199_24 : pm_f 199 24 = some (.iaload, 1, 0, 0, 0, []) := by decide +kernel
theorem f199_25 : pm_f 199 25 = some (.iconst 1, 1, 0, 0, 1, []) := by decide +kernel
theorem f199_26 : pm_f 199 26 = some (.if_icmp .eq 6, 3, 32, 0, 0, []) := by decide +kernel
theorem f199_29 : pm_f 199 29 = some (.bipush (-12), 2, 0, 0, (-12), []) := by decide +kernel
theorem f199_31 : pm_f 199 31 = some (.ireturn, 1, 0, 0, 0, []) := by decide +kernel
theorem f199_32 : pm_f 199 32 = some (.iconst 0, 1, 0, 0, 0, []) := by decide +kernel
theorem f199_33 : pm_f 199 33 = some (.istore_n 3, 1, 3, 0, 0, []) := by decide +kernel
theorem f199_34 : pm_f 199 34 = some (.iload_n 3, 1, 3, 0, 0, []) := by decide +kernel
theorem f199_35 : pm_f 199 35 = some (.aload_n 0, 1, 0, 0, 0, []) := by decide +kernel
theorem f199_36 : pm_f 199 36 = some (.getfield 7, 3, 8, 0, 0, []) := by decide +kernel
theorem f199_39 : pm_f 199 39 = some (.if_icmp .ge 67, 3, 106, 0, 0, []) := by decide +kernel
theorem f199_42 : pm_f 199 42 = some (.aload_n 0, 1, 0, 0, 0, []) := by decide +kernel
theorem f199_43 : pm_f 199 43 = some (.getfield 226, 3, 8, 71, 2, []) := by decide +kernel
theorem f199_46 : pm_f 199 46 = some (.iload_n 1, 1, 1, 0, 0, []) := by decide +kernel
theorem f199_47 : pm_f 199 47 = some (.iaload, 1, 0, 0, 0, []) := by decide +kernel
theorem f199_48 : pm_f 199 48 = some (.ifCond .lt 21, 3, 69, 0, 0, []) := by decide +kernel
theorem f199_51 : pm_f 199 51 = some (.iload_n 2, 1, 2, 0, 0, []) := by decide +kernel
theorem f199_52 : pm_f 199 52 = some (.ifCond .lt 17, 3, 69, 0, 0, []) := by decide +kernel
theorem f199_55 : pm_f 199 55 = some (.iload_n 2, 1, 2, 0, 0, []) := by decide +kernel
theorem f199_56 : pm_f 199 56 = some (.aload_n 0, 1, 0, 0, 0, []) := by decide +kernel
theorem f199_57 : pm_f 199 57 = some (.getfield 229, 3, 8, 72, 2, []) := by decide +kernel
theorem f199_60 : pm_f 199 60 = some (.iload_n 1, 1, 1, 0, 0, []) := by decide +kernel
theorem f199_61 : pm_f 199 61 = some (.iaload, 1, 0, 0, 0, []) := by decide +kernel
theorem f199_62 : pm_f 199 62 = some (.iload_n 3, 1, 3, 0, 0, []) := by decide +kernel
theorem f199_63 : pm_f 199 63 = some (.isub, 1, 0, 0, 0, []) := by decide +kernel
theorem f199_64 : pm_f 199 64 = some (.iconst 1, 1, 0, 0, 1, []) := by decide +kernel
theorem f199_65 : pm_f 199 65 = some (.isub, 1, 0, 0, 0, []) := by decide +kernel
theorem f199_66 : pm_f 199 66 = some (.if_icmp .le 8, 3, 74, 0, 0, []) := by decide +kernel
theorem f199_69 : pm_f 199 69 = some (.bipush 100, 2, 0, 0, 100, []) := by decide +kernel
theorem f199_71 : pm_f 199 71 = some (.iload_n 3, 1, 3, 0, 0, []) := by decide +kernel
theorem f199_72 : pm_f 199 72 = some (.iadd, 1, 0, 0, 0, []) := by decide +kernel
theorem f199_73 : pm_f 199 73 = some (.ireturn, 1, 0, 0, 0, []) := by decide +kernel
theorem f199_74 : pm_f 199 74 = some (.aload_n 0, 1, 0, 0, 0, []) := by decide +kernel
theorem f199_75 : pm_f 199 75 = some (.getfield 232, 3, 8, 73, 2, []) := by decide +kernel
theorem f199_78 : pm_f 199 78 = some (.bipush 60, 2, 0, 0, 60, []) := by decide +kernel
theorem f199_80 : pm_f 199 80 = some (.iload_n 1, 1, 1, 0, 0, []) := by decide +kernel
theorem f199_81 : pm_f 199 81 = some (.imul, 1, 0, 0, 0, []) := by decide +kernel
theorem f199_82 : pm_f 199 82 = some (.iload_n 2, 1, 2, 0, 0, []) := by decide +kernel
theorem f199_83 : pm_f 199 83 = some (.iadd, 1, 0, 0, 0, []) := by decide +kernel
theorem f199_84 : pm_f 199 84 = some (.iload_n 3, 1, 3, 0, 0, []) := by decide +kernel
theorem f199_85 : pm_f 199 85 = some (.iadd, 1, 0, 0, 0, []) := by decide +kernel
theorem f199_86 : pm_f 199 86 = some (.laload, 1, 0, 0, 0, []) := by decide +kernel
theorem f199_87 : pm_f 199 87 = some (.aload_n 0, 1, 0, 0, 0, []) := by decide +kernel
theorem f199_88 : pm_f 199 88 = some (.getfield 35, 3, 8, 8, 2, []) := by decide +kernel
theorem f199_91 : pm_f 199 91 = some (.iload_n 3, 1, 3, 0, 0, []) := by decide +kernel
theorem f199_92 : pm_f 199 92 = some (.iaload, 1, 0, 0, 0, []) := by decide +kernel
theorem f199_93 : pm_f 199 93 = some (.i2l, 1, 0, 0, 0, []) := by decide +kernel
theorem f199_94 : pm_f 199 94 = some (.lcmp, 1, 0, 0, 0, []) := by decide +kernel
theorem f199_95 : pm_f 199 95 = some (.ifCond .eq 5, 3, 100, 0, 0, []) := by decide +kernel
theorem f199_98 : pm_f 199 98 = some (.iload_n 3, 1, 3, 0, 0, []) := by decide +kernel
theorem f199_99 : pm_f 199 99 = some (.ireturn, 1, 0, 0, 0, []) := by decide +kernel
theorem f199_100 : pm_f 199 100 = some (.iinc 3 1, 3, 3, 0, 1, []) := by decide +kernel
theorem f199_103 : pm_f 199 103 = some (.goto (-69), 3, 34, 0, 0, []) := by decide +kernel
theorem f199_106 : pm_f 199 106 = some (.bipush (-5), 2, 0, 0, (-5), []) := by decide +kernel
theorem f199_108 : pm_f 199 108 = some (.ireturn, 1, 0, 0, 0, []) := by decide +kernel
theorem f200_0 : pm_f 200 0 = some (.aload_n 0, 1, 0, 0, 0, []) := by decide +kernel
theorem f200_1 : pm_f 200 1 = some (.iconst 1, 1, 0, 0, 1, []) := by decide +kernel
theorem f200_2 : pm_f 200 2 = some (.putfield 153, 3, 8, 47, 1, []) := by decide +kernel
theorem f200_5 : pm_f 200 5 = some (.aload_n 0, 1, 0, 0, 0, []) := by decide +kernel
theorem f200_6 : pm_f 200 6 = some (.aload_n 0, 1, 0, 0, 0, []) := by decide +kernel
theorem f200_7 : pm_f 200 7 = some (.getfield 44, 3, 8, 11, 0, []) := by decide +kernel
theorem f200_10 : pm_f 200 10 = some (.putfield 157, 3, 8, 48, 0, []) := by decide +kernel
theorem f200_13 : pm_f 200 13 = some (.aload_n 0, 1, 0, 0, 0, []) := by decide +kernel
theorem f200_14 : pm_f 200 14 = some (.aload_n 0, 1, 0, 0, 0, []) := by decide +kernel
theorem f200_15 : pm_f 200 15 = some (.getfield 7, 3, 8, 0, 0, []) := by decide +kernel
theorem f200_18 : pm_f 200 18 = some (.putfield 160, 3, 8, 49, 0, []) := by decide +kernel
theorem f200_21 : pm_f 200 21 = some (.aload_n 0, 1, 0, 0, 0, []) := by decide +kernel
theorem f200_22 : pm_f 200 22 = some (.aload_n 0, 1, 0, 0, 0, []) := by decide +kernel
theorem f200_23 : pm_f 200 23 = some (.getfield 13, 3, 8, 1, 0, []) := by decide +kernel
theorem f200_26 : pm_f 200 26 = some (.putfield 163, 3, 8, 50, 0, []) := by decide +kernel
theorem f200_29 : pm_f 200 29 = some (.aload_n 0, 1, 0, 0, 0, []) := by decide +kernel
theorem f200_30 : pm_f 200 30 = some (.aload_n 0, 1, 0, 0, 0, []) := by decide +kernel
theorem f200_31 : pm_f 200 31 = some (.getfield 16, 3, 8, 2, 0, []) := by decide +kernel
theorem f200_34 : pm_f 200 34 = some (.putfield 166, 3, 8, 51, 0, []) := by decide +kernel
theorem f200_37 : pm_f 200 37 = some (.aload_n 0, 1, 0, 0, 0, []) := by decide +kernel
theorem f200_38 : pm_f 200 38 = some (.aload_n 0, 1, 0, 0, 0, []) := by decide +kernel
theorem f200_39 : pm_f 200 39 = some (.getfield 19, 3, 8, 3, 0, []) := by decide +kernel
theorem f200_42 : pm_f 200 42 = some (.putfield 169, 3, 8, 52, 0, []) := by decide +kernel
theorem f200_45 : pm_f 200 45 = some (.aload_n 0, 1, 0, 0, 0, []) := by decide +kernel
theorem f200_46 : pm_f 200 46 = some (.aload_n 0, 1, 0, 0, 0, []) := by decide +kernel
theorem f200_47 : pm_f 200 47 = some (.getfield 123, 3, 8, 37, 0, []) := by decide +kernel
theorem f200_50 : pm_f 200 50 = some (.putfield 172, 3, 8, 53, 0, []) := by decide +kernel
theorem f200_53 : pm_f 200 53 = some (.aload_n 0, 1, 0, 0, 0, []) := by decide +kernel
theorem f200_54 : pm_f 200 54 = some (.aload_n 0, 1, 0, 0, 0, []) := by decide +kernel
theorem f200_55 : pm_f 200 55 = some (.getfield 135, 3, 8, 41, 0, []) := by decide +kernel
theorem f200_58 : pm_f 200 58 = some (.putfield 175, 3, 8, 54, 0, []) := by decide +kernel
theorem f200_61 : pm_f 200 61 = some (.aload_n 0, 1, 0, 0, 0, []) := by decide +kernel
theorem f200_62 : pm_f 200 62 = some (.aload_n 0, 1, 0, 0, 0, []) := by decide +kernel
theorem f200_63 : pm_f 200 63 = some (.getfield 138, 3, 8, 42, 0, []) := by decide +kernel
theorem f200_66 : pm_f 200 66 = some (.putfield 178, 3, 8, 55, 0, []) := by decide +kernel
theorem f200_69 : pm_f 200 69 = some (.iconst 0, 1, 0, 0, 0, []) := by decide +kernel
theorem f200_70 : pm_f 200 70 = some (.istore_n 1, 1, 1, 0, 0, []) := by decide +kernel
theorem f200_71 : pm_f 200 71 = some (.iload_n 1, 1, 1, 0, 0, []) := by decide +kernel
theorem f200_72 : pm_f 200 72 = some (.bipush 6, 2, 0, 0, 6, []) := by decide +kernel
theorem f200_74 : pm_f 200 74 = some (.if_icmp .ge 69, 3, 143, 0, 0, []) := by decide +kernel
theorem f200_77 : pm_f 200 77 = some (.aload_n 0, 1, 0, 0, 0, []) := by decide +kernel
theorem f200_78 : pm_f 200 78 = some (.getfield 181, 3, 8, 56, 2, []) := by decide +kernel
theorem f200_81 : pm_f 200 81 = some (.iload_n 1, 1, 1, 0, 0, []) := by decide +kernel
theorem f200_82 : pm_f 200 82 = some (.aload_n 0, 1, 0, 0, 0, []) := by decide +kernel
theorem f200_83 : pm_f 200 83 = some (.getfield 22, 3, 8, 4, 2, []) := by decide +kernel
theorem f200_86 : pm_f 200 86 = some (.iload_n 1, 1, 1, 0, 0, []) := by decide +kernel
theorem f200_87 : pm_f 200 87 = some (.iaload, 1, 0, 0, 0, []) := by decide +kernel
theorem f200_88 : pm_f 200 88 = some (.iastore, 1, 0, 0, 0, []) := by decide +kernel
theorem f200_89 : pm_f 200 89 = some (.aload_n 0, 1, 0, 0, 0, []) := by decide +kernel
theorem f200_90 : pm_f 200 90 = some (.getfield 184, 3, 8, 57, 2, []) := by decide +kernel
theorem f200_93 : pm_f 200 93 = some (.iload_n 1, 1, 1, 0, 0, []) := by decide +kernel
theorem f200_94 : pm_f 200 94 = some (.aload_n 0, 1, 0, 0, 0, []) := by decide +kernel
theorem f200_95 : pm_f 200 95 = some (.getfield 26, 3, 8, 5, 2, []) := by decide +kernel
theorem f200_98 : pm_f 200 98 = some (.iload_n 1, 1, 1, 0, 0, []) := by decide +kernel
theorem f200_99 : pm_f 200 99 = some (.iaload, 1, 0, 0, 0, []) := by decide +kernel
theorem f200_100 : pm_f 200 100 = some (.iastore, 1, 0, 0, 0, []) := by decide +kernel
theorem f200_101 : pm_f 200 101 = some (.aload_n 0, 1, 0, 0, 0, []) := by decide +kernel
theorem f200_102 : pm_f 200 102 = some (.getfield 187, 3, 8, 58, 2, []) := by decide +kernel
theorem f200_105 : pm_f 200 105 = some (.iload_n 1, 1, 1, 0, 0, []) := by decide +kernel
theorem f200_106 : pm_f 200 106 = some (.aload_n 0, 1, 0, 0, 0, []) := by decide +kernel
theorem f200_107 : pm_f 200 107 = some (.getfield 29, 3, 8, 6, 2, []) := by decide +kernel
theorem f200_110 : pm_f 200 110 = some (.iload_n 1, 1, 1, 0, 0, []) := by decide +kernel
theorem f200_111 : pm_f 200 111 = some (.iaload, 1, 0, 0, 0, []) := by decide +kernel
theorem f200_112 : pm_f 200 112 = some (.iastore, 1, 0, 0, 0, []) := by decide +kernel
theorem f200_113 : pm_f 200 113 = some (.aload_n 0, 1, 0, 0, 0, []) := by decide +kernel
theorem f200_114 : pm_f 200 114 = some (.getfield 190, 3, 8, 59, 2, []) := by decide +kernel
theorem f200_117 : pm_f 200 117 = some (.iload_n 1, 1, 1, 0, 0, []) := by decide +kernel
theorem f200_118 : pm_f 200 118 = some (.aload_n 0, 1, 0, 0, 0, []) := by decide +kernel
theorem f200_119 : pm_f 200 119 = some (.getfield 32, 3, 8, 7, 2, []) := by decide +kernel
theorem f200_122 : pm_f 200 122 = some (.iload_n 1, 1, 1, 0, 0, []) := by decide +kernel
theorem f200_123 : pm_f 200 123 = some (.iaload, 1, 0, 0, 0, []) := by decide +kernel
theorem f200_124 : pm_f 200 124 = some (.iastore, 1, 0, 0, 0, []) := by decide +kernel
theorem f200_125 : pm_f 200 125 = some (.aload_n 0, 1, 0, 0, 0, []) := by decide +kernel
theorem f200_126 : pm_f 200 126 = some (.getfield 193, 3, 8, 60, 2, []) := by decide +kernel
theorem f200_129 : pm_f 200 129 = some (.iload_n 1, 1, 1, 0, 0, []) := by decide +kernel
theorem f200_130 : pm_f 200 130 = some (.aload_n 0, 1, 0, 0, 0, []) := by decide +kernel
theorem f200_131 : pm_f 200 131 = some (.getfield 35, 3, 8, 8, 2, []) := by decide +kernel
theorem f200_134 : pm_f 200 134 = some (.iload_n 1, 1, 1, 0, 0, []) := by decide +kernel
theorem f200_135 : pm_f 200 135 = some (.iaload, 1, 0, 0, 0, []) := by decide +kernel
theorem f200_136 : pm_f 200 136 = some (.iastore, 1, 0, 0, 0, []) := by decide +kernel
theorem f200_137 : pm_f 200 137 = some (.iinc 1 1, 3, 1, 0, 1, []) := by decide +kernel
theorem f200_140 : pm_f 200 140 = some (.goto (-69), 3, 71, 0, 0, []) := by decide +kernel
theorem f200_143 : pm_f 200 143 = some (.iconst 0, 1, 0, 0, 0, []) := by decide +kernel
theorem f200_144 : pm_f 200 144 = some (.istore_n 1, 1, 1, 0, 0, []) := by decide +kernel
theorem f200_145 : pm_f 200 145 = some (.iload_n 1, 1, 1, 0, 0, []) := by decide +kernel
theorem f200_146 : pm_f 200 146 = some (.bipush 24, 2, 0, 0, 24, []) := by decide +kernel
theorem f200_148 : pm_f 200 148 = some (.if_icmp .ge 21, 3, 169, 0, 0, []) := by decide +kernel
theorem f200_151 : pm_f 200 151 = some (.aload_n 0, 1, 0, 0, 0, []) := by decide +kernel
theorem f200_152 : pm_f 200 152 = some (.getfield 196, 3, 8, 61, 2, []) := by decide +kernel
theorem f200_155 : pm_f 200 155 = some (.iload_n 1, 1, 1, 0, 0, []) := by decide +kernel
theorem f200_156 : pm_f 200 156 = some (.aload_n 0, 1, 0, 0, 0, []) := by decide +kernel
theorem f200_157 : pm_f 200 157 = some (.getfield 38, 3, 8, 9, 2, []) := by decide +kernel
theorem f200_160 : pm_f 200 160 = some (.iload_n 1, 1, 1, 0, 0, []) := by decide +kernel
theorem f200_161 : pm_f 200 161 = some (.iaload, 1, 0, 0, 0, []) := by decide +kernel
theorem f200_162 : pm_f 200 162 = some (.iastore, 1, 0, 0, 0, []) := by decide +kernel
theorem f200_163 : pm_f 200 163 = some (.iinc 1 1, 3, 1, 0, 1, []) := by decide +kernel
theorem f200_166 : pm_f 200 166 = some (.goto (-21), 3, 145, 0, 0, []) := by decide +kernel
theorem f200_169 : pm_f 200 169 = some (.iconst 0, 1, 0, 0, 0, []) := by decide +kernel
theorem f200_170 : pm_f 200 170 = some (.istore_n 1, 1, 1, 0, 0, []) := by decide +kernel
theorem f200_171 : pm_f 200 171 = some (.iload_n 1, 1, 1, 0, 0, []) := by decide +kernel
theorem f200_172 : pm_f 200 172 = some (.iconst 5, 1, 0, 0, 5, []) := by decide +kernel
theorem f200_173 : pm_f 200 173 = some (.if_icmp .ge 45, 3, 218, 0, 0, []) := by decide +kernel
theorem f200_176 : pm_f 200 176 = some (.aload_n 0, 1, 0, 0, 0, []) := by decide +kernel
theorem f200_177 : pm_f 200 177 = some (.getfield 199, 3, 8, 62, 2, []) := by decide +kernel
theorem f200_180 : pm_f 200 180 = some (.iload_n 1, 1, 1, 0, 0, []) := by decide +kernel
theorem f200_181 : pm_f 200 181 = some (.aload_n 0, 1, 0, 0, 0, []) := by decide +kernel
theorem f200_182 : pm_f 200 182 = some (.getfield 126, 3, 8, 38, 2, []) := by decide +kernel
theorem f200_185 : pm_f 200 185 = some (.iload_n 1, 1, 1, 0, 0, []) := by decide +kernel
theorem f200_186 : pm_f 200 186 = some (.iaload, 1, 0, 0, 0, []) := by decide +kernel
theorem f200_187 : pm_f 200 187 = some (.iastore, 1, 0, 0, 0, []) := by decide +kernel
theorem f200_188 : pm_f 200 188 = some (.aload_n 0, 1, 0, 0, 0, []) := by decide +kernel
theorem f200_189 : pm_f 200 189 = some (.getfield 202, 3, 8, 63, 2, []) := by decide +kernel
theorem f200_192 : pm_f 200 192 = some (.iload_n 1, 1, 1, 0, 0, []) := by decide +kernel
theorem f200_193 : pm_f 200 193 = some (.aload_n 0, 1, 0, 0, 0, []) := by decide +kernel
theorem f200_194 : pm_f 200 194 = some (.getfield 129, 3, 8, 39, 2, []) := by decide +kernel
theorem f200_197 : pm_f 200 197 = some (.iload_n 1, 1, 1, 0, 0, []) := by decide +kernel
theorem f200_198 : pm_f 200 198 = some (.iaload, 1, 0, 0, 0, []) := by decide +kernel
theorem f200_199 : pm_f 200 199 = some (.iastore, 1, 0, 0, 0, []) := by decide +kernel
theorem f200_200 : pm_f 200 200 = some (.aload_n 0, 1, 0, 0, 0, []) := by decide +kernel
theorem f200_201 : pm_f 200 201 = some (.getfield 205, 3, 8, 64, 2, []) := by decide +kernel
theorem f200_204 : pm_f 200 204 = some (.iload_n 1, 1, 1, 0, 0, []) := by decide +kernel
theorem f200_205 : pm_f 200 205 = some (.aload_n 0, 1, 0, 0, 0, []) := by decide +kernel
theorem f200_206 : pm_f 200 206 = some (.getfield 132, 3, 8, 40, 2, []) := by decide +kernel
theorem f200_209 : pm_f 200 209 = some (.iload_n 1, 1, 1, 0, 0, []) := by decide +kernel
theorem f200_210 : pm_f 200 210 = some (.iaload, 1, 0, 0, 0, []) := by decide +kernel
theorem f200_211 : pm_f 200 211 = some (.iastore, 1, 0, 0, 0, []) := by decide +kernel
theorem f200_212 : pm_f 200 212 = some (.iinc 1 1, 3, 1, 0, 1, []) := by decide +kernel
theorem f200_215 : pm_f 200 215 = some (.goto (-44), 3, 171, 0, 0, []) := by decide +kernel
theorem f200_218 : pm_f 200 218 = some (.iconst 0, 1, 0, 0, 0, []) := by decide +kernel
theorem f200_219 : pm_f 200 219 = some (.istore_n 1, 1, 1, 0, 0, []) := by decide +kernel
theorem f200_220 : pm_f 200 220 = some (.iload_n 1, 1, 1, 0, 0, []) := by decide +kernel
theorem f200_221 : pm_f 200 221 = some (.bipush 10, 2, 0, 0, 10, []) := by decide +kernel
theorem f200_223 : pm_f 200 223 = some (.if_icmp .ge 33, 3, 256, 0, 0, []) := by decide +kernel
theorem f200_226 : pm_f 200 226 = some (.aload_n 0, 1, 0, 0, 0, []) := by decide +kernel
theorem f200_227 : pm_f 200 227 = some (.getfield 208, 3, 8, 65, 2, []) := by decide +kernel
theorem f200_230 : pm_f 200 230 = some (.iload_n 1, 1, 1, 0, 0, []) := by decide +kernel
theorem f200_231 : pm_f 200 231 = some (.aload_n 0, 1, 0, 0, 0, []) := by decide +kernel
theorem f200_232 : pm_f 200 232 = some (.getfield 141, 3, 8, 43, 2, []) := by decide +kernel
theorem f200_235 : pm_f 200 235 = some (.iload_n 1, 1, 1, 0, 0, []) := by decide +kernel
theorem f200_236 : pm_f 200 236 = some (.iaload, 1, 0, 0, 0, []) := by decide +kernel
theorem f200_237 : pm_f 200 237 = some (.iastore, 1, 0, 0, 0, []) := by decide +kernel
theorem f200_238 : pm_f 200 238 = some (.aload_n 0, 1, 0, 0, 0, []) := by decide +kernel
theorem f200_239 : pm_f 200 239 = some (.getfield 211, 3, 8, 66, 2, []) := by decide +kernel
theorem f200_242 : pm_f 200 242 = some (.iload_n 1, 1, 1, 0, 0, []) := by decide +kernel
theorem f200_243 : pm_f 200 243 = some (.aload_n 0, 1, 0, 0, 0, []) := by decide +kernel
theorem f200_244 : pm_f 200 244 = some (.getfield 144, 3, 8, 44, 2, []) := by decide +kernel
theorem f200_247 : pm_f 200 247 = some (.iload_n 1, 1, 1, 0, 0, []) := by decide +kernel
theorem f200_248 : pm_f 200 248 = some (.iaload, 1, 0, 0, 0, []) := by decide +kernel
theorem f200_249 : pm_f 200 249 = some (.iastore, 1, 0, 0, 0, []) := by decide +kernel
theorem f200_250 : pm_f 200 250 = some (.iinc 1 1, 3, 1, 0, 1, []) := by decide +kernel
theorem f200_253 : pm_f 200 253 = some (.goto (-33), 3, 220, 0, 0, []) := by decide +kernel
theorem f200_256 : pm_f 200 256 = some (.iconst 0, 1, 0, 0, 0, []) := by decide +kernel
theorem f200_257 : pm_f 200 257 = some (.istore_n 1, 1, 1, 0, 0, []) := by decide +kernel
theorem f200_258 : pm_f 200 258 = some (.iload_n 1, 1, 1, 0, 0, []) := by decide +kernel
theorem f200_259 : pm_f 200 259 = some (.bipush 8, 2, 0, 0, 8, []) := by decide +kernel
theorem f200_261 : pm_f 200 261 = some (.if_icmp .ge 33, 3, 294, 0, 0, []) := by decide +kernel
theorem f200_264 : pm_f 200 264 = some (.aload_n 0, 1, 0, 0, 0, []) := by decide +kernel
theorem f200_265 : pm_f 200 265 = some (.getfield 214, 3, 8, 67, 2, []) := by decide +kernel
theorem f200_268 : pm_f 200 268 = some (.iload_n 1, 1, 1, 0, 0, []) := by decide +kernel
theorem f200_269 : pm_f 200 269 = some (.aload_n 0, 1, 0, 0, 0, []) := by decide +kernel
theorem f200_270 : pm_f 200 270 = some (.getfield 147, 3, 8, 45, 2, []) := by decide +kernel
theorem f200_273 : pm_f 200 273 = some (.iload_n 1, 1, 1, 0, 0, []) := by decide +kernel
theorem f200_274 : pm_f 200 274 = some (.iaload, 1, 0, 0, 0, []) := by decide +kernel
theorem f200_275 : pm_f 200 275 = some (.iastore, 1, 0, 0, 0, []) := by decide +kernel
theorem f200_276 : pm_f 200 276 = some (.aload_n 0, 1, 0, 0, 0, []) := by decide +kernel
theorem f200_277 : pm_f 200 277 = some (.getfield 217, 3, 8, 68, 2, []) := by decide +kernel
theorem f200_280 : pm_f 200 280 = some (.iload_n 1, 1, 1, 0, 0, []) := by decide +kernel
theorem f200_281 : pm_f 200 281 = some (.aload_n 0, 1, 0, 0, 0, []) := by decide +kernel
theorem f200_282 : pm_f 200 282 = some (.getfield 150, 3, 8, 46, 2, []) := by decide +kernel
theorem f200_285 : pm_f 200 285 = some (.iload_n 1, 1, 1, 0, 0, []) := by decide +kernel
theorem f200_286 : pm_f 200 286 = some (.iaload, 1, 0, 0, 0, []) := by decide +kernel
theorem f200_287 : pm_f 200 287 = some (.iastore, 1, 0, 0, 0, []) := by decide +kernel
theorem f200_288 : pm_f 200 288 = some (.iinc 1 1, 3, 1, 0, 1, []) := by decide +kernel
theorem f200_291 : pm_f 200 291 = some (.goto (-33), 3, 258, 0, 0, []) := by decide +kernel
theorem f200_294 : pm_f 200 294 = some (.aload_n 0, 1, 0, 0, 0, []) := by decide +kernel
theorem f200_295 : pm_f 200 295 = some (.getfield 7, 3, 8, 0, 0, []) := by decide +kernel
theorem f200_298 : pm_f 200 298 = some (.ireturn, 1, 0, 0, 0, []) := by decide +kernel
theorem f201_0 : pm_f 201 0 = some (.aload_n 0, 1, 0, 0, 0, []) := by decide +kernel
theorem f201_1 : pm_f 201 1 = some (.getfield 153, 3, 8, 47, 0, []) := by decide +kernel
theorem f201_4 : pm_f 201 4 = some (.ifCond .ne 6, 3, 10, 0, 0, []) := by decide +kernel
theorem f201_7 : pm_f 201 7 = some (.bipush (-3), 2, 0, 0, (-3), []) := by decide +kernel
theorem f201_9 : pm_f 201 9 = some (.ireturn, 1, 0, 0, 0, []) := by decide +kernel
theorem f201_10 : pm_f 201 10 = some (.aload_n 0, 1, 0, 0, 0, []) := by decide +kernel
theorem f201_11 : pm_f 201 11 = some (.aload_n 0, 1, 0, 0, 0, []) := by decide +kernel
theorem f201_12 : pm_f 201 12 = some (.getfield 157, 3, 8, 48, 0, []) := by decide +kernel
theorem f201_15 : pm_f 201 15 = some (.putfield 44, 3, 8, 11, 0, []) := by decide +kernel
theorem f201_18 : pm_f 201 18 = some (.aload_n 0, 1, 0, 0, 0, []) := by decide +kernel
theorem f201_19 : pm_f 201 19 = some (.aload_n 0, 1, 0, 0, 0, []) := by decide +kernel
theorem f201_20 : pm_f 201 20 = some (.getfield 160, 3, 8, 49, 0, []) := by decide +kernel
theorem f201_23 : pm_f 201 23 = some (.putfield 7, 3, 8, 0, 0, []) := by decide +kernel
theorem f201_26 : pm_f 201 26 = some (.aload_n 0, 1, 0, 0, 0, []) := by decide +kernel
theorem f201_27 : pm_f 201 27 = some (.aload_n 0, 1, 0, 0, 0, []) := by decide +kernel
theorem f201_28 : pm_f 201 28 = some (.getfield 163, 3, 8, 50, 0, []) := by decide +kernel
theorem f201_31 : pm_f 201 31 = some (.putfield 13, 3, 8, 1, 0, []) := by decide +kernel
theorem f201_34 : pm_f 201 34 = some (.aload_n 0, 1, 0, 0, 0, []) := by decide +kernel
theorem f201_35 : pm_f 201 35 = some (.aload_n 0, 1, 0, 0, 0, []) := by decide +kernel
theorem f201_36 : pm_f 201 36 = some (.getfield 166, 3, 8, 51, 0, []) := by decide +kernel
theorem f201_39 : pm_f 201 39 = some (.putfield 16, 3, 8, 2, 0, []) := by decide +kernel
theorem f201_42 : pm_f 201 42 = some (.aload_n 0, 1, 0, 0, 0, []) := by decide +kernel
theorem f201_43 : pm_f 201 43 = some (.aload_n 0, 1, 0, 0, 0, []) := by decide +kernel
theorem f201_44 : pm_f 201 44 = some (.getfield 169, 3, 8, 52, 0, []) := by decide +kernel
theorem f201_47 : pm_f 201 47 = some (.putfield 19, 3, 8, 3, 0, []) := by decide +kernel
theorem f201_50 : pm_f 201 50 = some (.aload_n 0, 1, 0, 0, 0, []) := by decide +kernel
theorem f201_51 : pm_f 201 51 = some (.aload_n 0, 1, 0, 0, 0, []) := by decide +kernel
theorem f201_52 : pm_f 201 52 = some (.getfield 172, 3, 8, 53, 0, []) := by decide +kernel
theorem f201_55 : pm_f 201 55 = some (.putfield 123, 3, 8, 37, 0, []) := by decide +kernel
theorem f201_58 : pm_f 201 58 = some (.aload_n 0, 1, 0, 0, 0, []) := by decide +kernel
theorem f201_59 : pm_f 201 59 = some (.aload_n 0, 1, 0, 0, 0, []) := by decide +kernel
theorem f201_60 : pm_f 201 60 = some (.getfield 175, 3, 8, 54, 0, []) := by decide +kernel
theorem f201_63 : pm_f 201 63 = some (.putfield 135, 3, 8, 41, 0, []) := by decide +kernel
theorem f201_66 : pm_f 201 66 = some (.aload_n 0, 1, 0, 0, 0, []) := by decide +kernel
theorem f201_67 : pm_f 201 67 = some (.aload_n 0, 1, 0, 0, 0, []) := by decide +kernel
theorem f201_68 : pm_f 201 68 = some (.getfield 178, 3, 8, 55, 0, []) := by decide +kernel
theorem f201_71 : pm_f 201 71 = some (.putfield 138, 3, 8, 42, 0, []) := by decide +kernel
theorem f201_74 : pm_f 201 74 = some (.iconst 0, 1, 0, 0, 0, []) := by decide +kernel
theorem f201_75 : pm_f 201 75 = some (.istore_n 1, 1, 1, 0, 0, []) := by decide +kernel
theorem f201_76 : pm_f 201 76 = some (.iload_n 1, 1, 1, 0, 0, []) := by decide +kernel
theorem f201_77 : pm_f 201 77 = some (.bipush 6, 2, 0, 0, 6, []) := by decide +kernel
theorem f201_79 : pm_f 201 79 = some (.if_icmp .ge 69, 3, 148, 0, 0, []) := by decide +kernel
theorem f201_82 : pm_f 201 82 = some (.aload_n 0, 1, 0, 0, 0, []) := by decide +kernel
theorem f201_83 : pm_f 201 83 = some (.getfield 22, 3, 8, 4, 2, []) := by decide +kernel
theorem f201_86 : pm_f 201 86 = some (.iload_n 1, 1, 1, 0, 0, []) := by decide +kernel
theorem f201_87 : pm_f 201 87 = some (.aload_n 0, 1, 0, 0, 0, []) := by decide +kernel
theorem f201_88 : pm_f 201 88 = some (.getfield 181, 3, 8, 56, 2, []) := by decide +kernel
theorem f201_91 : pm_f 201 91 = some (.iload_n 1, 1, 1, 0, 0, []) := by decide +kernel
theorem f201_92 : pm_f 201 92 = some (.iaload, 1, 0, 0, 0, []) := by decide +kernel
theorem f201_93 : pm_f 201 93 = some (.iastore, 1, 0, 0, 0, []) := by decide +kernel
theorem f201_94 : pm_f 201 94 = some (.aload_n 0, 1, 0, 0, 0, []) := by decide +kernel
theorem f201_95 : pm_f 201 95 = some (.getfield 26, 3, 8, 5, 2, []) := by decide +kernel
theorem f201_98 : pm_f 201 98 = some (.iload_n 1, 1, 1, 0, 0, []) := by decide +kernel
theorem f201_99 : pm_f 201 99 = some (.aload_n 0, 1, 0, 0, 0, []) := by decide +kernel
theorem f201_100 : pm_f 201 100 = some (.getfield 184, 3, 8, 57, 2, []) := by decide +kernel
theorem f201_103 : pm_f 201 103 = some (.iload_n 1, 1, 1, 0, 0, []) := by decide +kernel
theorem f201_104 : pm_f 201 104 = some (.iaload, 1, 0, 0, 0, []) := by decide +kernel
theorem f201_105 : pm_f 201 105 = some (.iastore, 1, 0, 0, 0, []) := by decide +kernel
theorem f201_106 : pm_f 201 106 = some (.aload_n 0, 1, 0, 0, 0, []) := by decide +kernel
theorem f201_107 : pm_f 201 107 = some (.getfield 29, 3, 8, 6, 2, []) := by decide +kernel
theorem f201_110 : pm_f 201 110 = some (.iload_n 1, 1, 1, 0, 0, []) := by decide +kernel
theorem f201_111 : pm_f 201 111 = some (.aload_n 0, 1, 0, 0, 0, []) := by decide +kernel
theorem f201_112 : pm_f 201 112 = some (.getfield 187, 3, 8, 58, 2, []) := by decide +kernel
theorem f201_115 : pm_f 201 115 = some (.iload_n 1, 1, 1, 0, 0, []) := by decide +kernel
theorem f201_116 : pm_f 201 116 = some (.iaload, 1, 0, 0, 0, []) := by decide +kernel
theorem f201_117 : pm_f 201 117 = some (.iastore, 1, 0, 0, 0, []) := by decide +kernel
theorem f201_118 : pm_f 201 118 = some (.aload_n 0, 1, 0, 0, 0, []) := by decide +kernel
theorem f201_119 : pm_f 201 119 = some (.getfield 32, 3, 8, 7, 2, []) := by decide +kernel
theorem f201_122 : pm_f 201 122 = some (.iload_n 1, 1, 1, 0, 0, []) := by decide +kernel
theorem f201_123 : pm_f 201 123 = some (.aload_n 0, 1, 0, 0, 0, []) := by decide +kernel
theorem f201_124 : pm_f 201 124 = some (.getfield 190, 3, 8, 59, 2, []) := by decide +kernel
theorem f201_127 : pm_f 201 127 = some (.iload_n 1, 1, 1, 0, 0, []) := by decide +kernel
theorem f201_128 : pm_f 201 128 = some (.iaload, 1, 0, 0, 0, []) := by decide +kernel
theorem f201_129 : pm_f 201 129 = some (.iastore, 1, 0, 0, 0, []) := by decide +kernel
theorem f201_130 : pm_f 201 130 = some (.aload_n 0, 1, 0, 0, 0, []) := by decide +kernel
theorem f201_131 : pm_f 201 131 = some (.getfield 35, 3, 8, 8, 2, []) := by decide +kernel
theorem f201_134 : pm_f 201 134 = some (.iload_n 1, 1, 1, 0, 0, []) := by decide +kernel
theorem f201_135 : pm_f 201 135 = some (.aload_n 0, 1, 0, 0, 0, []) := by decide +kernel
theorem f201_136 : pm_f 201 136 = some (.getfield 193, 3, 8, 60, 2, []) := by decide +kernel
theorem f201_139 : pm_f 201 139 = some (.iload_n 1, 1, 1, 0, 0, []) := by decide +kernel
theorem f201_140 : pm_f 201 140 = some (.iaload, 1, 0, 0, 0, []) := by decide +kernel
theorem f201_141 : pm_f 201 141 = some (.iastore, 1, 0, 0, 0, []) := by decide +kernel
theorem f201_142 : pm_f 201 142 = some (.iinc 1 1, 3, 1, 0, 1, []) := by decide +kernel
theorem f201_145 : pm_f 201 145 = some (.goto (-69), 3, 76, 0, 0, []) := by decide +kernel
theorem f201_148 : pm_f 201 148 = some (.iconst 0, 1, 0, 0, 0, []) := by decide +kernel
theorem f201_149 : pm_f 201 149 = some (.istore_n 1, 1, 1, 0, 0, []) := by decide +kernel
theorem f201_150 : pm_f 201 150 = some (.iload_n 1, 1, 1, 0, 0, []) := by decide +kernel
theorem f201_151 : pm_f 201 151 = some (.bipush 24, 2, 0, 0, 24, []) := by decide +kernel
theorem f201_153 : pm_f 201 153 = some (.if_icmp .ge 21, 3, 174, 0, 0, []) := by decide +kernel
theorem f201_156 : pm_f 201 156 = some (.aload_n 0, 1, 0, 0, 0, []) := by decide +kernel
theorem f201_157 : pm_f 201 157 = some (.getfield 38, 3, 8, 9, 2, []) := by decide +kernel
theorem f201_160 : pm_f 201 160 = some (.iload_n 1, 1, 1, 0, 0, []) := by decide +kernel
theorem f201_161 : pm_f 201 161 = some (.aload_n 0, 1, 0, 0, 0, []) := by decide +kernel
theorem f201_162 : pm_f 201 162 = some (.getfield 196, 3, 8, 61, 2, []) := by decide +kernel
theorem f201_165 : pm_f 201 165 = some (.iload_n 1, 1, 1, 0, 0, []) := by decide +kernel
theorem f201_166 : pm_f 201 166 = some (.iaload, 1, 0, 0, 0, []) := by decide +kernel
theorem f201_167 : pm_f 201 167 = some (.iastore, 1, 0, 0, 0, []) := by decide +kernel
theorem f201_168 : pm_f 201 168 = some (.iinc 1 1, 3, 1, 0, 1, []) := by decide +kernel
theorem f201_171 : pm_f 201 171 = some (.goto (-21), 3, 150, 0, 0, []) := by decide +kernel
theorem f201_174 : pm_f 201 174 = some (.iconst 0, 1, 0, 0, 0, []) := by decide +kernel
theorem f201_175 : pm_f 201 175 = some (.istore_n 1, 1, 1, 0, 0, []) := by decide +kernel
theorem f201_176 : pm_f 201 176 = some (.iload_n 1, 1, 1, 0, 0, []) := by decide +kernel
theorem f201_177 : pm_f 201 177 = some (.iconst 5, 1, 0, 0, 5, []) := by decide +kernel
theorem f201_178 : pm_f 201 178 = some (.if_icmp .ge 45, 3, 223, 0, 0, []) := by decide +kernel
theorem f201_181 : pm_f 201 181 = some (.aload_n 0, 1, 0, 0, 0, []) := by decide +kernel
theorem f201_182 : pm_f 201 182 = some (.getfield 126, 3, 8, 38, 2, []) := by decide +kernel
theorem f201_185 : pm_f 201 185 = some (.iload_n 1, 1, 1, 0, 0, []) := by decide +kernel
theorem f201_186 : pm_f 201 186 = some (.aload_n 0, 1, 0, 0, 0, []) := by decide +kernel
theorem f201_187 : pm_f 201 187 = some (.getfield 199, 3, 8, 62, 2, []) := by decide +kernel
theorem f201_190 : pm_f 201 190 = some (.iload_n 1, 1, 1, 0, 0, []) := by decide +kernel
theorem f201_191 : pm_f 201 191 = some (.iaload, 1, 0, 0, 0, []) := by decide +kernel
theorem f201_192 : pm_f 201 192 = some (.iastore, 1, 0, 0, 0, []) := by decide +kernel
theorem f201_193 : pm_f 201 193 = some (.aload_n 0, 1, 0, 0, 0, []) := by decide +kernel
theorem f201_194 : pm_f 201 194 = some (.getfield 129, 3, 8, 39, 2, []) := by decide +kernel
theorem f201_197 : pm_f 201 197 = some (.iload_n 1, 1, 1, 0, 0, []) := by decide +kernel
theorem f201_198 : pm_f 201 198 = some (.aload_n 0, 1, 0, 0, 0, []) := by decide +kernel
theorem f201_199 : pm_f 201 199 = some (.getfield 202, 3, 8, 63, 2, []) := by decide +kernel
theorem f201_202 : pm_f 201 202 = some (.iload_n 1, 1, 1, 0, 0, []) := by decide +kernel
theorem f201_203 : pm_f 201 203 = some (.iaload, 1, 0, 0, 0, []) := by decide +kernel
theorem f201_204 : pm_f 201 204 = some (.iastore, 1, 0, 0, 0, []) := by decide +kernel
theorem f201_205 : pm_f 201 205 = some (.aload_n 0, 1, 0, 0, 0, []) := by decide +kernel
theorem f201_206 : pm_f 201 206 = some (.getfield 132, 3, 8, 40, 2, []) := by decide +kernel
theorem f201_209 : pm_f 201 209 = some (.iload_n 1, 1, 1, 0, 0, []) := by decide +kernel
theorem f201_210 : pm_f 201 210 = some (.aload_n 0, 1, 0, 0, 0, []) := by decide +kernel
theorem f201_211 : pm_f 201 211 = some (.getfield 205, 3, 8, 64, 2, []) := by decide +kernel
theorem f201_214 : pm_f 201 214 = some (.iload_n 1, 1, 1, 0, 0, []) := by decide +kernel
theorem f201_215 : pm_f 201 215 = some (.iaload, 1, 0, 0, 0, []) := by decide +kernel
theorem f201_216 : pm_f 201 216 = some (.iastore, 1, 0, 0, 0, []) := by decide +kernel
theorem f201_217 : pm_f 201 217 = some (.iinc 1 1, 3, 1, 0, 1, []) := by decide +kernel
theorem f201_220 : pm_f 201 220 = some (.goto (-44), 3, 176, 0, 0, []) := by decide +kernel
theorem f201_223 : pm_f 201 223 = some (.iconst 0, 1, 0, 0, 0, []) := by decide +kernel
theorem f201_224 : pm_f 201 224 = some (.istore_n 1, 1, 1, 0, 0, []) := by decide +kernel
theorem f201_225 : pm_f 201 225 = some (.iload_n 1, 1, 1, 0, 0, []) := by decide +kernel
theorem f201_226 : pm_f 201 226 = some (.bipush 10, 2, 0, 0, 10, []) := by decide +kernel
theorem f201_228 : pm_f 201 228 = some (.if_icmp .ge 33, 3, 261, 0, 0, []) := by decide +kernel
theorem f201_231 : pm_f 201 231 = some (.aload_n 0, 1, 0, 0, 0, []) := by decide +kernel
theorem f201_232 : pm_f 201 232 = some (.getfield 141, 3, 8, 43, 2, []) := by decide +kernel
theorem f201_235 : pm_f 201 235 = some (.iload_n 1, 1, 1, 0, 0, []) := by decide +kernel
theorem f201_236 : pm_f 201 236 = some (.aload_n 0, 1, 0, 0, 0, []) := by decide +kernel
theorem f201_237 : pm_f 201 237 = some (.getfield 208, 3, 8, 65, 2, []) := by decide +kernel
theorem f201_240 : pm_f 201 240 = some (.iload_n 1, 1, 1, 0, 0, []) := by decide +kernel
theorem f201_241 : pm_f 201 241 = some (.iaload, 1, 0, 0, 0, []) := by decide +kernel
theorem f201_242 : pm_f 201 242 = some (.iastore, 1, 0, 0, 0, []) := by decide +kernel
theorem f201_243 : pm_f 201 243 = some (.aload_n 0, 1, 0, 0, 0, []) := by decide +kernel
theorem f201_244 : pm_f 201 244 = some (.getfield 144, 3, 8, 44, 2, []) := by decide +kernel
theorem f201_247 : pm_f 201 247 = some (.iload_n 1, 1, 1, 0, 0, []) := by decide +kernel
theorem f201_248 : pm_f 201 248 = some (.aload_n 0, 1, 0, 0, 0, []) := by decide +kernel
theorem f201_249 : pm_f 201 249 = some (.getfield 211, 3, 8, 66, 2, []) := by decide +kernel
theorem f201_252 : pm_f 201 252 = some (.iload_n 1, 1, 1, 0, 0, []) := by decide +kernel
theorem f201_253 : pm_f 201 253 = some (.iaload, 1, 0, 0, 0, []) := by decide +kernel
theorem f201_254 : pm_f 201 254 = some (.iastore, 1, 0, 0, 0, []) := by decide +kernel
theorem f201_255 : pm_f 201 255 = some (.iinc 1 1, 3, 1, 0, 1, []) := by decide +kernel
theorem f201_258 : pm_f 201 258 = some (.goto (-33), 3, 225, 0, 0, []) := by decide +kernel
theorem f201_261 : pm_f 201 261 = some (.iconst 0, 1, 0, 0, 0, []) := by decide +kernel
theorem f201_262 : pm_f 201 262 = some (.istore_n 1, 1, 1, 0, 0, []) := by decide +kernel
theorem f201_263 : pm_f 201 263 = some (.iload_n 1, 1, 1, 0, 0, []) := by decide +kernel
theorem f201_264 : pm_f 201 264 = some (.bipush 8, 2, 0, 0, 8, []) := by decide +kernel
theorem f201_266 : pm_f 201 266 = some (.if_icmp .ge 33, 3, 299, 0, 0, []) := by decide +kernel
theorem f201_269 : pm_f 201 269 = some (.aload_n 0, 1, 0, 0, 0, []) := by decide +kernel
theorem f201_270 : pm_f 201 270 = some (.getfield 147, 3, 8, 45, 2, []) := by decide +kernel
theorem f201_273 : pm_f 201 273 = some (.iload_n 1, 1, 1, 0, 0, []) := by decide +kernel
theorem f201_274 : pm_f 201 274 = some (.aload_n 0, 1, 0, 0, 0, []) := by decide +kernel
theorem f201_275 : pm_f 201 275 = some (.getfield 214, 3, 8, 67, 2, []) := by decide +kernel
theorem f201_278 : pm_f 201 278 = some (.iload_n 1, 1, 1, 0, 0, []) := by decide +kernel
theorem f201_279 : pm_f 201 279 = some (.iaload, 1, 0, 0, 0, []) := by decide +kernel
theorem f201_280 : pm_f 201 280 = some (.iastore, 1, 0, 0, 0, []) := by decide +kernel
theorem f201_281 : pm_f 201 281 = some (.aload_n 0, 1, 0, 0, 0, []) := by decide +kernel
theorem f201_282 : pm_f 201 282 = some (.getfield 150, 3, 8, 46, 2, []) := by decide +kernel
theorem f201_285 : pm_f 201 285 = some (.iload_n 1, 1, 1, 0, 0, []) := by decide +kernel
theorem f201_286 : pm_f 201 286 = some (.aload_n 0, 1, 0, 0, 0, []) := by decide +kernel
theorem f201_287 : pm_f 201 287 = some (.getfield 217, 3, 8, 68, 2, []) := by decide +kernel
theorem f201_290 : pm_f 201 290 = some (.iload_n 1, 1, 1, 0, 0, []) := by decide +kernel
theorem f201_291 : pm_f 201 291 = some (.iaload, 1, 0, 0, 0, []) := by decide +kernel
theorem f201_292 : pm_f 201 292 = some (.iastore, 1, 0, 0, 0, []) := by decide +kernel
theorem f201_293 : pm_f 201 293 = some (.iinc 1 1, 3, 1, 0, 1, []) := by decide +kernel
theorem f201_296 : pm_f 201 296 = some (.goto (-33), 3, 263, 0, 0, []) := by decide +kernel
theorem f201_299 : pm_f 201 299 = some (.aload_n 0, 1, 0, 0, 0, []) := by decide +kernel
theorem f201_300 : pm_f 201 300 = some (.getfield 7, 3, 8, 0, 0, []) := by decide +kernel
theorem f201_303 : pm_f 201 303 = some (.ireturn, 1, 0, 0, 0, []) := by decide +kernel
theorem f202_0 : pm_f 202 0 = some (.aload_n 0, 1, 0, 0, 0, []) := by decide +kernel
theorem f202_1 : pm_f 202 1 = some (.getfield 220, 3, 8, 69, 0, []) := by decide +kernel
theorem f202_4 : pm_f 202 4 = some (.bipush 20, 2, 0, 0, 20, []) := by decide +kernel
theorem f202_6 : pm_f 202 6 = some (.if_icmp .ge 13, 3, 19, 0, 0, []) := by decide +kernel
theorem f202_9 : pm_f 202 9 = some (.aload_n 0, 1, 0, 0, 0, []) := by decide +kernel
theorem f202_10 : pm_f 202 10 = some (.getfield 223, 3, 8, 70, 2, []) := by decide +kernel
theorem f202_13 : pm_f 202 13 = some (.aload_n 0, 1, 0, 0, 0, []) := by decide +kernel
theorem f202_14 : pm_f 202 14 = some (.getfield 220, 3, 8, 69, 0, []) := by decide +kernel
theorem f202_17 : pm_f 202 17 = some (.iload_n 1, 1, 1, 0, 0, []) := by decide +kernel
theorem f202_18 : pm_f 202 18 = some (.iastore, 1, 0, 0, 0, []) := by decide +kernel
theorem f202_19 : pm_f 202 19 = some (.aload_n 0, 1, 0, 0, 0, []) := by decide +kernel
theorem f202_20 : pm_f 202 20 = some (.dup, 1, 0, 0, 0, []) := by decide +kernel
theorem f202_21 : pm_f 202 21 = some (.getfield 220, 3, 8, 69, 0, []) := by decide +kernel
theorem f202_24 : pm_f 202 24 = some (.iconst 1, 1, 0, 0, 1, []) := by decide +kernel
theorem f202_25 : pm_f 202 25 = some (.iadd, 1, 0, 0, 0, []) := by decide +kernel
theorem f202_26 : pm_f 202 26 = some (.putfield 220, 3, 8, 69, 0, []) := by decide +kernel
theorem f202_29 : pm_f 202 29 = some (.return_, 1, 0, 0, 0, []) := by decide +kernel
theorem f203_0 : pm_f 203 0 = some (.aload_n 0, 1, 0, 0, 0, []) := by decide +kernel
theorem f203_1 : pm_f 203 1 = some (.bipush 10, 2, 0, 0, 10, []) := by decide +kernel
theorem f203_3 : pm_f 203 3 = some (.invokevirtual 409, 3, 202, 1, 8, []) := by decide +kernel
theorem f203_6 : pm_f 203 6 = some (.iload_n 2, 1, 2, 0, 0, []) := by decide +kernel
theorem f203_7 : pm_f 203 7 = some (.iload_n 1, 1, 1, 0, 0, []) := by decide +kernel
theorem f203_8 : pm_f 203 8 = some (.iadd, 1, 0, 0, 0, []) := by decide +kernel
theorem f203_9 : pm_f 203 9 = some (.ireturn, 1, 0, 0, 0, []) := by decide +kernel
theorem f204_0 : pm_f 204 0 = some (.aload_n 0, 1, 0, 0, 0, []) := by decide +kernel
theorem f204_1 : pm_f 204 1 = some (.getfield 22, 3, 8, 4, 2, []) := by decide +kernel
theorem f204_4 : pm_f 204 4 = some (.iload_n 1, 1, 1, 0, 0, []) := by decide +kernel
theorem f204_5 : pm_f 204 5 = some (.iaload, 1, 0, 0, 0, []) := by decide +kernel
theorem f204_6 : pm_f 204 6 = some (.tableswitch 83 2 6 #[34, 83, 49, 34, 63], 34, 89, 0, 0, [(2, 40), (3, 89), (4, 55), (5, 40), (6, 69)]) := by decide +kernel
theorem f204_40 : pm_f 204 40 = some (.aload_n 0, 1, 0, 0, 0, []) := by decide +kernel
theorem f204_41 : pm_f 204 41 = some (.bipush 30, 2, 0, 0, 30, []) := by decide +kernel
theorem f204_43 : pm_f 204 43 = some (.invokevirtual 409, 3, 202, 1, 8, []) := by decide +kernel
theorem f204_46 : pm_f 204 46 = some (.aload_n 0, 1, 0, 0, 0, []) := by decide +kernel
theorem f204_47 : pm_f 204 47 = some (.iload_n 1, 1, 1, 0, 0, []) := by decide +kernel
theorem f204_48 : pm_f 204 48 = some (.iload_n 2, 1, 2, 0, 0, []) := by decide +kernel
theorem f204_49 : pm_f 204 49 = some (.iconst 3, 1, 0, 0, 3, []) := by decide +kernel
theorem f204_50 : pm_f 204 50 = some (.imul, 1, 0, 0, 0, []) := by decide +kernel
theorem f204_51 : pm_f 204 51 = some (.invokevirtual 412, 3, 203, 2, 8, []) := by decide +kernel
theorem f204_54 : pm_f 204 54 = some (.ireturn, 1, 0, 0, 0, []) := by decide +kernel
theorem f204_55 : pm_f 204 55 = some (.aload_n 0, 1, 0, 0, 0, []) := by decide +kernel
theorem f204_56 : pm_f 204 56 = some (.bipush 50, 2, 0, 0, 50, []) := by decide +kernel
theorem f204_58 : pm_f 204 58 = some (.invokevirtual 409, 3, 202, 1, 8, []) := by decide +kernel
theorem f204_61 : pm_f 204 61 = some (.aload_n 0, 1, 0, 0, 0, []) := by decide +kernel
theorem f204_62 : pm_f 204 62 = some (.iload_n 1, 1, 1, 0, 0, []) := by decide +kernel
theorem f204_63 : pm_f 204 63 = some (.iload_n 2, 1, 2, 0, 0, []) := by decide +kernel
theorem f204_64 : pm_f 204 64 = some (.invokevirtual 412, 3, 203, 2, 8, []) := by decide +kernel
theorem f204_67 : pm_f 204 67 = some (.ineg, 1, 0, 0, 0, []) := by decide +kernel
theorem f204_68 : pm_f 204 68 = some (.ireturn, 1, 0, 0, 0, []) := by decide +kernel
theorem f204_69 : pm_f 204 69 = some (.aload_n 0, 1, 0, 0, 0, []) := by decide +kernel
theorem f204_70 : pm_f 204 70 = some (.bipush 71, 2, 0, 0, 71, []) := by decide +kernel
theorem f204_72 : pm_f 204 72 = some (.invokevirtual 409, 3, 202, 1, 8, []) := by decide +kernel
theorem f204_75 : pm_f 204 75 = some (.aload_n 0, 1, 0, 0, 0, []) := by decide +kernel
theorem f204_76 : pm_f 204 76 = some (.iload_n 1, 1, 1, 0, 0, []) := by decide +kernel
theorem f204_77 : pm_f 204 77 = some (.iload_n 2, 1, 2, 0, 0, []) := by decide +kernel
theorem f204_78 : pm_f 204 78 = some (.invokevirtual 412, 3, 203, 2, 8, []) := by decide +kernel
theorem f204_81 : pm_f 204 81 = some (.aload_n 0, 1, 0, 0, 0, []) := by decide +kernel
theorem f204_82 : pm_f 204 82 = some (.getfield 26, 3, 8, 5, 2, []) := by decide +kernel
theorem f204_85 : pm_f 204 85 = some (.iload_n 1, 1, 1, 0, 0, []) := by decide +kernel
theorem f204_86 : pm_f 204 86 = some (.iaload, 1, 0, 0, 0, []) := by decide +kernel
theorem f204_87 : pm_f 204 87 = some (.ixor, 1, 0, 0, 0, []) := by decide +kernel
theorem f204_88 : pm_f 204 88 = some (.ireturn, 1, 0, 0, 0, []) := by decide +kernel
theorem f204_89 : pm_f 204 89 = some (.aload_n 0, 1, 0, 0, 0, []) := by decide +kernel
theorem f204_90 : pm_f 204 90 = some (.iload_n 1, 1, 1, 0, 0, []) := by decide +kernel
theorem f204_91 : pm_f 204 91 = some (.iload_n 2, 1, 2, 0, 0, []) := by decide +kernel
theorem f204_92 : pm_f 204 92 = some (.invokevirtual 412, 3, 203, 2, 8, []) := by decide +kernel
theorem f204_95 : pm_f 204 95 = some (.ireturn, 1, 0, 0, 0, []) := by decide +kernel
theorem f205_0 : pm_f 205 0 = some (.aload_n 0, 1, 0, 0, 0, []) := by decide +kernel
theorem f205_1 : pm_f 205 1 = some (.bipush 11, 2, 0, 0, 11, []) := by decide +kernel
theorem f205_3 : pm_f 205 3 = some (.invokevirtual 409, 3, 202, 1, 8, []) := by decide +kernel
theorem f205_6 : pm_f 205 6 = some (.aload_n 0, 1, 0, 0, 0, []) := by decide +kernel
theorem f205_7 : pm_f 205 7 = some (.iload_n 1, 1, 1, 0, 0, []) := by decide +kernel
theorem f205_8 : pm_f 205 8 = some (.iload_n 2, 1, 2, 0, 0, []) := by decide +kernel
theorem f205_9 : pm_f 205 9 = some (.invokevirtual 415, 3, 204, 2, 8, []) := by decide +kernel
theorem f205_12 : pm_f 205 12 = some (.aload_n 0, 1, 0, 0, 0, []) := by decide +kernel
theorem f205_13 : pm_f 205 13 = some (.getfield 26, 3, 8, 5, 2, []) := by decide +kernel
theorem f205_16 : pm_f 205 16 = some (.iload_n 1, 1, 1, 0, 0, []) := by decide +kernel
theorem f205_17 : pm_f 205 17 = some (.iaload, 1, 0, 0, 0, []) := by decide +kernel
theorem f205_18 : pm_f 205 18 = some (.isub, 1, 0, 0, 0, []) := by decide +kernel
theorem f205_19 : pm_f 205 19 = some (.ireturn, 1, 0, 0, 0, []) := by decide +kernel
theorem f206_0 : pm_f 206 0 = some (.aload_n 0, 1, 0, 0, 0, []) := by decide +kernel
theorem f206_1 : pm_f 206 1 = some (.bipush 20, 2, 0, 0, 20, []) := by decide +kernel
theorem f206_3 : pm_f 206 3 = some (.invokevirtual 409, 3, 202, 1, 8, []) := by decide +kernel
theorem f206_6 : pm_f 206 6 = some (.aload_n 0, 1, 0, 0, 0, []) := by decide +kernel
theorem f206_7 : pm_f 206 7 = some (.iload_n 1, 1, 1, 0, 0, []) := by decide +kernel
theorem f206_8 : pm_f 206 8 = some (.iload_n 2, 1, 2, 0, 0, []) := by decide +kernel
theorem f206_9 : pm_f 206 9 = some (.invokevirtual 418, 3, 205, 2, 8, []) := by decide +kernel
theorem f206_12 : pm_f 206 12 = some (.bipush 6, 2, 0, 0, 6, []) := by decide +kernel
theorem f206_14 : pm_f 206 14 = some (.ixor, 1, 0, 0, 0, []) := by decide +kernel
theorem f206_15 : pm_f 206 15 = some (.ireturn, 1, 0, 0, 0, []) := by decide +kernel
theorem f207_0 : pm_f 207 0 = some (.aload_n 0, 1, 0, 0, 0, []) := by decide +kernel
theorem f207_1 : pm_f 207 1 = some (.getfield 22, 3, 8, 4, 2, []) := by decide +kernel
theorem f207_4 : pm_f 207 4 = some (.iload_n 1, 1, 1, 0, 0, []) := by decide +kernel
theorem f207_5 : pm_f 207 5 = some (.iaload, 1, 0, 0, 0, []) := by decide +kernel
theorem f207_6 : pm_f 207 6 = some (.lookupswitch 78 #[(1, 34), (4, 41), (6, 56)], 34, 84, 0, 0, [(1, 40), (4, 47), (6, 62)]) := by decide +kernel
theorem f207_40 : pm_f 207 40 = some (.aload_n 0, 1, 0, 0, 0, []) := by decide +kernel
theorem f207_41 : pm_f 207 41 = some (.iload_n 1, 1, 1, 0, 0, []) := by decide +kernel
theorem f207_42 : pm_f 207 42 = some (.iload_n 2, 1, 2, 0, 0, []) := by decide +kernel
theorem f207_43 : pm_f 207 43 = some (.invokevirtual 421, 3, 206, 2, 8, []) := by decide +kernel
theorem f207_46 : pm_f 207 46 = some (.ireturn, 1, 0, 0, 0, []) := by decide +kernel
theorem f207_47 : pm_f 207 47 = some (.aload_n 0, 1, 0, 0, 0, []) := by decide +kernel
theorem f207_48 : pm_f 207 48 = some (.bipush 51, 2, 0, 0, 51, []) := by decide +kernel
theorem f207_50 : pm_f 207 50 = some (.invokevirtual 409, 3, 202, 1, 8, []) := by decide +kernel
theorem f207_53 : pm_f 207 53 = some (.aload_n 0, 1, 0, 0, 0, []) := by decide +kernel
theorem f207_54 : pm_f 207 54 = some (.iload_n 1, 1, 1, 0, 0, []) := by decide +kernel
theorem f207_55 : pm_f 207 55 = some (.iload_n 2, 1, 2, 0, 0, []) := by decide +kernel
theorem f207_56 : pm_f 207 56 = some (.iconst 1, 1, 0, 0, 1, []) := by decide +kernel
theorem f207_57 : pm_f 207 57 = some (.iadd, 1, 0, 0, 0, []) := by decide +kernel
theorem f207_58 : pm_f 207 58 = some (.invokevirtual 421, 3, 206, 2, 8, []) := by decide +kernel
theorem f207_61 : pm_f 207 61 = some (.ireturn, 1, 0, 0, 0, []) := by decide +kernel
theorem f207_62 : pm_f 207 62 = some (.aload_n 0, 1, 0, 0, 0, []) := by decide +kernel
theorem f207_63 : pm_f 207 63 = some (.bipush 70, 2, 0, 0, 70, []) := by decide +kernel
theorem f207_65 : pm_f 207 65 = some (.invokevirtual 409, 3, 202, 1, 8, []) := by decide +kernel
theorem f207_68 : pm_f 207 68 = some (.aload_n 0, 1, 0, 0, 0, []) := by decide +kernel
theorem f207_69 : pm_f 207 69 = some (.iload_n 1, 1, 1, 0, 0, []) := by decide +kernel
theorem f207_70 : pm_f 207 70 = some (.iload_n 2, 1, 2, 0, 0, []) := by decide +kernel
theorem f207_71 : pm_f 207 71 = some (.invokevirtual 418, 3, 205, 2, 8, []) := by decide +kernel
theorem f207_74 : pm_f 207 74 = some (.istore_n 3, 1, 3, 0, 0, []) := by decide +kernel
theorem f207_75 : pm_f 207 75 = some (.iload_n 3, 1, 3, 0, 0, []) := by decide +kernel
theorem f207_76 : pm_f 207 76 = some (.aload_n 0, 1, 0, 0, 0, []) := by decide +kernel
theorem f207_77 : pm_f 207 77 = some (.iload_n 1, 1, 1, 0, 0, []) := by decide +kernel
theorem f207_78 : pm_f 207 78 = some (.iconst 2, 1, 0, 0, 2, []) := by decide +kernel
theorem f207_79 : pm_f 207 79 = some (.invokevirtual 412, 3, 203, 2, 8, []) := by decide +kernel
theorem f207_82 : pm_f 207 82 = some (.iadd, 1, 0, 0, 0, []) := by decide +kernel
theorem f207_83 : pm_f 207 83 = some (.ireturn, 1, 0, 0, 0, []) := by decide +kernel
theorem f207_84 : pm_f 207 84 = some (.aload_n 0, 1, 0, 0, 0, []) := by decide +kernel
theorem f207_85 : pm_f 207 85 = some (.iload_n 1, 1, 1, 0, 0, []) := by decide +kernel
theorem f207_86 : pm_f 207 86 = some (.iload_n 2, 1, 2, 0, 0, []) := by decide +kernel
theorem f207_87 : pm_f 207 87 = some (.invokevirtual 418, 3, 205, 2, 8, []) := by decide +kernel
theorem f207_90 : pm_f 207 90 = some (.ireturn, 1, 0, 0, 0, []) := by decide +kernel
theorem f208_0 : pm_f 208 0 = some (.aload_n 0, 1, 0, 0, 0, []) := by decide +kernel
theorem f208_1 : pm_f 208 1 = some (.bipush 12, 2, 0, 0, 12, []) := by decide +kernel
theorem f208_3 : pm_f 208 3 = some (.invokevirtual 409, 3, 202, 1, 8, []) := by decide +kernel
theorem f208_6 : pm_f 208 6 = some (.aload_n 0, 1, 0, 0, 0, []) := by decide +kernel
theorem f208_7 : pm_f 208 7 = some (.iload_n 1, 1, 1, 0, 0, []) := by decide +kernel
theorem f208_8 : pm_f 208 8 = some (.iload_n 2, 1, 2, 0, 0, []) := by decide +kernel
theorem f208_9 : pm_f 208 9 = some (.invokevirtual 424, 3, 207, 2, 8, []) := by decide +kernel
theorem f208_12 : pm_f 208 12 = some (.iconst 2, 1, 0, 0, 2, []) := by decide +kernel
theorem f208_13 : pm_f 208 13 = some (.imul, 1, 0, 0, 0, []) := by decide +kernel
theorem f208_14 : pm_f 208 14 = some (.ireturn, 1, 0, 0, 0, []) := by decide +kernel
theorem f209_0 : pm_f 209 0 = some (.aload_n 0, 1, 0, 0, 0, []) := by decide +kernel
theorem f209_1 : pm_f 209 1 = some (.getfield 22, 3, 8, 4, 2, []) := by decide +kernel
theorem f209_4 : pm_f 209 4 = some (.iload_n 1, 1, 1, 0, 0, []) := by decide +kernel
theorem f209_5 : pm_f 209 5 = some (.iaload, 1, 0, 0, 0, []) := by decide +kernel
theorem f209_6 : pm_f 209 6 = some (.tableswitch 67 3 6 #[30, 67, 52, 30], 30, 73, 0, 0, [(3, 36), (4, 73), (5, 58), (6, 36)]) := by decide +kernel
theorem f209_36 : pm_f 209 36 = some (.aload_n 0, 1, 0, 0, 0, []) := by decide +kernel
theorem f209_37 : pm_f 209 37 = some (.bipush 40, 2, 0, 0, 40, []) := by decide +kernel
theorem f209_39 : pm_f 209 39 = some (.invokevirtual 409, 3, 202, 1, 8, []) := by decide +kernel
theorem f209_42 : pm_f 209 42 = some (.aload_n 0, 1, 0, 0, 0, []) := by decide +kernel
theorem f209_43 : pm_f 209 43 = some (.iload_n 1, 1, 1, 0, 0, []) := by decide +kernel
theorem f209_44 : pm_f 209 44 = some (.iload_n 2, 1, 2, 0, 0, []) := by decide +kernel
theorem f209_45 : pm_f 209 45 = some (.invokevirtual 427, 3, 208, 2, 8, []) := by decide +kernel
theorem f209_48 : pm_f 209 48 = some (.istore_n 3, 1, 3, 0, 0, []) := by decide +kernel
theorem f209_49 : pm_f 209 49 = some (.iload_n 3, 1, 3, 0, 0, []) := by decide +kernel
theorem f209_50 : pm_f 209 50 = some (.aload_n 0, 1, 0, 0, 0, []) := by decide +kernel
theorem f209_51 : pm_f 209 51 = some (.iload_n 1, 1, 1, 0, 0, []) := by decide +kernel
theorem f209_52 : pm_f 209 52 = some (.iconst 1, 1, 0, 0, 1, []) := by decide +kernel
theorem f209_53 : pm_f 209 53 = some (.invokevirtual 424, 3, 207, 2, 8, []) := by decide +kernel
theorem f209_56 : pm_f 209 56 = some (.iadd, 1, 0, 0, 0, []) := by decide +kernel
theorem f209_57 : pm_f 209 57 = some (.ireturn, 1, 0, 0, 0, []) := by decide +kernel
theorem f209_58 : pm_f 209 58 = some (.aload_n 0, 1, 0, 0, 0, []) := by decide +kernel
theorem f209_59 : pm_f 209 59 = some (.bipush 60, 2, 0, 0, 60, []) := by decide +kernel
theorem f209_61 : pm_f 209 61 = some (.invokevirtual 409, 3, 202, 1, 8, []) := by decide +kernel
theorem f209_64 : pm_f 209 64 = some (.aload_n 0, 1, 0, 0, 0, []) := by decide +kernel
theorem f209_65 : pm_f 209 65 = some (.iload_n 1, 1, 1, 0, 0, []) := by decide +kernel
theorem f209_66 : pm_f 209 66 = some (.iload_n 2, 1, 2, 0, 0, []) := by decide +kernel
theorem f209_67 : pm_f 209 67 = some (.iload_n 1, 1, 1, 0, 0, []) := by decide +kernel
theorem f209_68 : pm_f 209 68 = some (.isub, 1, 0, 0, 0, []) := by decide +kernel
theorem f209_69 : pm_f 209 69 = some (.invokevirtual 427, 3, 208, 2, 8, []) := by decide +kernel
theorem f209_72 : pm_f 209 72 = some (.ireturn, 1, 0, 0, 0, []) := by decide +kernel
theorem f209_73 : pm_f 209 73 = some (.aload_n 0, 1, 0, 0, 0, []) := by decide +kernel
theorem f209_74 : pm_f 209 74 = some (.iload_n 1, 1, 1, 0, 0, []) := by decide +kernel
theorem f209_75 : pm_f 209 75 = some (.iload_n 2, 1, 2, 0, 0, []) := by decide +kernel
theorem f209_76 : pm_f 209 76 = some (.invokevirtual 427, 3, 208, 2, 8, []) := by decide +kernel
theorem f209_79 : pm_f 209 79 = some (.ireturn, 1, 0, 0, 0, []) := by decide +kernel
theorem f210_0 : pm_f 210 0 = some (.aload_n 0, 1, 0, 0, 0, []) := by decide +kernel
theorem f210_1 : pm_f 210 1 = some (.iconst 0, 1, 0, 0, 0, []) := by decide +kernel
theorem f210_2 : pm_f 210 2 = some (.putfield 220, 3, 8, 69, 0, []) := by decide +kernel
theorem f210_5 : pm_f 210 5 = some (.aload_n 0, 1, 0, 0, 0, []) := by decide +kernel
theorem f210_6 : pm_f 210 6 = some (.iload_n 1, 1, 1, 0, 0, []) := by decide +kernel
theorem f210_7 : pm_f 210 7 = some (.invokevirtual 247, 3, 125, 1, 8, []) := by decide +kernel
theorem f210_10 : pm_f 210 10 = some (.ifCond .eq 13, 3, 23, 0, 0, []) := by decide +kernel
theorem f210_13 : pm_f 210 13 = some (.aload_n 0, 1, 0, 0, 0, []) := by decide +kernel
theorem f210_14 : pm_f 210 14 = some (.iload_n 2, 1, 2, 0, 0, []) := by decide +kernel
theorem f210_15 : pm_f 210 15 = some (.iconst 0, 1, 0, 0, 0, []) := by decide +kernel
theorem f210_16 : pm_f 210 16 = some (.iconst 2, 1, 0, 0, 2, []) := by decide +kernel
theorem f210_17 : pm_f 210 17 = some (.invokevirtual 239, 3, 122, 3, 8, []) := by decide +kernel
theorem f210_20 : pm_f 210 20 = some (.ifCond .ne 5, 3, 25, 0, 0, []) := by decide +kernel
theorem f210_23 : pm_f 210 23 = some (.iconst 0, 1, 0, 0, 0, []) := by decide +kernel
theorem f210_24 : pm_f 210 24 = some (.ireturn, 1, 0, 0, 0, []) := by decide +kernel
theorem f210_25 : pm_f 210 25 = some (.iload_n 2, 1, 2, 0, 0, []) := by decide +kernel
theorem f210_26 : pm_f 210 26 = some (.ifCond .ne 12, 3, 38, 0, 0, []) := by decide +kernel
theorem f210_29 : pm_f 210 29 = some (.aload_n 0, 1, 0, 0, 0, []) := by decide +kernel
theorem f210_30 : pm_f 210 30 = some (.iload_n 1, 1, 1, 0, 0, []) := by decide +kernel
theorem f210_31 : pm_f 210 31 = some (.iload_n 3, 1, 3, 0, 0, []) := by decide +kernel
theorem f210_32 : pm_f 210 32 = some (.invokevirtual 415, 3, 204, 2, 8, []) := by decide +kernel
theorem f210_35 : pm_f 210 35 = some (.goto 23, 3, 58, 0, 0, []) := by decide +kernel
theorem f210_38 : pm_f 210 38 = some (.iload_n 2, 1, 2, 0, 0, []) := by decide +kernel
theorem f210_39 : pm_f 210 39 = some (.iconst 1, 1, 0, 0, 1, []) := by decide +kernel
theorem f210_40 : pm_f 210 40 = some (.if_icmp .ne 12, 3, 52, 0, 0, []) := by decide +kernel
theorem f210_43 : pm_f 210 43 = some (.aload_n 0, 1, 0, 0, 0, []) := by decide +kernel
theorem f210_44 : pm_f 210 44 = some (.iload_n 1, 1, 1, 0, 0, []) := by decide +kernel
theorem f210_45 : pm_f 210 45 = some (.iload_n 3, 1, 3, 0, 0, []) := by decide +kernel
theorem f210_46 : pm_f 210 46 = some (.invokevirtual 424, 3, 207, 2, 8, []) := by decide +kernel
theorem f210_49 : pm_f 210 49 = some (.goto 9, 3, 58, 0, 0, []) := by decide +kernel
theorem f210_52 : pm_f 210 52 = some (.aload_n 0, 1, 0, 0, 0, []) := by decide +kernel
theorem f210_53 : pm_f 210 53 = some (.iload_n 1, 1, 1, 0, 0, []) := by decide +kernel
theorem f210_54 : pm_f 210 54 = some (.iload_n 3, 1, 3, 0, 0, []) := by decide +kernel
theorem f210_55 : pm_f 210 55 = some (.invokevirtual 430, 3, 209, 2, 8, []) := by decide +kernel
theorem f210_58 : pm_f 210 58 = some (.ireturn, 1, 0, 0, 0, []) := by decide +kernel
theorem f211_0 : pm_f 211 0 = some (.aload_n 0, 1, 0, 0, 0, []) := by decide +kernel
theorem f211_1 : pm_f 211 1 = some (.iload_n 1, 1, 1, 0, 0, []) := by decide +kernel
theorem f211_2 : pm_f 211 2 = some (.iconst 0, 1, 0, 0, 0, []) := by decide +kernel
theorem f211_3 : pm_f 211 3 = some (.bipush 19, 2, 0, 0, 19, []) := by decide +kernel
theorem f211_5 : pm_f 211 5 = some (.invokevirtual 239, 3, 122, 3, 8, []) := by decide +kernel
theorem f211_8 : pm_f 211 8 = some (.ifCond .eq 20, 3, 28, 0, 0, []) := by decide +kernel
theorem f211_11 : pm_f 211 11 = some (.iload_n 1, 1, 1, 0, 0, []) := by decide +kernel
theorem f211_12 : pm_f 211 12 = some (.aload_n 0, 1, 0, 0, 0, []) := by decide +kernel
theorem f211_13 : pm_f 211 13 = some (.getfield 220, 3, 8, 69, 0, []) := by decide +kernel
theorem f211_16 : pm_f 211 16 = some (.if_icmp .ge 12, 3, 28, 0, 0, []) := by decide +kernel
theorem f211_19 : pm_f 211 19 = some (.aload_n 0, 1, 0, 0, 0, []) := by decide +kernel
theorem f211_20 : pm_f 211 20 = some (.getfield 223, 3, 8, 70, 2, []) := by decide +kernel
theorem f211_23 : pm_f 211 23 = some (.iload_n 1, 1, 1, 0, 0, []) := by decide +kernel
theorem f211_24 : pm_f 211 24 = some (.iaload, 1, 0, 0, 0, []) := by decide +kernel
theorem f211_25 : pm_f 211 25 = some (.goto 4, 3, 29, 0, 0, []) := by decide +kernel
theorem f211_28 : pm_f 211 28 = some (.iconst (-1), 1, 0, 0, (-1), []) := by decide +kernel
theorem f211_29 : pm_f 211 29 = some (.ireturn, 1, 0, 0, 0, []) := by decide +kernel
theorem f212_0 : pm_f 212 0 = some (.aload_n 0, 1, 0, 0, 0, []) := by decide +kernel
theorem f212_1 : pm_f 212 1 = some (.iload_n 2, 1, 2, 0, 0, []) := by decide +kernel
theorem f212_2 : pm_f 212 2 = some (.iconst 0, 1, 0, 0, 0, []) := by decide +kernel
theorem f212_3 : pm_f 212 3 = some (.bipush 6, 2, 0, 0, 6, []) := by decide +kernel
theorem f212_5 : pm_f 212 5 = some (.invokevirtual 239, 3, 122, 3, 8, []) := by decide +kernel
theorem f212_8 : pm_f 212 8 = some (.ifCond .ne 6, 3, 14, 0, 0, []) := by decide +kernel
theorem f212_11 : pm_f 212 11 = some (.bipush (-2), 2, 0, 0, (-2), []) := by decide +kernel
theorem f212_13 : pm_f 212 13 = some (.ireturn, 1, 0, 0, 0, []) := by decide +kernel
theorem f212_14 : pm_f 212 14 = some (.aload_n 0, 1, 0, 0, 0, []) := by decide +kernel
theorem f212_15 : pm_f 212 15 = some (.iload_n 1, 1, 1, 0, 0, []) := by decide +kernel
theorem f212_16 : pm_f 212 16 = some (.invokevirtual 247, 3, 125, 1, 8, []) := by decide +kernel
theorem f212_19 : pm_f 212 19 = some (.ifCond .ne 6, 3, 25, 0, 0, []) := by decide +kernel
theorem f212_22 : pm_f 212 22 = some (.bipush (-11), 2, 0, 0, (-11), []) := by decide +kernel
theorem f212_24 : pm_f 212 24 = some (.ireturn, 1, 0, 0, 0, []) := by decide +kernel
theorem f212_25 : pm_f 212 25 = some (.aload_n 0, 1, 0, 0, 0, []) := by decide +kernel
theorem f212_26 : pm_f 212 26 = some (.getfield 22, 3, 8, 4, 2, []) := by decide +kernel
theorem f212_29 : pm_f 212 29 = some (.iload_n 1, 1, 1, 0, 0, []) := by decide +kernel
theorem f212_30 : pm_f 212 30 = some (.iaload, 1, 0, 0, 0, []) := by decide +kernel
theorem f212_31 : pm_f 212 31 = some (.istore_n 3, 1, 3, 0, 0, []) := by decide +kernel
theorem f212_32 : pm_f 212 32 = some (.iload_n 2, 1, 2, 0, 0, []) := by decide +kernel
theorem f212_33 : pm_f 212 33 = some (.ifCond .eq 39, 3, 72, 0, 0, []) := by decide +kernel
theorem f212_36 : pm_f 212 36 = some (.iload_n 3, 1, 3, 0, 0, []) := by decide +kernel
theorem f212_37 : pm_f 212 37 = some (.iload_n 2, 1, 2, 0, 0, []) := by decide +kernel
theorem f212_38 : pm_f 212 38 = some (.if_icmp .eq 34, 3, 72, 0, 0, []) := by decide +kernel
theorem f212_41 : pm_f 212 41 = some (.iload_n 2, 1, 2, 0, 0, []) := by decide +kernel
theorem f212_42 : pm_f 212 42 = some (.iconst 1, 1, 0, 0, 1, []) := by decide +kernel
theorem f212_43 : pm_f 212 43 = some (.if_icmp .ne 8, 3, 51, 0, 0, []) := by decide +kernel
theorem f212_46 : pm_f 212 46 = some (.iload_n 3, 1, 3, 0, 0, []) := by decide +kernel
theorem f212_47 : pm_f 212 47 = some (.iconst 4, 1, 0, 0, 4, []) := by decide +kernel
theorem f212_48 : pm_f 212 48 = some (.if_icmp .eq 24, 3, 72, 0, 0, []) := by decide +kernel
theorem f212_51 : pm_f 212 51 = some (.iload_n 2, 1, 2, 0, 0, []) := by decide +kernel
theorem f212_52 : pm_f 212 52 = some (.iconst 2, 1, 0, 0, 2, []) := by decide +kernel
theorem f212_53 : pm_f 212 53 = some (.if_icmp .ne 8, 3, 61, 0, 0, []) := by decide +kernel
theorem f212_56 : pm_f 212 56 = some (.iload_n 3, 1, 3, 0, 0, []) := by decide +kernel
theorem f212_57 : pm_f 212 57 = some (.iconst 5, 1, 0, 0, 5, []) := by decide +kernel
theorem f212_58 : pm_f 212 58 = some (.if_icmp .eq 14, 3, 72, 0, 0, []) := by decide +kernel
theorem f212_61 : pm_f 212 61 = some (.iload_n 2, 1, 2, 0, 0, []) := by decide +kernel
theorem f212_62 : pm_f 212 62 = some (.iconst 3, 1, 0, 0, 3, []) := by decide +kernel
theorem f212_63 : pm_f 212 63 = some (.if_icmp .ne 13, 3, 76, 0, 0, []) := by decide +kernel
theorem f212_66 : pm_f 212 66 = some (.iload_n 3, 1, 3, 0, 0, []) := by decide +kernel
theorem f212_67 : pm_f 212 67 = some (.bipush 6, 2, 0, 0, 6, []) := by decide +kernel
theorem f212_69 : pm_f 212 69 = some (.if_icmp .ne 7, 3, 76, 0, 0, []) := by decide +kernel
theorem f212_72 : pm_f 212 72 = some (.iload_n 3, 1, 3, 0, 0, []) := by decide +kernel
theorem f212_73 : pm_f 212 73 = some (.goto 5, 3, 78, 0, 0, []) := by decide +kernel
theorem f212_76 : pm_f 212 76 = some (.bipush (-12), 2, 0, 0, (-12), []) := by decide +kernel
theorem f212_78 : pm_f 212 78 = some (.ireturn, 1, 0, 0, 0, []) := by decide +kernel
theorem f213_0 : pm_f 213 0 = some (.iload_n 1, 1, 1, 0, 0, []) := by decide +kernel
theorem f213_1 : pm_f 213 1 = some (.tableswitch 78 0 6 #[43, 48, 53, 58, 63, 68, 73], 43, 79, 0, 0, [(0, 44), (1, 49), (2, 54), (3, 59), (4, 64), (5, 69), (6, 74)]) := by decide +kernel
theorem f213_44 : pm_f 213 44 = some (.aload_n 0, 1, 0, 0, 0, []) := by decide +kernel
theorem f213_45 : pm_f 213 45 = some (.getfield 7, 3, 8, 0, 0, []) := by decide +kernel
theorem f213_48 : pm_f 213 48 = some (.ireturn, 1, 0, 0, 0, []) := by decide +kernel
theorem f213_49 : pm_f 213 49 = some (.aload_n 0, 1, 0, 0, 0, []) := by decide +kernel
theorem f213_50 : pm_f 213 50 = some (.getfield 41, 3, 8, 10, 0, []) := by decide +kernel
theorem f213_53 : pm_f 213 53 = some (.ireturn, 1, 0, 0, 0, []) := by decide +kernel
theorem f213_54 : pm_f 213 54 = some (.aload_n 0, 1, 0, 0, 0, []) := by decide +kernel
theorem f213_55 : pm_f 213 55 = some (.getfield 123, 3, 8, 37, 0, []) := by decide +kernel
theorem f213_58 : pm_f 213 58 = some (.ireturn, 1, 0, 0, 0, []) := by decide +kernel
theorem f213_59 : pm_f 213 59 = some (.aload_n 0, 1, 0, 0, 0, []) := by decide +kernel
theorem f213_60 : pm_f 213 60 = some (.getfield 135, 3, 8, 41, 0, []) := by decide +kernel
theorem f213_63 : pm_f 213 63 = some (.ireturn, 1, 0, 0, 0, []) := by decide +kernel
theorem f213_64 : pm_f 213 64 = some (.aload_n 0, 1, 0, 0, 0, []) := by decide +kernel
theorem f213_65 : pm_f 213 65 = some (.getfield 138, 3, 8, 42, 0, []) := by decide +kernel
theorem f213_68 : pm_f 213 68 = some (.ireturn, 1, 0, 0, 0, []) := by decide +kernel
theorem f213_69 : pm_f 213 69 = some (.aload_n 0, 1, 0, 0, 0, []) := by decide +kernel
theorem f213_70 : pm_f 213 70 = some (.getfield 47, 3, 8, 12, 0, []) := by decide +kernel
theorem f213_73 : pm_f 213 73 = some (.ireturn, 1, 0, 0, 0, []) := by decide +kernel
theorem f213_74 : pm_f 213 74 = some (.aload_n 0, 1, 0, 0, 0, []) := by decide +kernel
theorem f213_75 : pm_f 213 75 = some (.getfield 220, 3, 8, 69, 0, []) := by decide +kernel
theorem f213_78 : pm_f 213 78 = some (.ireturn, 1, 0, 0, 0, []) := by decide +kernel
theorem f213_79 : pm_f 213 79 = some (.bipush (-2), 2, 0, 0, (-2), []) := by decide +kernel
theorem f213_81 : pm_f 213 81 = some (.ireturn, 1, 0, 0, 0, []) := by decide +kernel
theorem f214_0 : pm_f 214 0 = some (.aload_n 0, 1, 0, 0, 0, []) := by decide +kernel
theorem f214_1 : pm_f 214 1 = some (.iload_n 1, 1, 1, 0, 0, []) := by decide +kernel
theorem f214_2 : pm_f 214 2 = some (.iconst 0, 1, 0, 0, 0, []) := by decide +kernel
theorem f214_3 : pm_f 214 3 = some (.iconst 5, 1, 0, 0, 5, []) := by decide +kernel
theorem f214_4 : pm_f 214 4 = some (.invokevirtual 239, 3, 122, 3, 8, []) := by decide +kernel
theorem f214_7 : pm_f 214 7 = some (.ireturn, 1, 0, 0, 1, []) := by decide +kernel
theorem f215_0 : pm_f 215 0 = some (.aload_n 0, 1, 0, 0, 0, []) := by decide +kernel
theorem f215_1 : pm_f 215 1 = some (.iload_n 1, 1, 1, 0, 0, []) := by decide +kernel
theorem f215_2 : pm_f 215 2 = some (.invokevirtual 406, 3, 214, 1, 8, []) := by decide +kernel
theorem f215_5 : pm_f 215 5 = some (.ifCond .ne 5, 3, 10, 0, 0, []) := by decide +kernel
theorem f215_8 : pm_f 215 8 = some (.iconst (-1), 1, 0, 0, (-1), []) := by decide +kernel
theorem f215_9 : pm_f 215 9 = some (.ireturn, 1, 0, 0, 0, []) := by decide +kernel
theorem f215_10 : pm_f 215 10 = some (.aload_n 0, 1, 0, 0, 0, []) := by decide +kernel
theorem f215_11 : pm_f 215 11 = some (.iload_n 2, 1, 2, 0, 0, []) := by decide +kernel
theorem f215_12 : pm_f 215 12 = some (.iconst (-1), 1, 0, 0, (-1), []) := by decide +kernel
theorem f215_13 : pm_f 215 13 = some (.iconst 4, 1, 0, 0, 4, []) := by decide +kernel
theorem f215_14 : pm_f 215 14 = some (.invokevirtual 239, 3, 122, 3, 8, []) := by decide +kernel
theorem f215_17 : pm_f 215 17 = some (.ifCond .eq 13, 3, 30, 0, 0, []) := by decide +kernel
theorem f215_20 : pm_f 215 20 = some (.iload_n 2, 1, 2, 0, 0, []) := by decide +kernel
theorem f215_21 : pm_f 215 21 = some (.ifCond .lt 12, 3, 33, 0, 0, []) := by decide +kernel
theorem f215_24 : pm_f 215 24 = some (.iload_n 3, 1, 3, 0, 0, []) := by decide +kernel
theorem f215_25 : pm_f 215 25 = some (.bipush 60, 2, 0, 0, 60, []) := by decide +kernel
theorem f215_27 : pm_f 215 27 = some (.if_icmp .le 6, 3, 33, 0, 0, []) := by decide +kernel
theorem f215_30 : pm_f 215 30 = some (.bipush (-2), 2, 0, 0, (-2), []) := by decide +kernel
theorem f215_32 : pm_f 215 32 = some (.ireturn, 1, 0, 0, 0, []) := by decide +kernel
theorem f215_33 : pm_f 215 33 = some (.iload_n 2, 1, 2, 0, 0, []) := by decide +kernel
theorem f215_34 : pm_f 215 34 = some (.ifCond .lt 10, 3, 44, 0, 0, []) := by decide +kernel
theorem f215_37 : pm_f 215 37 = some (.iload_n 3, 1, 3, 0, 0, []) := by decide +kernel
theorem f215_38 : pm_f 215 38 = some (.ifCond .ge 6, 3, 44, 0, 0, []) := by decide +kernel
theorem f215_41 : pm_f 215 41 = some (.bipush (-14), 2, 0, 0, (-14), []) := by decide +kernel
theorem f215_43 : pm_f 215 43 = some (.ireturn, 1, 0, 0, 0, []) := by decide +kernel
theorem f215_44 : pm_f 215 44 = some (.aload_n 0, 1, 0, 0, 0, []) := by decide +kernel
theorem f215_45 : pm_f 215 45 = some (.getfield 226, 3, 8, 71, 2, []) := by decide +kernel
theorem f215_48 : pm_f 215 48 = some (.iload_n 1, 1, 1, 0, 0, []) := by decide +kernel
theorem f215_49 : pm_f 215 49 = some (.iload_n 2, 1, 2, 0, 0, []) := by decide +kernel
theorem f215_50 : pm_f 215 50 = some (.iastore, 1, 0, 0, 0, []) := by decide +kernel
theorem f215_51 : pm_f 215 51 = some (.aload_n 0, 1, 0, 0, 0, []) := by decide +kernel
theorem f215_52 : pm_f 215 52 = some (.getfield 229, 3, 8, 72, 2, []) := by decide +kernel
theorem f215_55 : pm_f 215 55 = some (.iload_n 1, 1, 1, 0, 0, []) := by decide +kernel
theorem f215_56 : pm_f 215 56 = some (.iload_n 2, 1, 2, 0, 0, []) := by decide +kernel
theorem f215_57 : pm_f 215 57 = some (.ifCond .ge 7, 3, 64, 0, 0, []) := by decide +kernel
theorem f215_60 : pm_f 215 60 = some (.iconst 0, 1, 0, 0, 0, []) := by decide +kernel
theorem f215_61 : pm_f 215 61 = some (.goto 4, 3, 65, 0, 0, []) := by decide +kernel
theorem f215_64 : pm_f 215 64 = some (.iload_n 3, 1, 3, 0, 0, []) := by decide +kernel
theorem f215_65 : pm_f 215 65 = some (.iastore, 1, 0, 0, 0, []) := by decide +kernel
theorem f215_66 : pm_f 215 66 = some (.iconst 0, 1, 0, 0, 0, []) := by decide +kernel
theorem f215_67 : pm_f 215 67 = some (.istore 4, 2, 4, 0, 0, []) := by decide +kernel
theorem f215_69 : pm_f 215 69 = some (.iload 4, 2, 4, 0, 0, []) := by decide +kernel
theorem f215_71 : pm_f 215 71 = some (.bipush 60, 2, 0, 0, 60, []) := by decide +kernel
theorem f215_73 : pm_f 215 73 = some (.if_icmp .ge 22, 3, 95, 0, 0, []) := by decide +kernel
theorem f215_76 : pm_f 215 76 = some (.aload_n 0, 1, 0, 0, 0, []) := by decide +kernel
theorem f215_77 : pm_f 215 77 = some (.getfield 232, 3, 8, 73, 2, []) := by decide +kernel
theorem f215_80 : pm_f 215 80 = some (.bipush 60, 2, 0, 0, 60, []) := by decide +kernel
theorem f215_82 : pm_f 215 82 = some (.iload_n 1, 1, 1, 0, 0, []) := by decide +kernel
theorem f215_83 : pm_f 215 83 = some (.imul, 1, 0, 0, 0, []) := by decide +kernel
theorem f215_84 : pm_f 215 84 = some (.iload 4, 2, 4, 0, 0, []) := by decide +kernel
theorem f215_86 : pm_f 215 86 = some (.iadd, 1, 0, 0, 0, []) := by decide +kernel
theorem f215_87 : pm_f 215 87 = some (.lconst 0, 1, 0, 0, 0, []) := by decide +kernel
theorem f215_88 : pm_f 215 88 = some (.lastore, 1, 0, 0, 0, []) := by decide +kernel
theorem f215_89 : pm_f 215 89 = some (.iinc 4 1, 3, 4, 0, 1, []) := by decide +kernel
theorem f215_92 : pm_f 215 92 = some (.goto (-23), 3, 69, 0, 0, []) := by decide +kernel
theorem f215_95 : pm_f 215 95 = some (.iconst 1, 1, 0, 0, 1, []) := by decide +kernel
theorem f215_96 : pm_f 215 96 = some (.ireturn, 1, 0, 0, 0, []) := by decide +kernel
theorem f216_0 : pm_f 216 0 = some (.iload_n 1, 1, 1, 0, 0, []) := by decide +kernel
theorem f216_1 : pm_f 216 1 = some (.ifCond .ne 10, 3, 11, 0, 0, []) := by decide +kernel
theorem f216_4 : pm_f 216 4 = some (.lload_n 2, 1, 2, 0, 0, []) := by decide +kernel
theorem f216_5 : pm_f 216 5 = some (.l2i, 1, 0, 0, 0, []) := by decide +kernel
theorem f216_6 : pm_f 216 6 = some (.i2b, 1, 0, 0, 0, []) := by decide +kernel
theorem f216_7 : pm_f 216 7 = some (.i2l, 1, 0, 0, 0, []) := by decide +kernel
theorem f216_8 : pm_f 216 8 = some (.goto 46, 3, 54, 0, 0, []) := by decide +kernel
theorem f216_11 : pm_f 216 11 = some (.iload_n 1, 1, 1, 0, 0, []) := by decide +kernel
theorem f216_12 : pm_f 216 12 = some (.iconst 1, 1, 0, 0, 1, []) := by decide +kernel
theorem f216_13 : pm_f 216 13 = some (.if_icmp .ne 10, 3, 23, 0, 0, []) := by decide +kernel
theorem f216_16 : pm_f 216 16 = some (.lload_n 2, 1, 2, 0, 0, []) := by decide +kernel
theorem f216_17 : pm_f 216 17 = some (.l2i, 1, 0, 0, 0, []) := by decide +kernel
theorem f216_18 : pm_f 216 18 = some (.i2s, 1, 0, 0, 0, []) := by decide +kernel
theorem f216_19 : pm_f 216 19 = some (.i2l, 1, 0, 0, 0, []) := by decide +kernel
theorem f216_20 : pm_f 216 20 = some (.goto 34, 3, 54, 0, 0, []) := by decide +kernel
theorem f216_23 : pm_f 216 23 = some (.iload_n 1, 1, 1, 0, 0, []) := by decide +kernel
theorem f216_24 : pm_f 216 24 = some (.iconst 2, 1, 0, 0, 2, []) := by decide +kernel
theorem f216_25 : pm_f 216 25 = some (.if_icmp .ne 9, 3, 34, 0, 0, []) := by decide +kernel
theorem f216_28 : pm_f 216 28 = some (.lload_n 2, 1, 2, 0, 0, []) := by decide +kernel
theorem f216_29 : pm_f 216 29 = some (.l2i, 1, 0, 0, 0, []) := by decide +kernel
theorem f216_30 : pm_f 216 30 = some (.i2l, 1, 0, 0, 0, []) := by decide +kernel
theorem f216_31 : pm_f 216 31 = some (.goto 23, 3, 54, 0, 0, []) := by decide +kernel
theorem f216_34 : pm_f 216 34 = some (.iload_n 1, 1, 1, 0, 0, []) := by decide +kernel
theorem f216_35 : pm_f 216 35 = some (.iconst 4, 1, 0, 0, 4, []) := by decide +kernel
theorem f216_36 : pm_f 216 36 = some (.if_icmp .ne 17, 3, 53, 0, 0, []) := by decide +kernel
theorem f216_39 : pm_f 216 39 = some (.lload_n 2, 1, 2, 0, 0, []) := by decide +kernel
theorem f216_40 : pm_f 216 40 = some (.lconst 0, 1, 0, 0, 0, []) := by decide +kernel
theorem f216_41 : pm_f 216 41 = some (.lcmp, 1, 0, 0, 0, []) := by decide +kernel
theorem f216_42 : pm_f 216 42 = some (.ifCond .eq 7, 3, 49, 0, 0, []) := by decide +kernel
theorem f216_45 : pm_f 216 45 = some (.lconst 1, 1, 0, 0, 1, []) := by decide +kernel
theorem f216_46 : pm_f 216 46 = some (.goto 8, 3, 54, 0, 0, []) := by decide +kernel
theorem f216_49 : pm_f 216 49 = some (.lconst 0, 1, 0, 0, 0, []) := by decide +kernel
theorem f216_50 : pm_f 216 50 = some (.goto 4, 3, 54, 0, 0, []) := by decide +kernel
theorem f216_53 : pm_f 216 53 = some (.lload_n 2, 1, 2, 0, 0, []) := by decide +kernel
theorem f216_54 : pm_f 216 54 = some (.lreturn, 1, 0, 0, 0, []) := by decide +kernel
theorem f217_0 : pm_f 217 0 = some (.aload_n 0, 1, 0, 0, 0, []) := by decide +kernel
theorem f217_1 : pm_f 217 1 = some (.iload_n 1, 1, 1, 0, 0, []) := by decide +kernel
theorem f217_2 : pm_f 217 2 = some (.invokevirtual 406, 3, 214, 1, 8, []) := by decide +kernel
theorem f217_5 : pm_f 217 5 = some (.ifCond .ne 5, 3, 10, 0, 0, []) := by decide +kernel
theorem f217_8 : pm_f 217 8 = some (.iconst (-1), 1, 0, 0, (-1), []) := by decide +kernel
theorem f217_9 : pm_f 217 9 = some (.ireturn, 1, 0, 0, 0, []) := by decide +kernel
theorem f217_10 : pm_f 217 10 = some (.aload_n 0, 1, 0, 0, 0, []) := by decide +kernel
theorem f217_11 : pm_f 217 11 = some (.getfield 226, 3, 8, 71, 2, []) := by decide +kernel
theorem f217_14 : pm_f 217 14 = some (.iload_n 1, 1, 1, 0, 0, []) := by decide +kernel
theorem f217_15 : pm_f 217 15 = some (.iaload, 1, 0, 0, 0, []) := by decide +kernel
theorem f217_16 : pm_f 217 16 = some (.ifCond .ge 6, 3, 22, 0, 0, []) := by decide +kernel
theorem f217_19 : pm_f 217 19 = some (.bipush (-11), 2, 0, 0, (-11), []) := by decide +kernel
theorem f217_21 : pm_f 217 21 = some (.ireturn, 1, 0, 0, 0, []) := by decide +kernel
theorem f217_22 : pm_f 217 22 = some (.aload_n 0, 1, 0, 0, 0, []) := by decide +kernel
theorem f217_23 : pm_f 217 23 = some (.iload_n 2, 1, 2, 0, 0, []) := by decide +kernel
theorem f217_24 : pm_f 217 24 = some (.iconst 0, 1, 0, 0, 0, []) := by decide +kernel
theorem f217_25 : pm_f 217 25 = some (.aload_n 0, 1, 0, 0, 0, []) := by decide +kernel
theorem f217_26 : pm_f 217 26 = some (.getfield 229, 3, 8, 72, 2, []) := by decide +kernel
theorem f217_29 : pm_f 217 29 = some (.iload_n 1, 1, 1, 0, 0, []) := by decide +kernel
theorem f217_30 : pm_f 217 30 = some (.iaload, 1, 0, 0, 0, []) := by decide +kernel
theorem f217_31 : pm_f 217 31 = some (.iconst 1, 1, 0, 0, 1, []) := by decide +kernel
theorem f217_32 : pm_f 217 32 = some (.isub, 1, 0, 0, 0, []) := by decide +kernel
theorem f217_33 : pm_f 217 33 = some (.invokevirtual 239, 3, 122, 3, 8, []) := by decide +kernel
theorem f217_36 : pm_f 217 36 = some (.ifCond .ne 6, 3, 42, 0, 0, []) := by decide +kernel
theorem f217_39 : pm_f 217 39 = some (.bipush (-13), 2, 0, 0, (-13), []) := by decide +kernel
theorem f217_41 : pm_f 217 41 = some (.ireturn, 1, 0, 0, 0, []) := by decide +kernel
theorem f217_42 : pm_f 217 42 = some (.aload_n 0, 1, 0, 0, 0, []) := by decide +kernel
theorem f217_43 : pm_f 217 43 = some (.getfield 232, 3, 8, 73, 2, []) := by decide +kernel
theorem f217_46 : pm_f 217 46 = some (.bipush 60, 2, 0, 0, 60, []) := by decide +kernel
theorem f217_48 : pm_f 217 48 = some (.iload_n 1, 1, 1, 0, 0, []) := by decide +kernel
theorem f217_49 : pm_f 217 49 = some (.imul, 1, 0, 0, 0, []) := by decide +kernel
theorem f217_50 : pm_f 217 50 = some (.iload_n 2, 1, 2, 0, 0, []) := by decide +kernel
theorem f217_51 : pm_f 217 51 = some (.iadd, 1, 0, 0, 0, []) := by decide +kernel
theorem f217_52 : pm_f 217 52 = some (.aload_n 0, 1, 0, 0, 0, []) := by decide +kernel
theorem f217_53 : pm_f 217 53 = some (.aload_n 0, 1, 0, 0, 0, []) := by decide +kernel
theorem f217_54 : pm_f 217 54 = some (.getfield 226, 3, 8, 71, 2, []) := by decide +kernel
theorem f217_57 : pm_f 217 57 = some (.iload_n 1, 1, 1, 0, 0, []) := by decide +kernel
theorem f217_58 : pm_f 217 58 = some (.iaload, 1, 0, 0, 0, []) := by decide +kernel
theorem f217_59 : pm_f 217 59 = some (.lload_n 3, 1, 3, 0, 0, []) := by decide +kernel
theorem f217_60 : pm_f 217 60 = some (.invokevirtual 433, 3, 216, 2, 8, []) := by decide +kernel
theorem f217_63 : pm_f 217 63 = some (.lastore, 1, 0, 0, 0, []) := by decide +kernel
theorem f217_64 : pm_f 217 64 = some (.iconst 1, 1, 0, 0, 1, []) := by decide +kernel
theorem f217_65 : pm_f 217 65 = some (.ireturn, 1, 0, 0, 0, []) := by decide +kernel
theorem f218_0 : pm_f 218 0 = some (.aload_n 0, 1, 0, 0, 0, []) := by decide +kernel
theorem f218_1 : pm_f 218 1 = some (.iload_n 1, 1, 1, 0, 0, []) := by decide +kernel
theorem f218_2 : pm_f 218 2 = some (.invokevirtual 406, 3, 214, 1, 8, []) := by decide +kernel
theorem f218_5 : pm_f 218 5 = some (.ifCond .eq 29, 3, 34, 0, 0, []) := by decide +kernel
theorem f218_8 : pm_f 218 8 = some (.aload_n 0, 1, 0, 0, 0, []) := by decide +kernel
theorem f218_9 : pm_f 218 9 = some (.getfield 226, 3, 8, 71, 2, []) := by decide +kernel
theorem f218_12 : pm_f 218 12 = some (.iload_n 1, 1, 1, 0, 0, []) := by decide +kernel
theorem f218_13 : pm_f 218 13 = some (.iaload, 1, 0, 0, 0, []) := by decide +kernel
theorem f218_14 : pm_f 218 14 = some (.ifCond .lt 20, 3, 34, 0, 0, []) := by decide +kernel
theorem f218_17 : pm_f 218 17 = some (.aload_n 0, 1, 0, 0, 0, []) := by decide +kernel
theorem f218_18 : pm_f 218 18 = some (.iload_n 2, 1, 2, 0, 0, []) := by decide +kernel
theorem f218_19 : pm_f 218 19 = some (.iconst 0, 1, 0, 0, 0, []) := by decide +kernel
theorem f218_20 : pm_f 218 20 = some (.aload_n 0, 1, 0, 0, 0, []) := by decide +kernel
theorem f218_21 : pm_f 218 21 = some (.getfield 229, 3, 8, 72, 2, []) := by decide +kernel
theorem f218_24 : pm_f 218 24 = some (.iload_n 1, 1, 1, 0, 0, []) := by decide +kernel
theorem f218_25 : pm_f 218 25 = some (.iaload, 1, 0, 0, 0, []) := by decide +kernel
theorem f218_26 : pm_f 218 26 = some (.iconst 1, 1, 0, 0, 1, []) := by decide +kernel
theorem f218_27 : pm_f 218 27 = some (.isub, 1, 0, 0, 0, []) := by decide +kernel
theorem f218_28 : pm_f 218 28 = some (.invokevirtual 239, 3, 122, 3, 8, []) := by decide +kernel
theorem f218_31 : pm_f 218 31 = some (.ifCond .ne 9, 3, 40, 0, 0, []) := by decide +kernel
theorem f218_34 : pm_f 218 34 = some (.ldc2_w 400, 3, 0, 0, (-9223372036854775808), []) := by decide +kernel
theorem f218_37 : pm_f 218 37 = some (.goto 14, 3, 51, 0, 0, []) := by decide +kernel
theorem f218_40 : pm_f 218 40 = some (.aload_n 0, 1, 0, 0, 0, []) := by decide +kernel
theorem f218_41 : pm_f 218 41 = some (.getfield 232, 3, 8, 73, 2, []) := by decide +kernel
theorem f218_44 : pm_f 218 44 = some (.bipush 60, 2, 0, 0, 60, []) := by decide +kernel
theorem f218_46 : pm_f 218 46 = some (.iload_n 1, 1, 1, 0, 0, []) := by decide +kernel
theorem f218_47 : pm_f 218 47 = some (.imul, 1, 0, 0, 0, []) := by decide +kernel
theorem f218_48 : pm_f 218 48 = some (.iload_n 2, 1, 2, 0, 0, []) := by decide +kernel
theorem f218_49 : pm_f 218 49 = some (.iadd, 1, 0, 0, 0, []) := by decide +kernel
theorem f218_50 : pm_f 218 50 = some (.laload, 1, 0, 0, 0, []) := by decide +kernel
theorem f218_51 : pm_f 218 51 = some (.lreturn, 1, 0, 0, 0, []) := by decide +kernel
theorem f219_0 : pm_f 219 0 = some (.aload_n 0, 1, 0, 0, 0, []) := by decide +kernel
theorem f219_1 : pm_f 219 1 = some (.iload_n 1, 1, 1, 0, 0, []) := by decide +kernel
theorem f219_2 : pm_f 219 2 = some (.invokevirtual 406, 3, 214, 1, 8, []) := by decide +kernel
theorem f219_5 : pm_f 219 5 = some (.ifCond .eq 11, 3, 16, 0, 0, []) := by decide +kernel
theorem f219_8 : pm_f 219 8 = some (.aload_n 0, 1, 0, 0, 0, []) := by decide +kernel
theorem f219_9 : pm_f 219 9 = some (.iload_n 3, 1, 3, 0, 0, []) := by decide +kernel
theorem f219_10 : pm_f 219 10 = some (.invokevirtual 406, 3, 214, 1, 8, []) := by decide +kernel
theorem f219_13 : pm_f 219 13 = some (.ifCond .ne 5, 3, 18, 0, 0, []) := by decide +kernel
theorem f219_16 : pm_f 219 16 = some (.iconst (-1), 1, 0, 0, (-1), []) := by decide +kernel
theorem f219_17 : pm_f 219 17 = some (.ireturn, 1, 0, 0, 0, []) := by decide +kernel
theorem f219_18 : pm_f 219 18 = some (.aload_n 0, 1, 0, 0, 0, []) := by decide +kernel
theorem f219_19 : pm_f 219 19 = some (.getfield 226, 3, 8, 71, 2, []) := by decide +kernel
theorem f219_22 : pm_f 219 22 = some (.iload_n 1, 1, 1, 0, 0, []) := by decide +kernel
theorem f219_23 : pm_f 219 23 = some (.iaload, 1, 0, 0, 0, []) := by decide +kernel
theorem f219_24 : pm_f 219 24 = some (.ifCond .lt 12, 3, 36, 0, 0, []) := by decide +kernel
theorem f219_27 : pm_f 219 27 = some (.aload_n 0, 1, 0, 0, 0, []) := by decide +kernel
theorem f219_28 : pm_f 219 28 = some (.getfield 226, 3, 8, 71, 2, []) := by decide +kernel
theorem f219_31 : pm_f 219 31 = some (.iload_n 3, 1, 3, 0, 0, []) := by decide +kernel
theorem f219_32 : pm_f 219 32 = some (.iaload, 1, 0, 0, 0, []) := by decide +kernel
theorem f219_33 : pm_f 219 33 = some (.ifCond .ge 6, 3, 39, 0, 0, []) := by decide +kernel
theorem f219_36 : pm_f 219 36 = some (.bipush (-11), 2, 0, 0, (-11), []) := by decide +kernel
theorem f219_38 : pm_f 219 38 = some (.ireturn, 1, 0, 0, 0, []) := by decide +kernel
theorem f219_39 : pm_f 219 39 = some (.aload_n 0, 1, 0, 0, 0, []) := by decide +kernel
theorem f219_40 : pm_f 219 40 = some (.getfield 226, 3, 8, 71, 2, []) := by decide +kernel
theorem f219_43 : pm_f 219 43 = some (.iload_n 1, 1, 1, 0, 0, []) := by decide +kernel
theorem f219_44 : pm_f 219 44 = some (.iaload, 1, 0, 0, 0, []) := by decide +kernel
theorem f219_45 : pm_f 219 45 = some (.aload_n 0, 1, 0, 0, 0, []) := by decide +kernel
theorem f219_46 : pm_f 219 46 = some (.getfield 226, 3, 8, 71, 2, []) := by decide +kernel
theorem f219_49 : pm_f 219 49 = some (.iload_n 3, 1, 3, 0, 0, []) := by decide +kernel
theorem f219_50 : pm_f 219 50 = some (.iaload, 1, 0, 0, 0, []) := by decide +kernel
theorem f219_51 : pm_f 219 51 = some (.if_icmp .eq 6, 3, 57, 0, 0, []) := by decide +kernel
theorem f219_54 : pm_f 219 54 = some (.bipush (-12), 2, 0, 0, (-12), []) := by decide +kernel
theorem f219_56 : pm_f 219 56 = some (.ireturn, 1, 0, 0, 0, []) := by decide +kernel
theorem f219_57 : pm_f 219 57 = some (.iload 5, 2, 5, 0, 0, []) := by decide +kernel
theorem f219_59 : pm_f 219 59 = some (.ifCond .lt 39, 3, 98, 0, 0, []) := by decide +kernel
theorem f219_62 : pm_f 219 62 = some (.iload_n 2, 1, 2, 0, 0, []) := by decide +kernel
theorem f219_63 : pm_f 219 63 = some (.ifCond .lt 35, 3, 98, 0, 0, []) := by decide +kernel
theorem f219_66 : pm_f 219 66 = some (.iload 4, 2, 4, 0, 0, []) := by decide +kernel
theorem f219_68 : pm_f 219 68 = some (.ifCond .lt 30, 3, 98, 0, 0, []) := by decide +kernel
theorem f219_71 : pm_f 219 71 = some (.iload_n 2, 1, 2, 0, 0, []) := by decide +kernel
theorem f219_72 : pm_f 219 72 = some (.aload_n 0, 1, 0, 0, 0, []) := by decide +kernel
theorem f219_73 : pm_f 219 73 = some (.getfield 229, 3, 8, 72, 2, []) := by decide +kernel
theorem f219_76 : pm_f 219 76 = some (.iload_n 1, 1, 1, 0, 0, []) := by decide +kernel
theorem f219_77 : pm_f 219 77 = some (.iaload, 1, 0, 0, 0, []) := by decide +kernel
theorem f219_78 : pm_f 219 78 = some (.iload 5, 2, 5, 0, 0, []) := by decide +kernel
theorem f219_80 : pm_f 219 80 = some (.isub, 1, 0, 0, 0, []) := by decide +kernel
theorem f219_81 : pm_f 219 81 = some (.if_icmp .gt 17, 3, 98, 0, 0, []) := by decide +kernel
theorem f219_84 : pm_f 219 84 = some (.iload 4, 2, 4, 0, 0, []) := by decide +kernel
theorem f219_86 : pm_f 219 86 = some (.aload_n 0, 1, 0, 0, 0, []) := by decide +kernel
theorem f219_87 : pm_f 219 87 = some (.getfield 229, 3, 8, 72, 2, []) := by decide +kernel
theorem f219_90 : pm_f 219 90 = some (.iload_n 3, 1, 3, 0, 0, []) := by decide +kernel
theorem f219_91 : pm_f 219 91 = some (.iaload, 1, 0, 0, 0, []) := by decide +kernel
theorem f219_92 : pm_f 219 92 = some (.iload 5, 2, 5, 0, 0, []) := by decide +kernel
theorem f219_94 : pm_f 219 94 = some (.isub, 1, 0, 0, 0, []) := by decide +kernel
theorem f219_95 : pm_f 219 95 = some (.if_icmp .le 6, 3, 101, 0, 0, []) := by decide +kernel
theorem f219_98 : pm_f 219 98 = some (.bipush (-13), 2, 0, 0, (-13), []) := by decide +kernel
theorem f219_100 : pm_f 219 100 = some (.ireturn, 1, 0, 0, 0, []) := by decide +kernel
theorem f219_101 : pm_f 219 101 = some (.iconst 0, 1, 0, 0, 0, []) := by decide +kernel
theorem f219_102 : pm_f 219 102 = some (.istore 6, 2, 6, 0, 0, []) := by decide +kernel
theorem f219_104 : pm_f 219 104 = some (.iload 6, 2, 6, 0, 0, []) := by decide +kernel
theorem f219_106 : pm_f 219 106 = some (.iload 5, 2, 5, 0, 0, []) := by decide +kernel
theorem f219_108 : pm_f 219 108 = some (.if_icmp .ge 30, 3, 138, 0, 0, []) := by decide +kernel
theorem f219_111 : pm_f 219 111 = some (.aload_n 0, 1, 0, 0, 0, []) := by decide +kernel
theorem f219_112 : pm_f 219 112 = some (.getfield 236, 3, 8, 74, 2, []) := by decide +kernel
theorem f219_115 : pm_f 219 115 = some (.iload 6, 2, 6, 0, 0, []) := by decide +kernel
theorem f219_117 : pm_f 219 117 = some (.aload_n 0, 1, 0, 0, 0, []) := by decide +kernel
theorem f219_118 : pm_f 219 118 = some (.getfield 232, 3, 8, 73, 2, []) := by decide +kernel
theorem f219_121 : pm_f 219 121 = some (.bipush 60, 2, 0, 0, 60, []) := by decide +kernel
theorem f219_123 : pm_f 219 123 = some (.iload_n 1, 1, 1, 0, 0, []) := by decide +kernel
theorem f219_124 : pm_f 219 124 = some (.imul, 1, 0, 0, 0, []) := by decide +kernel
theorem f219_125 : pm_f 219 125 = some (.iload_n 2, 1, 2, 0, 0, []) := by decide +kernel
theorem f219_126 : pm_f 219 126 = some (.iadd, 1, 0, 0, 0, []) := by decide +kernel
theorem f219_127 : pm_f 219 127 = some (.iload 6, 2, 6, 0, 0, []) := by decide +kernel
theorem f219_129 : pm_f 219 129 = some (.iadd, 1, 0, 0, 0, []) := by decide +kernel
theorem f219_130 : pm_f 219 130 = some (.laload, 1, 0, 0, 0, []) := by decide +kernel
theorem f219_131 : pm_f 219 131 = some (.lastore, 1, 0, 0, 0, []) := by decide +kernel
theorem f219_132 : pm_f 219 132 = some (.iinc 6 1, 3, 6, 0, 1, []) := by decide +kernel
theorem f219_135 : pm_f 219 135 = some (.goto (-31), 3, 104, 0, 0, []) := by decide +kernel
theorem f219_138 : pm_f 219 138 = some (.iconst 0, 1, 0, 0, 0, []) := by decide +kernel
theorem f219_139 : pm_f 219 139 = some (.istore 6, 2, 6, 0, 0, []) := by decide +kernel
theorem f219_141 : pm_f 219 141 = some (.iload 6, 2, 6, 0, 0, []) := by decide +kernel
theorem f219_143 : pm_f 219 143 = some (.iload 5, 2, 5, 0, 0, []) := by decide +kernel
theorem f219_145 : pm_f 219 145 = some (.if_icmp .ge 31, 3, 176, 0, 0, []) := by decide +kernel
theorem f219_148 : pm_f 219 148 = some (.aload_n 0, 1, 0, 0, 0, []) := by decide +kernel
theorem f219_149 : pm_f 219 149 = some (.getfield 232, 3, 8, 73, 2, []) := by decide +kernel
theorem f219_152 : pm_f 219 152 = some (.bipush 60, 2, 0, 0, 60, []) := by decide +kernel
theorem f219_154 : pm_f 219 154 = some (.iload_n 3, 1, 3, 0, 0, []) := by decide +kernel
theorem f219_155 : pm_f 219 155 = some (.imul, 1, 0, 0, 0, []) := by decide +kernel
theorem f219_156 : pm_f 219 156 = some (.iload 4, 2, 4, 0, 0, []) := by decide +kernel
theorem f219_158 : pm_f 219 158 = some (.iadd, 1, 0, 0, 0, []) := by decide +kernel
theorem f219_159 : pm_f 219 159 = some (.iload 6, 2, 6, 0, 0, []) := by decide +kernel
theorem f219_161 : pm_f 219 161 = some (.iadd, 1, 0, 0, 0, []) := by decide +kernel
theorem f219_162 : pm_f 219 162 = some (.aload_n 0, 1, 0, 0, 0, []) := by decide +kernel
theorem f219_163 : pm_f 219 163 = some (.getfield 236, 3, 8, 74, 2, []) := by decide +kernel
theorem f219_166 : pm_f 219 166 = some (.iload 6, 2, 6, 0, 0, []) := by decide +kernel
theorem f219_168 : pm_f 219 168 = some (.laload, 1, 0, 0, 0, []) := by decide +kernel
theorem f219_169 : pm_f 219 169 = some (.lastore, 1, 0, 0, 0, []) := by decide +kernel
theorem f219_170 : pm_f 219 170 = some (.iinc 6 1, 3, 6, 0, 1, []) := by decide +kernel
theorem f219_173 : pm_f 219 173 = some (.goto (-32), 3, 141, 0, 0, []) := by decide +kernel
theorem f219_176 : pm_f 219 176 = some (.iload 5, 2, 5, 0, 0, []) := by decide +kernel
theorem f219_178 : pm_f 219 178 = some (.ireturn, 1, 0, 0, 0, []) := by decide +kernel
theorem f220_0 : pm_f 220 0 = some (.aload_n 0, 1, 0, 0, 0, []) := by decide +kernel
theorem f220_1 : pm_f 220 1 = some (.invokevirtual 492, 3, 223, 0, (-1), []) := by decide +kernel
theorem f220_4 : pm_f 220 4 = some (.ifCond .eq 12, 3, 16, 0, 0, []) := by decide +kernel
theorem f220_7 : pm_f 220 7 = some (.aload_n 0, 1, 0, 0, 0, []) := by decide +kernel
theorem f220_8 : pm_f 220 8 = some (.getfield 9, 3, 0, 0, (-1), []) := by decide +kernel
theorem f220_11 : pm_f 220 11 = some (.iload_n 1, 1, 1, 0, 0, []) := by decide +kernel
theorem f220_12 : pm_f 220 12 = some (.invokestatic 495, 3, 225, 2, 0, []) := by decide +kernel
theorem f220_15 : pm_f 220 15 = some (.ireturn, 1, 0, 0, 2, []) := by decide +kernel
theorem f220_16 : pm_f 220 16 = some (.aload_n 0, 1, 0, 0, 0, []) := by decide +kernel
theorem f220_17 : pm_f 220 17 = some (.getfield 9, 3, 0, 0, (-1), []) := by decide +kernel
theorem f220_20 : pm_f 220 20 = some (.iload_n 1, 1, 1, 0, 0, []) := by decide +kernel
theorem f220_24 : pm_f 220 24 = some (.ireturn, 1, 0, 0, 2, []) := by decide +kernel
theorem f221_0 : pm_f 221 0 = some (.iload_n 0, 1, 0, 0, 0, []) := by decide +kernel
theorem f221_1 : pm_f 221 1 = some (.iload_n 1, 1, 1, 0, 0, []) := by decide +kernel
theorem f221_2 : pm_f 221 2 = some (.getstatic 1053, 3, 1000003, 0, 1, []) := by decide +kernel
theorem f221_5 : pm_f 221 5 = some (.invokestatic 1059, 3, 226, 3, 0, []) := by decide +kernel
theorem f221_8 : pm_f 221 8 = some (.pop, 1, 0, 0, 0, []) := by decide +kernel
theorem f221_9 : pm_f 221 9 = some (.return_, 1, 0, 0, 0, []) := by decide +kernel
theorem f222_0 : pm_f 222 0 = some (.getstatic 38, 3, 1, 0, 0, []) := by decide +kernel
theorem f222_3 : pm_f 222 3 = some (.ifCond .eq 10, 3, 13, 0, 0, []) := by decide +kernel
theorem f222_6 : pm_f 222 6 = some (.aload_n 0, 1, 0, 0, 0, []) := by decide +kernel
theorem f222_7 : pm_f 222 7 = some (.getfield 15, 3, 0, 0, (-2), []) := by decide +kernel
theorem f222_10 : pm_f 222 10 = some (.goto 4, 3, 14, 0, 0, []) := by decide +kernel
theorem f222_13 : pm_f 222 13 = some (.iconst 1, 1, 0, 0, 1, []) := by decide +kernel
theorem f222_14 : pm_f 222 14 = some (.ireturn, 1, 0, 0, 3, []) := by decide +kernel
theorem f223_0 : pm_f 223 0 = some (.getstatic 38, 3, 1, 0, 0, []) := by decide +kernel
theorem f223_3 : pm_f 223 3 = some (.ifCond .eq 14, 3, 17, 0, 0, []) := by decide +kernel
theorem f223_6 : pm_f 223 6 = some (.aload_n 0, 1, 0, 0, 0, []) := by decide +kernel
theorem f223_7 : pm_f 223 7 = some (.getfield 15, 3, 0, 0, (-2), []) := by decide +kernel
theorem f223_10 : pm_f 223 10 = some (.ifCond .ne 7, 3, 17, 0, 0, []) := by decide +kernel
theorem f223_13 : pm_f 223 13 = some (.iconst 1, 1, 0, 0, 1, []) := by decide +kernel
theorem f223_14 : pm_f 223 14 = some (.goto 4, 3, 18, 0, 0, []) := by decide +kernel
theorem f223_17 : pm_f 223 17 = some (.iconst 0, 1, 0, 0, 0, []) := by decide +kernel
theorem f223_18 : pm_f 223 18 = some (.ireturn, 1, 0, 0, 1, []) := by decide +kernel
theorem f224_0 : pm_f 224 0 = some (.aload_n 0, 1, 0, 0, 0, []) := by decide +kernel
theorem f224_1 : pm_f 224 1 = some (.getfield 9, 3, 0, 0, (-1), []) := by decide +kernel
theorem f224_4 : pm_f 224 4 = some (.arraylength, 1, 2, 0, 0, []) := by decide +kernel
theorem f224_5 : pm_f 224 5 = some (.aload_n 0, 1, 0, 0, 0, []) := by decide +kernel
theorem f224_6 : pm_f 224 6 = some (.invokevirtual 335, 3, 222, 0, (-1), []) := by decide +kernel
theorem f224_9 : pm_f 224 9 = some (.ishr, 1, 0, 0, 0, []) := by decide +kernel
theorem f224_10 : pm_f 224 10 = some (.ireturn, 1, 0, 0, 0, []) := by decide +kernel
theorem f225_0 : pm_f 225 0 = some (.iload_n 1, 1, 1, 0, 0, []) := by decide +kernel
theorem f225_1 : pm_f 225 1 = some (.aload_n 0, 1, 0, 0, 0, []) := by decide +kernel
theorem f225_2 : pm_f 225 2 = some (.arraylength, 1, 2, 0, 0, []) := by decide +kernel
theorem f225_3 : pm_f 225 3 = some (.invokestatic 9, 3, 221, 2, 0, []) := by decide +kernel
theorem f225_6 : pm_f 225 6 = some (.aload_n 0, 1, 0, 0, 0, []) := by decide +kernel
theorem f225_7 : pm_f 225 7 = some (.iload_n 1, 1, 1, 0, 0, []) := by decide +kernel
theorem f225_8 : pm_f 225 8 = some (.baload, 1, 1, 0, 0, []) := by decide +kernel
theorem f225_9 : pm_f 225 9 = some (.sipush 255, 3, 0, 0, 255, []) := by decide +kernel
theorem f225_12 : pm_f 225 12 = some (.iand, 1, 0, 0, 0, []) := by decide +kernel
theorem f225_13 : pm_f 225 13 = some (.i2c, 1, 0, 0, 0, []) := by decide +kernel
theorem f225_14 : pm_f 225 14 = some (.ireturn, 1, 0, 0, 2, []) := by decide +kernel
theorem f226_0 : pm_f 226 0 = some (.iload_n 0, 1, 0, 0, 0, []) := by decide +kernel
theorem f226_1 : pm_f 226 1 = some (.ifCond .lt 8, 3, 9, 0, 0, []) := by decide +kernel
theorem f226_4 : pm_f 226 4 = some (.iload_n 0, 1, 0, 0, 0, []) := by decide +kernel
theorem f226_5 : pm_f 226 5 = some (.iload_n 1, 1, 1, 0, 0, []) := by decide +kernel
theorem f226_6 : pm_f 226 6 = some (.if_icmp .lt 10, 3, 16, 0, 0, []) := by decide +kernel
theorem f226_9 : pm_f 226 9 = some (.aload_n 2, 1, 2, 0, 0, []) := by decide +kernel
theorem f226_10 : pm_f 226 10 = some (.iload_n 0, 1, 0, 0, 0, []) := by decide +kernel
theorem f226_11 : pm_f 226 11 = some (.iload_n 1, 1, 1, 0, 0, []) := by decide +kernel
theorem f226_16 : pm_f 226 16 = some (.iload_n 0, 1, 0, 0, 0, []) := by decide +kernel
theorem f226_17 : pm_f 226 17 = some (.ireturn, 1, 0, 0, 0, []) := by decide +kernel
theorem f227_0 : pm_f 227 0 = some (.new 7, 3, 7, 15, 0, []) := by decide +kernel
theorem f227_3 : pm_f 227 3 = some (.dup, 1, 0, 0, 0, []) := by decide +kernel
theorem f227_4 : pm_f 227 4 = some (.invokespecial 9, 3, 74, 0, 0, []) := by decide +kernel
theorem f227_7 : pm_f 227 7 = some (.astore_n 1, 1, 1, 0, 0, []) := by decide +kernel
theorem f227_8 : pm_f 227 8 = some (.new 10, 3, 8, 75, 0, []) := by decide +kernel
theorem f227_11 : pm_f 227 11 = some (.dup, 1, 0, 0, 0, []) := by decide +kernel
theorem f227_12 : pm_f 227 12 = some (.invokespecial 12, 3, 121, 0, 0, []) := by decide +kernel
theorem f227_15 : pm_f 227 15 = some (.astore_n 2, 1, 2, 0, 0, []) := by decide +kernel
theorem f227_16 : pm_f 227 16 = some (.iconst 0, 1, 0, 0, 0, []) := by decide +kernel
theorem f227_17 : pm_f 227 17 = some (.istore_n 3, 1, 3, 0, 0, []) := by decide +kernel
theorem f227_18 : pm_f 227 18 = some (.iload_n 3, 1, 3, 0, 0, []) := by decide +kernel
theorem f227_19 : pm_f 227 19 = some (.aload_n 0, 1, 0, 0, 0, []) := by decide +kernel
theorem f227_20 : pm_f 227 20 = some (.arraylength, 1, 1, 0, 0, []) := by decide +kernel
theorem f227_21 : pm_f 227 21 = some (.bipush 6, 2, 0, 0, 6, []) := by decide +kernel
theorem f227_23 : pm_f 227 23 = some (.isub, 1, 0, 0, 0, []) := by decide +kernel
theorem f227_24 : pm_f 227 24 = some (.if_icmp .gt 1298, 3, 1322, 0, 0, []) := by decide +kernel
theorem f227_27 : pm_f 227 27 = some (.aload_n 0, 1, 0, 0, 0, []) := by decide +kernel
theorem f227_28 : pm_f 227 28 = some (.iload_n 3, 1, 3, 0, 0, []) := by decide +kernel
theorem f227_29 : pm_f 227 29 = some (.iaload, 1, 1, 0, 0, []) := by decide +kernel
theorem f227_30 : pm_f 227 30 = some (.bipush 63, 2, 0, 0, 63, []) := by decide +kernel
theorem f227_32 : pm_f 227 32 = some (.iand, 1, 0, 0, 0, []) := by decide +kernel
theorem f227_33 : pm_f 227 33 = some (.tableswitch 1283 0 36 #[163, 226, 259, 302, 351, 394, 417, 430, 453, 476, 509, 522, 535, 558, 571, 584, 607, 630, 673, 686, 719, 753, 787, 820, 843, 876, 889, 922, 935, 948, 991, 1014, 1047, 1070, 1113, 1186, 1220], 163, 1316, 0, 0, [(0, 196), (1, 259), (2, 292), (3, 335), (4, 384), (5, 427), (6, 450), (7, 463), (8, 486), (9, 509), (10, 542), (11, 555), (12, 568), (13, 591), (14, 604), (15, 617), (16, 640), (17, 663), (18, 706), (19, 719), (20, 752), (21, 786), (22, 820), (23, 853), (24, 876), (25, 909), (26, 922), (27, 955), (28, 968), (29, 981), (30, 1024), (31, 1047), (32, 1080), (33, 1103), (34, 1146), (35, 1219), (36, 1253)]) := by decide +kernel
theorem f227_196 : pm_f 227 196 = some (.aload_n 1, 1, 1, 0, 0, []) := by decide +kernel
theorem f227_197 : pm_f 227 197 = some (.aload_n 0, 1, 0, 0, 0, []) := by decide +kernel
theorem f227_198 : pm_f 227 198 = some (.iload_n 3, 1, 3, 0, 0, []) := by decide +kernel
theorem f227_199 : pm_f 227 199 = some (.iconst 1, 1, 0, 0, 1, []) := by decide +kernel
theorem f227_200 : pm_f 227 200 = some (.iadd, 1, 0, 0, 0, []) := by decide +kernel
theorem f227_201 : pm_f 227 201 = some (.iaload, 1, 1, 0, 0, []) := by decide +kernel
theorem f227_202 : pm_f 227 202 = some (.aload_n 0, 1, 0, 0, 0, []) := by decide +kernel
theorem f227_203 : pm_f 227 203 = some (.iload_n 3, 1, 3, 0, 0, []) := by decide +kernel
theorem f227_204 : pm_f 227 204 = some (.iconst 2, 1, 0, 0, 2, []) := by decide +kernel
theorem f227_205 : pm_f 227 205 = some (.iadd, 1, 0, 0, 0, []) := by decide +kernel
theorem f227_206 : pm_f 227 206 = some (.iaload, 1, 1, 0, 0, []) := by decide +kernel
theorem f227_207 : pm_f 227 207 = some (.aload_n 0, 1, 0, 0, 0, []) := by decide +kernel
theorem f227_208 : pm_f 227 208 = some (.iload_n 3, 1, 3, 0, 0, []) := by decide +kernel
theorem f227_209 : pm_f 227 209 = some (.iconst 3, 1, 0, 0, 3, []) := by decide +kernel
theorem f227_210 : pm_f 227 210 = some (.iadd, 1, 0, 0, 0, []) := by decide +kernel
theorem f227_211 : pm_f 227 211 = some (.iaload, 1, 1, 0, 0, []) := by decide +kernel
theorem f227_212 : pm_f 227 212 = some (.aload_n 0, 1, 0, 0, 0, []) := by decide +kernel
theorem f227_213 : pm_f 227 213 = some (.iload_n 3, 1, 3, 0, 0, []) := by decide +kernel
theorem f227_214 : pm_f 227 214 = some (.iconst 4, 1, 0, 0, 4, []) := by decide +kernel
theorem f227_215 : pm_f 227 215 = some (.iadd, 1, 0, 0, 0, []) := by decide +kernel
theorem f227_216 : pm_f 227 216 = some (.iaload, 1, 1, 0, 0, []) := by decide +kernel
theorem f227_217 : pm_f 227 217 = some (.aload_n 0, 1, 0, 0, 0, []) := by decide +kernel
theorem f227_218 : pm_f 227 218 = some (.iload_n 3, 1, 3, 0, 0, []) := by decide +kernel
theorem f227_219 : pm_f 227 219 = some (.iconst 5, 1, 0, 0, 5, []) := by decide +kernel
theorem f227_220 : pm_f 227 220 = some (.iadd, 1, 0, 0, 0, []) := by decide +kernel
theorem f227_221 : pm_f 227 221 = some (.iaload, 1, 1, 0, 0, []) := by decide +kernel
theorem f227_222 : pm_f 227 222 = some (.invokevirtual 13, 3, 75, 5, 7, []) := by decide +kernel
theorem f227_225 : pm_f 227 225 = some (.aload_n 2, 1, 2, 0, 0, []) := by decide +kernel
theorem f227_226 : pm_f 227 226 = some (.aload_n 0, 1, 0, 0, 0, []) := by decide +kernel
theorem f227_227 : pm_f 227 227 = some (.iload_n 3, 1, 3, 0, 0, []) := by decide +kernel
theorem f227_228 : pm_f 227 228 = some (.iconst 1, 1, 0, 0, 1, []) := by decide +kernel
theorem f227_229 : pm_f 227 229 = some (.iadd, 1, 0, 0, 0, []) := by decide +kernel
theorem f227_230 : pm_f 227 230 = some (.iaload, 1, 1, 0, 0, []) := by decide +kernel
theorem f227_231 : pm_f 227 231 = some (.aload_n 0, 1, 0, 0, 0, []) := by decide +kernel
theorem f227_232 : pm_f 227 232 = some (.iload_n 3, 1, 3, 0, 0, []) := by decide +kernel
theorem f227_233 : pm_f 227 233 = some (.iconst 2, 1, 0, 0, 2, []) := by decide +kernel
theorem f227_234 : pm_f 227 234 = some (.iadd, 1, 0, 0, 0, []) := by decide +kernel
theorem f227_235 : pm_f 227 235 = some (.iaload, 1, 1, 0, 0, []) := by decide +kernel
theorem f227_236 : pm_f 227 236 = some (.aload_n 0, 1, 0, 0, 0, []) := by decide +kernel
theorem f227_237 : pm_f 227 237 = some (.iload_n 3, 1, 3, 0, 0, []) := by decide +kernel
theorem f227_238 : pm_f 227 238 = some (.iconst 3, 1, 0, 0, 3, []) := by decide +kernel
theorem f227_239 : pm_f 227 239 = some (.iadd, 1, 0, 0, 0, []) := by decide +kernel
theorem f227_240 : pm_f 227 240 = some (.iaload, 1, 1, 0, 0, []) := by decide +kernel
theorem f227_241 : pm_f 227 241 = some (.aload_n 0, 1, 0, 0, 0, []) := by decide +kernel
theorem f227_242 : pm_f 227 242 = some (.iload_n 3, 1, 3, 0, 0, []) := by decide +kernel
theorem f227_243 : pm_f 227 243 = some (.iconst 4, 1, 0, 0, 4, []) := by decide +kernel
theorem f227_244 : pm_f 227 244 = some (.iadd, 1, 0, 0, 0, []) := by decide +kernel
theorem f227_245 : pm_f 227 245 = some (.iaload, 1, 1, 0, 0, []) := by decide +kernel
theorem f227_246 : pm_f 227 246 = some (.aload_n 0, 1, 0, 0, 0, []) := by decide +kernel
theorem f227_247 : pm_f 227 247 = some (.iload_n 3, 1, 3, 0, 0, []) := by decide +kernel
theorem f227_248 : pm_f 227 248 = some (.iconst 5, 1, 0, 0, 5, []) := by decide +kernel
theorem f227_249 : pm_f 227 249 = some (.iadd, 1, 0, 0, 0, []) := by decide +kernel
theorem f227_250 : pm_f 227 250 = some (.iaload, 1, 1, 0, 0, []) := by decide +kernel
theorem f227_251 : pm_f 227 251 = some (.invokevirtual 17, 3, 128, 5, 8, []) := by decide +kernel
theorem f227_254 : pm_f 227 254 = some (.if_icmp .eq 1062, 3, 1316, 0, 0, []) := by decide +kernel
theorem f227_257 : pm_f 227 257 = some (.iconst 0, 1, 0, 0, 0, []) := by decide +kernel
theorem f227_258 : pm_f 227 258 = some (.ireturn, 1, 0, 0, 1, []) := by decide +kernel
theorem f227_259 : pm_f 227 259 = some (.aload_n 1, 1, 1, 0, 0, []) := by decide +kernel
theorem f227_260 : pm_f 227 260 = some (.aload_n 0, 1, 0, 0, 0, []) := by decide +kernel
theorem f227_261 : pm_f 227 261 = some (.iload_n 3, 1, 3, 0, 0, []) := by decide +kernel
theorem f227_262 : pm_f 227 262 = some (.iconst 1, 1, 0, 0, 1, []) := by decide +kernel
theorem f227_263 : pm_f 227 263 = some (.iadd, 1, 0, 0, 0, []) := by decide +kernel
theorem f227_264 : pm_f 227 264 = some (.iaload, 1, 1, 0, 0, []) := by decide +kernel
theorem f227_265 : pm_f 227 265 = some (.aload_n 0, 1, 0, 0, 0, []) := by decide +kernel
theorem f227_266 : pm_f 227 266 = some (.iload_n 3, 1, 3, 0, 0, []) := by decide +kernel
theorem f227_267 : pm_f 227 267 = some (.iconst 2, 1, 0, 0, 2, []) := by decide +kernel
theorem f227_268 : pm_f 227 268 = some (.iadd, 1, 0, 0, 0, []) := by decide +kernel
theorem f227_269 : pm_f 227 269 = some (.iaload, 1, 1, 0, 0, []) := by decide +kernel
theorem f227_270 : pm_f 227 270 = some (.invokevirtual 18, 3, 76, 2, 7, []) := by decide +kernel
theorem f227_273 : pm_f 227 273 = some (.aload_n 2, 1, 2, 0, 0, []) := by decide +kernel
theorem f227_274 : pm_f 227 274 = some (.aload_n 0, 1, 0, 0, 0, []) := by decide +kernel
theorem f227_275 : pm_f 227 275 = some (.iload_n 3, 1, 3, 0, 0, []) := by decide +kernel
theorem f227_276 : pm_f 227 276 = some (.iconst 1, 1, 0, 0, 1, []) := by decide +kernel
theorem f227_277 : pm_f 227 277 = some (.iadd, 1, 0, 0, 0, []) := by decide +kernel
theorem f227_278 : pm_f 227 278 = some (.iaload, 1, 1, 0, 0, []) := by decide +kernel
theorem f227_279 : pm_f 227 279 = some (.aload_n 0, 1, 0, 0, 0, []) := by decide +kernel
theorem f227_280 : pm_f 227 280 = some (.iload_n 3, 1, 3, 0, 0, []) := by decide +kernel
theorem f227_281 : pm_f 227 281 = some (.iconst 2, 1, 0, 0, 2, []) := by decide +kernel
theorem f227_282 : pm_f 227 282 = some (.iadd, 1, 0, 0, 0, []) := by decide +kernel
theorem f227_283 : pm_f 227 283 = some (.iaload, 1, 1, 0, 0, []) := by decide +kernel
theorem f227_284 : pm_f 227 284 = some (.invokevirtual 22, 3, 165, 2, 8, []) := by decide +kernel
theorem f227_287 : pm_f 227 287 = some (.if_icmp .eq 1029, 3, 1316, 0, 0, []) := by decide +kernel
theorem f227_290 : pm_f 227 290 = some (.iconst 0, 1, 0, 0, 0, []) := by decide +kernel
theorem f227_291 : pm_f 227 291 = some (.ireturn, 1, 0, 0, 1, []) := by decide +kernel
theorem f227_292 : pm_f 227 292 = some (.aload_n 1, 1, 1, 0, 0, []) := by decide +kernel
theorem f227_293 : pm_f 227 293 = some (.aload_n 0, 1, 0, 0, 0, []) := by decide +kernel
theorem f227_294 : pm_f 227 294 = some (.iload_n 3, 1, 3, 0, 0, []) := by decide +kernel
theorem f227_295 : pm_f 227 295 = some (.iconst 1, 1, 0, 0, 1, []) := by decide +kernel
theorem f227_296 : pm_f 227 296 = some (.iadd, 1, 0, 0, 0, []) := by decide +kernel
theorem f227_297 : pm_f 227 297 = some (.iaload, 1, 1, 0, 0, []) := by decide +kernel
theorem f227_298 : pm_f 227 298 = some (.aload_n 0, 1, 0, 0, 0, []) := by decide +kernel
theorem f227_299 : pm_f 227 299 = some (.iload_n 3, 1, 3, 0, 0, []) := by decide +kernel
theorem f227_300 : pm_f 227 300 = some (.iconst 2, 1, 0, 0, 2, []) := by decide +kernel
theorem f227_301 : pm_f 227 301 = some (.iadd, 1, 0, 0, 0, []) := by decide +kernel
theorem f227_302 : pm_f 227 302 = some (.iaload, 1, 1, 0, 0, []) := by decide +kernel
theorem f227_303 : pm_f 227 303 = some (.aload_n 0, 1, 0, 0, 0, []) := by decide +kernel
theorem f227_304 : pm_f 227 304 = some (.iload_n 3, 1, 3, 0, 0, []) := by decide +kernel
theorem f227_305 : pm_f 227 305 = some (.iconst 3, 1, 0, 0, 3, []) := by decide +kernel
theorem f227_306 : pm_f 227 306 = some (.iadd, 1, 0, 0, 0, []) := by decide +kernel
theorem f227_307 : pm_f 227 307 = some (.iaload, 1, 1, 0, 0, []) := by decide +kernel
theorem f227_308 : pm_f 227 308 = some (.invokevirtual 23, 3, 77, 3, 7, []) := by decide +kernel
theorem f227_311 : pm_f 227 311 = some (.aload_n 2, 1, 2, 0, 0, []) := by decide +kernel
theorem f227_312 : pm_f 227 312 = some (.aload_n 0, 1, 0, 0, 0, []) := by decide +kernel
theorem f227_313 : pm_f 227 313 = some (.iload_n 3, 1, 3, 0, 0, []) := by decide +kernel
theorem f227_314 : pm_f 227 314 = some (.iconst 1, 1, 0, 0, 1, []) := by decide +kernel
theorem f227_315 : pm_f 227 315 = some (.iadd, 1, 0, 0, 0, []) := by decide +kernel
theorem f227_316 : pm_f 227 316 = some (.iaload, 1, 1, 0, 0, []) := by decide +kernel
theorem f227_317 : pm_f 227 317 = some (.aload_n 0, 1, 0, 0, 0, []) := by decide +kernel
theorem f227_318 : pm_f 227 318 = some (.iload_n 3, 1, 3, 0, 0, []) := by decide +kernel
theorem f227_319 : pm_f 227 319 = some (.iconst 2, 1, 0, 0, 2, []) := by decide +kernel
theorem f227_320 : pm_f 227 320 = some (.iadd, 1, 0, 0, 0, []) := by decide +kernel
theorem f227_321 : pm_f 227 321 = some (.iaload, 1, 1, 0, 0, []) := by decide +kernel
theorem f227_322 : pm_f 227 322 = some (.aload_n 0, 1, 0, 0, 0, []) := by decide +kernel
theorem f227_323 : pm_f 227 323 = some (.iload_n 3, 1, 3, 0, 0, []) := by decide +kernel
theorem f227_324 : pm_f 227 324 = some (.iconst 3, 1, 0, 0, 3, []) := by decide +kernel
theorem f227_325 : pm_f 227 325 = some (.iadd, 1, 0, 0, 0, []) := by decide +kernel
theorem f227_326 : pm_f 227 326 = some (.iaload, 1, 1, 0, 0, []) := by decide +kernel
theorem f227_327 : pm_f 227 327 = some (.invokevirtual 27, 3, 129, 3, 8, []) := by decide +kernel
theorem f227_330 : pm_f 227 330 = some (.if_icmp .eq 986, 3, 1316, 0, 0, []) := by decide +kernel
theorem f227_333 : pm_f 227 333 = some (.iconst 0, 1, 0, 0, 0, []) := by decide +kernel
theorem f227_334 : pm_f 227 334 = some (.ireturn, 1, 0, 0, 1, []) := by decide +kernel
theorem f227_335 : pm_f 227 335 = some (.aload_n 1, 1, 1, 0, 0, []) := by decide +kernel
theorem f227_336 : pm_f 227 336 = some (.aload_n 0, 1, 0, 0, 0, []) := by decide +kernel
theorem f227_337 : pm_f 227 337 = some (.iload_n 3, 1, 3, 0, 0, []) := by decide +kernel
theorem f227_338 : pm_f 227 338 = some (.iconst 1, 1, 0, 0, 1, []) := by decide +kernel
theorem f227_339 : pm_f 227 339 = some (.iadd, 1, 0, 0, 0, []) := by decide +kernel
theorem f227_340 : pm_f 227 340 = some (.iaload, 1, 1, 0, 0, []) := by decide +kernel
theorem f227_341 : pm_f 227 341 = some (.aload_n 0, 1, 0, 0, 0, []) := by decide +kernel
theorem f227_342 : pm_f 227 342 = some (.iload_n 3, 1, 3, 0, 0, []) := by decide +kernel
theorem f227_343 : pm_f 227 343 = some (.iconst 2, 1, 0, 0, 2, []) := by decide +kernel
theorem f227_344 : pm_f 227 344 = some (.iadd, 1, 0, 0, 0, []) := by decide +kernel
theorem f227_345 : pm_f 227 345 = some (.iaload, 1, 1, 0, 0, []) := by decide +kernel
theorem f227_346 : pm_f 227 346 = some (.ifCond .eq 7, 3, 353, 0, 0, []) := by decide +kernel
theorem f227_349 : pm_f 227 349 = some (.iconst 1, 1, 0, 0, 1, []) := by decide +kernel
theorem f227_350 : pm_f 227 350 = some (.goto 4, 3, 354, 0, 0, []) := by decide +kernel
theorem f227_353 : pm_f 227 353 = some (.iconst 0, 1, 0, 0, 0, []) := by decide +kernel
theorem f227_354 : pm_f 227 354 = some (.invokevirtual 28, 3, 78, 2, 7, []) := by decide +kernel
theorem f227_357 : pm_f 227 357 = some (.aload_n 2, 1, 2, 0, 0, []) := by decide +kernel
theorem f227_358 : pm_f 227 358 = some (.aload_n 0, 1, 0, 0, 0, []) := by decide +kernel
theorem f227_359 : pm_f 227 359 = some (.iload_n 3, 1, 3, 0, 0, []) := by decide +kernel
theorem f227_360 : pm_f 227 360 = some (.iconst 1, 1, 0, 0, 1, []) := by decide +kernel
theorem f227_361 : pm_f 227 361 = some (.iadd, 1, 0, 0, 0, []) := by decide +kernel
theorem f227_362 : pm_f 227 362 = some (.iaload, 1, 1, 0, 0, []) := by decide +kernel
theorem f227_363 : pm_f 227 363 = some (.aload_n 0, 1, 0, 0, 0, []) := by decide +kernel
theorem f227_364 : pm_f 227 364 = some (.iload_n 3, 1, 3, 0, 0, []) := by decide +kernel
theorem f227_365 : pm_f 227 365 = some (.iconst 2, 1, 0, 0, 2, []) := by decide +kernel
theorem f227_366 : pm_f 227 366 = some (.iadd, 1, 0, 0, 0, []) := by decide +kernel
theorem f227_367 : pm_f 227 367 = some (.iaload, 1, 1, 0, 0, []) := by decide +kernel
theorem f227_368 : pm_f 227 368 = some (.ifCond .eq 7, 3, 375, 0, 0, []) := by decide +kernel
theorem f227_371 : pm_f 227 371 = some (.iconst 1, 1, 0, 0, 1, []) := by decide +kernel
theorem f227_372 : pm_f 227 372 = some (.goto 4, 3, 376, 0, 0, []) := by decide +kernel
theorem f227_375 : pm_f 227 375 = some (.iconst 0, 1, 0, 0, 0, []) := by decide +kernel
theorem f227_376 : pm_f 227 376 = some (.invokevirtual 32, 3, 131, 2, 8, []) := by decide +kernel
theorem f227_379 : pm_f 227 379 = some (.if_icmp .eq 937, 3, 1316, 0, 0, []) := by decide +kernel
theorem f227_382 : pm_f 227 382 = some (.iconst 0, 1, 0, 0, 0, []) := by decide +kernel
theorem f227_383 : pm_f 227 383 = some (.ireturn, 1, 0, 0, 1, []) := by decide +kernel
theorem f227_384 : pm_f 227 384 = some (.aload_n 1, 1, 1, 0, 0, []) := by decide +kernel
theorem f227_385 : pm_f 227 385 = some (.aload_n 0, 1, 0, 0, 0, []) := by decide +kernel
theorem f227_386 : pm_f 227 386 = some (.iload_n 3, 1, 3, 0, 0, []) := by decide +kernel
theorem f227_387 : pm_f 227 387 = some (.iconst 1, 1, 0, 0, 1, []) := by decide +kernel
theorem f227_388 : pm_f 227 388 = some (.iadd, 1, 0, 0, 0, []) := by decide +kernel
theorem f227_389 : pm_f 227 389 = some (.iaload, 1, 1, 0, 0, []) := by decide +kernel
theorem f227_390 : pm_f 227 390 = some (.aload_n 0, 1, 0, 0, 0, []) := by decide +kernel
theorem f227_391 : pm_f 227 391 = some (.iload_n 3, 1, 3, 0, 0, []) := by decide +kernel
theorem f227_392 : pm_f 227 392 = some (.iconst 2, 1, 0, 0, 2, []) := by decide +kernel
theorem f227_393 : pm_f 227 393 = some (.iadd, 1, 0, 0, 0, []) := by decide +kernel
theorem f227_394 : pm_f 227 394 = some (.iaload, 1, 1, 0, 0, []) := by decide +kernel
theorem f227_395 : pm_f 227 395 = some (.aload_n 0, 1, 0, 0, 0, []) := by decide +kernel
theorem f227_396 : pm_f 227 396 = some (.iload_n 3, 1, 3, 0, 0, []) := by decide +kernel
theorem f227_397 : pm_f 227 397 = some (.iconst 3, 1, 0, 0, 3, []) := by decide +kernel
theorem f227_398 : pm_f 227 398 = some (.iadd, 1, 0, 0, 0, []) := by decide +kernel
theorem f227_399 : pm_f 227 399 = some (.iaload, 1, 1, 0, 0, []) := by decide +kernel
theorem f227_400 : pm_f 227 400 = some (.invokevirtual 33, 3, 79, 3, 7, []) := by decide +kernel
theorem f227_403 : pm_f 227 403 = some (.aload_n 2, 1, 2, 0, 0, []) := by decide +kernel
theorem f227_404 : pm_f 227 404 = some (.aload_n 0, 1, 0, 0, 0, []) := by decide +kernel
theorem f227_405 : pm_f 227 405 = some (.iload_n 3, 1, 3, 0, 0, []) := by decide +kernel
theorem f227_406 : pm_f 227 406 = some (.iconst 1, 1, 0, 0, 1, []) := by decide +kernel
theorem f227_407 : pm_f 227 407 = some (.iadd, 1, 0, 0, 0, []) := by decide +kernel
theorem f227_408 : pm_f 227 408 = some (.iaload, 1, 1, 0, 0, []) := by decide +kernel
theorem f227_409 : pm_f 227 409 = some (.aload_n 0, 1, 0, 0, 0, []) := by decide +kernel
theorem f227_410 : pm_f 227 410 = some (.iload_n 3, 1, 3, 0, 0, []) := by decide +kernel
theorem f227_411 : pm_f 227 411 = some (.iconst 2, 1, 0, 0, 2, []) := by decide +kernel
theorem f227_412 : pm_f 227 412 = some (.iadd, 1, 0, 0, 0, []) := by decide +kernel
theorem f227_413 : pm_f 227 413 = some (.iaload, 1, 1, 0, 0, []) := by decide +kernel
theorem f227_414 : pm_f 227 414 = some (.aload_n 0, 1, 0, 0, 0, []) := by decide +kernel
theorem f227_415 : pm_f 227 415 = some (.iload_n 3, 1, 3, 0, 0, []) := by decide +kernel
theorem f227_416 : pm_f 227 416 = some (.iconst 3, 1, 0, 0, 3, []) := by decide +kernel
theorem f227_417 : pm_f 227 417 = some (.iadd, 1, 0, 0, 0, []) := by decide +kernel
theorem f227_418 : pm_f 227 418 = some (.iaload, 1, 1, 0, 0, []) := by decide +kernel
theorem f227_419 : pm_f 227 419 = some (.invokevirtual 36, 3, 132, 3, 8, []) := by decide +kernel
theorem f227_422 : pm_f 227 422 = some (.if_icmp .eq 894, 3, 1316, 0, 0, []) := by decide +kernel
theorem f227_425 : pm_f 227 425 = some (.iconst 0, 1, 0, 0, 0, []) := by decide +kernel
theorem f227_426 : pm_f 227 426 = some (.ireturn, 1, 0, 0, 1, []) := by decide +kernel
theorem f227_427 : pm_f 227 427 = some (.aload_n 1, 1, 1, 0, 0, []) := by decide +kernel
theorem f227_428 : pm_f 227 428 = some (.aload_n 0, 1, 0, 0, 0, []) := by decide +kernel
theorem f227_429 : pm_f 227 429 = some (.iload_n 3, 1, 3, 0, 0, []) := by decide +kernel
theorem f227_430 : pm_f 227 430 = some (.iconst 1, 1, 0, 0, 1, []) := by decide +kernel
theorem f227_431 : pm_f 227 431 = some (.iadd, 1, 0, 0, 0, []) := by decide +kernel
theorem f227_432 : pm_f 227 432 = some (.iaload, 1, 1, 0, 0, []) := by decide +kernel
theorem f227_433 : pm_f 227 433 = some (.invokevirtual 37, 3, 80, 1, 7, []) := by decide +kernel
theorem f227_436 : pm_f 227 436 = some (.aload_n 2, 1, 2, 0, 0, []) := by decide +kernel
theorem f227_437 : pm_f 227 437 = some (.aload_n 0, 1, 0, 0, 0, []) := by decide +kernel
theorem f227_438 : pm_f 227 438 = some (.iload_n 3, 1, 3, 0, 0, []) := by decide +kernel
theorem f227_439 : pm_f 227 439 = some (.iconst 1, 1, 0, 0, 1, []) := by decide +kernel
theorem f227_440 : pm_f 227 440 = some (.iadd, 1, 0, 0, 0, []) := by decide +kernel
theorem f227_441 : pm_f 227 441 = some (.iaload, 1, 1, 0, 0, []) := by decide +kernel
theorem f227_442 : pm_f 227 442 = some (.invokevirtual 41, 3, 133, 1, 8, []) := by decide +kernel
theorem f227_445 : pm_f 227 445 = some (.if_icmp .eq 871, 3, 1316, 0, 0, []) := by decide +kernel
theorem f227_448 : pm_f 227 448 = some (.iconst 0, 1, 0, 0, 0, []) := by decide +kernel
theorem f227_449 : pm_f 227 449 = some (.ireturn, 1, 0, 0, 1, []) := by decide +kernel
theorem f227_450 : pm_f 227 450 = some (.aload_n 1, 1, 1, 0, 0, []) := by decide +kernel
theorem f227_451 : pm_f 227 451 = some (.invokevirtual 42, 3, 81, 0, 7, []) := by decide +kernel
theorem f227_454 : pm_f 227 454 = some (.aload_n 2, 1, 2, 0, 0, []) := by decide +kernel
theorem f227_455 : pm_f 227 455 = some (.invokevirtual 46, 3, 149, 0, 8, []) := by decide +kernel
theorem f227_458 : pm_f 227 458 = some (.if_icmp .eq 858, 3, 1316, 0, 0, []) := by decide +kernel
theorem f227_461 : pm_f 227 461 = some (.iconst 0, 1, 0, 0, 0, []) := by decide +kernel
theorem f227_462 : pm_f 227 462 = some (.ireturn, 1, 0, 0, 1, []) := by decide +kernel
theorem f227_463 : pm_f 227 463 = some (.aload_n 1, 1, 1, 0, 0, []) := by decide +kernel
theorem f227_464 : pm_f 227 464 = some (.aload_n 0, 1, 0, 0, 0, []) := by decide +kernel
theorem f227_465 : pm_f 227 465 = some (.iload_n 3, 1, 3, 0, 0, []) := by decide +kernel
theorem f227_466 : pm_f 227 466 = some (.iconst 1, 1, 0, 0, 1, []) := by decide +kernel
theorem f227_467 : pm_f 227 467 = some (.iadd, 1, 0, 0, 0, []) := by decide +kernel
theorem f227_468 : pm_f 227 468 = some (.iaload, 1, 1, 0, 0, []) := by decide +kernel
theorem f227_469 : pm_f 227 469 = some (.invokevirtual 47, 3, 82, 1, 7, []) := by decide +kernel
theorem f227_472 : pm_f 227 472 = some (.aload_n 2, 1, 2, 0, 0, []) := by decide +kernel
theorem f227_473 : pm_f 227 473 = some (.aload_n 0, 1, 0, 0, 0, []) := by decide +kernel
theorem f227_474 : pm_f 227 474 = some (.iload_n 3, 1, 3, 0, 0, []) := by decide +kernel
theorem f227_475 : pm_f 227 475 = some (.iconst 1, 1, 0, 0, 1, []) := by decide +kernel
theorem f227_476 : pm_f 227 476 = some (.iadd, 1, 0, 0, 0, []) := by decide +kernel
theorem f227_477 : pm_f 227 477 = some (.iaload, 1, 1, 0, 0, []) := by decide +kernel
theorem f227_478 : pm_f 227 478 = some (.invokevirtual 50, 3, 166, 1, 8, []) := by decide +kernel
theorem f227_481 : pm_f 227 481 = some (.if_icmp .eq 835, 3, 1316, 0, 0, []) := by decide +kernel
theorem f227_484 : pm_f 227 484 = some (.iconst 0, 1, 0, 0, 0, []) := by decide +kernel
theorem f227_485 : pm_f 227 485 = some (.ireturn, 1, 0, 0, 1, []) := by decide +kernel
theorem f227_486 : pm_f 227 486 = some (.aload_n 1, 1, 1, 0, 0, []) := by decide +kernel
theorem f227_487 : pm_f 227 487 = some (.aload_n 0, 1, 0, 0, 0, []) := by decide +kernel
theorem f227_488 : pm_f 227 488 = some (.iload_n 3, 1, 3, 0, 0, []) := by decide +kernel
theorem f227_489 : pm_f 227 489 = some (.iconst 1, 1, 0, 0, 1, []) := by decide +kernel
theorem f227_490 : pm_f 227 490 = some (.iadd, 1, 0, 0, 0, []) := by decide +kernel
theorem f227_491 : pm_f 227 491 = some (.iaload, 1, 1, 0, 0, []) := by decide +kernel
theorem f227_492 : pm_f 227 492 = some (.invokevirtual 51, 3, 83, 1, 7, []) := by decide +kernel
theorem f227_495 : pm_f 227 495 = some (.aload_n 2, 1, 2, 0, 0, []) := by decide +kernel
theorem f227_496 : pm_f 227 496 = some (.aload_n 0, 1, 0, 0, 0, []) := by decide +kernel
theorem f227_497 : pm_f 227 497 = some (.iload_n 3, 1, 3, 0, 0, []) := by decide +kernel
theorem f227_498 : pm_f 227 498 = some (.iconst 1, 1, 0, 0, 1, []) := by decide +kernel
theorem f227_499 : pm_f 227 499 = some (.iadd, 1, 0, 0, 0, []) := by decide +kernel
theorem f227_500 : pm_f 227 500 = some (.iaload, 1, 1, 0, 0, []) := by decide +kernel
theorem f227_501 : pm_f 227 501 = some (.invokevirtual 54, 3, 169, 1, 8, []) := by decide +kernel
theorem f227_504 : pm_f 227 504 = some (.if_icmp .eq 812, 3, 1316, 0, 0, []) := by decide +kernel
theorem f227_507 : pm_f 227 507 = some (.iconst 0, 1, 0, 0, 0, []) := by decide +kernel
theorem f227_508 : pm_f 227 508 = some (.ireturn, 1, 0, 0, 1, []) := by decide +kernel
theorem f227_509 : pm_f 227 509 = some (.aload_n 1, 1, 1, 0, 0, []) := by decide +kernel
theorem f227_510 : pm_f 227 510 = some (.aload_n 0, 1, 0, 0, 0, []) := by decide +kernel
theorem f227_511 : pm_f 227 511 = some (.iload_n 3, 1, 3, 0, 0, []) := by decide +kernel
theorem f227_512 : pm_f 227 512 = some (.iconst 1, 1, 0, 0, 1, []) := by decide +kernel
theorem f227_513 : pm_f 227 513 = some (.iadd, 1, 0, 0, 0, []) := by decide +kernel
theorem f227_514 : pm_f 227 514 = some (.iaload, 1, 1, 0, 0, []) := by decide +kernel
theorem f227_515 : pm_f 227 515 = some (.aload_n 0, 1, 0, 0, 0, []) := by decide +kernel
theorem f227_516 : pm_f 227 516 = some (.iload_n 3, 1, 3, 0, 0, []) := by decide +kernel
theorem f227_517 : pm_f 227 517 = some (.iconst 2, 1, 0, 0, 2, []) := by decide +kernel
theorem f227_518 : pm_f 227 518 = some (.iadd, 1, 0, 0, 0, []) := by decide +kernel
theorem f227_519 : pm_f 227 519 = some (.iaload, 1, 1, 0, 0, []) := by decide +kernel
theorem f227_520 : pm_f 227 520 = some (.invokevirtual 55, 3, 84, 2, 7, []) := by decide +kernel
theorem f227_523 : pm_f 227 523 = some (.aload_n 2, 1, 2, 0, 0, []) := by decide +kernel
theorem f227_524 : pm_f 227 524 = some (.aload_n 0, 1, 0, 0, 0, []) := by decide +kernel
theorem f227_525 : pm_f 227 525 = some (.iload_n 3, 1, 3, 0, 0, []) := by decide +kernel
theorem f227_526 : pm_f 227 526 = some (.iconst 1, 1, 0, 0, 1, []) := by decide +kernel
theorem f227_527 : pm_f 227 527 = some (.iadd, 1, 0, 0, 0, []) := by decide +kernel
theorem f227_528 : pm_f 227 528 = some (.iaload, 1, 1, 0, 0, []) := by decide +kernel
theorem f227_529 : pm_f 227 529 = some (.aload_n 0, 1, 0, 0, 0, []) := by decide +kernel
theorem f227_530 : pm_f 227 530 = some (.iload_n 3, 1, 3, 0, 0, []) := by decide +kernel
theorem f227_531 : pm_f 227 531 = some (.iconst 2, 1, 0, 0, 2, []) := by decide +kernel
theorem f227_532 : pm_f 227 532 = some (.iadd, 1, 0, 0, 0, []) := by decide +kernel
theorem f227_533 : pm_f 227 533 = some (.iaload, 1, 1, 0, 0, []) := by decide +kernel
theorem f227_534 : pm_f 227 534 = some (.invokevirtual 58, 3, 173, 2, 8, []) := by decide +kernel
theorem f227_537 : pm_f 227 537 = some (.if_icmp .eq 779, 3, 1316, 0, 0, []) := by decide +kernel
theorem f227_540 : pm_f 227 540 = some (.iconst 0, 1, 0, 0, 0, []) := by decide +kernel
theorem f227_541 : pm_f 227 541 = some (.ireturn, 1, 0, 0, 1, []) := by decide +kernel
theorem f227_542 : pm_f 227 542 = some (.aload_n 1, 1, 1, 0, 0, []) := by decide +kernel
theorem f227_543 : pm_f 227 543 = some (.invokevirtual 59, 3, 85, 0, 7, []) := by decide +kernel
theorem f227_546 : pm_f 227 546 = some (.aload_n 2, 1, 2, 0, 0, []) := by decide +kernel
theorem f227_547 : pm_f 227 547 = some (.invokevirtual 62, 3, 180, 0, 8, []) := by decide +kernel
theorem f227_550 : pm_f 227 550 = some (.if_icmp .eq 766, 3, 1316, 0, 0, []) := by decide +kernel
theorem f227_553 : pm_f 227 553 = some (.iconst 0, 1, 0, 0, 0, []) := by decide +kernel
theorem f227_554 : pm_f 227 554 = some (.ireturn, 1, 0, 0, 1, []) := by decide +kernel
theorem f227_555 : pm_f 227 555 = some (.aload_n 1, 1, 1, 0, 0, []) := by decide +kernel
theorem f227_556 : pm_f 227 556 = some (.invokevirtual 63, 3, 86, 0, 7, []) := by decide +kernel
theorem f227_559 : pm_f 227 559 = some (.aload_n 2, 1, 2, 0, 0, []) := by decide +kernel
theorem f227_560 : pm_f 227 560 = some (.invokevirtual 66, 3, 181, 0, 8, []) := by decide +kernel
theorem f227_563 : pm_f 227 563 = some (.if_icmp .eq 753, 3, 1316, 0, 0, []) := by decide +kernel
theorem f227_566 : pm_f 227 566 = some (.iconst 0, 1, 0, 0, 0, []) := by decide +kernel
theorem f227_567 : pm_f 227 567 = some (.ireturn, 1, 0, 0, 1, []) := by decide +kernel
theorem f227_568 : pm_f 227 568 = some (.aload_n 1, 1, 1, 0, 0, []) := by decide +kernel
theorem f227_569 : pm_f 227 569 = some (.aload_n 0, 1, 0, 0, 0, []) := by decide +kernel
theorem f227_570 : pm_f 227 570 = some (.iload_n 3, 1, 3, 0, 0, []) := by decide +kernel
theorem f227_571 : pm_f 227 571 = some (.iconst 1, 1, 0, 0, 1, []) := by decide +kernel
theorem f227_572 : pm_f 227 572 = some (.iadd, 1, 0, 0, 0, []) := by decide +kernel
theorem f227_573 : pm_f 227 573 = some (.iaload, 1, 1, 0, 0, []) := by decide +kernel
theorem f227_574 : pm_f 227 574 = some (.invokevirtual 67, 3, 87, 1, 7, []) := by decide +kernel
theorem f227_577 : pm_f 227 577 = some (.aload_n 2, 1, 2, 0, 0, []) := by decide +kernel
theorem f227_578 : pm_f 227 578 = some (.aload_n 0, 1, 0, 0, 0, []) := by decide +kernel
theorem f227_579 : pm_f 227 579 = some (.iload_n 3, 1, 3, 0, 0, []) := by decide +kernel
theorem f227_580 : pm_f 227 580 = some (.iconst 1, 1, 0, 0, 1, []) := by decide +kernel
theorem f227_581 : pm_f 227 581 = some (.iadd, 1, 0, 0, 0, []) := by decide +kernel
theorem f227_582 : pm_f 227 582 = some (.iaload, 1, 1, 0, 0, []) := by decide +kernel
theorem f227_583 : pm_f 227 583 = some (.invokevirtual 70, 3, 182, 1, 8, []) := by decide +kernel
theorem f227_586 : pm_f 227 586 = some (.if_icmp .eq 730, 3, 1316, 0, 0, []) := by decide +kernel
theorem f227_589 : pm_f 227 589 = some (.iconst 0, 1, 0, 0, 0, []) := by decide +kernel
theorem f227_590 : pm_f 227 590 = some (.ireturn, 1, 0, 0, 1, []) := by decide +kernel
theorem f227_591 : pm_f 227 591 = some (.aload_n 1, 1, 1, 0, 0, []) := by decide +kernel
theorem f227_592 : pm_f 227 592 = some (.invokevirtual 71, 3, 88, 0, 7, []) := by decide +kernel
theorem f227_595 : pm_f 227 595 = some (.aload_n 2, 1, 2, 0, 0, []) := by decide +kernel
theorem f227_596 : pm_f 227 596 = some (.invokevirtual 74, 3, 183, 0, 8, []) := by decide +kernel
theorem f227_599 : pm_f 227 599 = some (.if_icmp .eq 717, 3, 1316, 0, 0, []) := by decide +kernel
theorem f227_602 : pm_f 227 602 = some (.iconst 0, 1, 0, 0, 0, []) := by decide +kernel
theorem f227_603 : pm_f 227 603 = some (.ireturn, 1, 0, 0, 1, []) := by decide +kernel
theorem f227_604 : pm_f 227 604 = some (.aload_n 1, 1, 1, 0, 0, []) := by decide +kernel
theorem f227_605 : pm_f 227 605 = some (.invokevirtual 75, 3, 89, 0, 7, []) := by decide +kernel
theorem f227_608 : pm_f 227 608 = some (.aload_n 2, 1, 2, 0, 0, []) := by decide +kernel
theorem f227_609 : pm_f 227 609 = some (.invokevirtual 78, 3, 184, 0, 8, []) := by decide +kernel
theorem f227_612 : pm_f 227 612 = some (.if_icmp .eq 704, 3, 1316, 0, 0, []) := by decide +kernel
theorem f227_615 : pm_f 227 615 = some (.iconst 0, 1, 0, 0, 0, []) := by decide +kernel
theorem f227_616 : pm_f 227 616 = some (.ireturn, 1, 0, 0, 1, []) := by decide +kernel
theorem f227_617 : pm_f 227 617 = some (.aload_n 1, 1, 1, 0, 0, []) := by decide +kernel
theorem f227_618 : pm_f 227 618 = some (.aload_n 0, 1, 0, 0, 0, []) := by decide +kernel
theorem f227_619 : pm_f 227 619 = some (.iload_n 3, 1, 3, 0, 0, []) := by decide +kernel
theorem f227_620 : pm_f 227 620 = some (.iconst 1, 1, 0, 0, 1, []) := by decide +kernel
theorem f227_621 : pm_f 227 621 = some (.iadd, 1, 0, 0, 0, []) := by decide +kernel
theorem f227_622 : pm_f 227 622 = some (.iaload, 1, 1, 0, 0, []) := by decide +kernel
theorem f227_623 : pm_f 227 623 = some (.invokevirtual 79, 3, 90, 1, 7, []) := by decide +kernel
theorem f227_626 : pm_f 227 626 = some (.aload_n 2, 1, 2, 0, 0, []) := by decide +kernel
theorem f227_627 : pm_f 227 627 = some (.aload_n 0, 1, 0, 0, 0, []) := by decide +kernel
theorem f227_628 : pm_f 227 628 = some (.iload_n 3, 1, 3, 0, 0, []) := by decide +kernel
theorem f227_629 : pm_f 227 629 = some (.iconst 1, 1, 0, 0, 1, []) := by decide +kernel
theorem f227_630 : pm_f 227 630 = some (.iadd, 1, 0, 0, 0, []) := by decide +kernel
theorem f227_631 : pm_f 227 631 = some (.iaload, 1, 1, 0, 0, []) := by decide +kernel
theorem f227_632 : pm_f 227 632 = some (.invokevirtual 82, 3, 185, 1, 8, []) := by decide +kernel
theorem f227_635 : pm_f 227 635 = some (.if_icmp .eq 681, 3, 1316, 0, 0, []) := by decide +kernel
theorem f227_638 : pm_f 227 638 = some (.iconst 0, 1, 0, 0, 0, []) := by decide +kernel
theorem f227_639 : pm_f 227 639 = some (.ireturn, 1, 0, 0, 1, []) := by decide +kernel
theorem f227_640 : pm_f 227 640 = some (.aload_n 1, 1, 1, 0, 0, []) := by decide +kernel
theorem f227_641 : pm_f 227 641 = some (.aload_n 0, 1, 0, 0, 0, []) := by decide +kernel
theorem f227_642 : pm_f 227 642 = some (.iload_n 3, 1, 3, 0, 0, []) := by decide +kernel
theorem f227_643 : pm_f 227 643 = some (.iconst 1, 1, 0, 0, 1, []) := by decide +kernel
theorem f227_644 : pm_f 227 644 = some (.iadd, 1, 0, 0, 0, []) := by decide +kernel
theorem f227_645 : pm_f 227 645 = some (.iaload, 1, 1, 0, 0, []) := by decide +kernel
theorem f227_646 : pm_f 227 646 = some (.invokevirtual 83, 3, 91, 1, 7, []) := by decide +kernel
theorem f227_649 : pm_f 227 649 = some (.aload_n 2, 1, 2, 0, 0, []) := by decide +kernel
theorem f227_650 : pm_f 227 650 = some (.aload_n 0, 1, 0, 0, 0, []) := by decide +kernel
theorem f227_651 : pm_f 227 651 = some (.iload_n 3, 1, 3, 0, 0, []) := by decide +kernel
theorem f227_652 : pm_f 227 652 = some (.iconst 1, 1, 0, 0, 1, []) := by decide +kernel
theorem f227_653 : pm_f 227 653 = some (.iadd, 1, 0, 0, 0, []) := by decide +kernel
theorem f227_654 : pm_f 227 654 = some (.iaload, 1, 1, 0, 0, []) := by decide +kernel
theorem f227_655 : pm_f 227 655 = some (.invokevirtual 86, 3, 186, 1, 8, []) := by decide +kernel
theorem f227_658 : pm_f 227 658 = some (.if_icmp .eq 658, 3, 1316, 0, 0, []) := by decide +kernel
theorem f227_661 : pm_f 227 661 = some (.iconst 0, 1, 0, 0, 0, []) := by decide +kernel
theorem f227_662 : pm_f 227 662 = some (.ireturn, 1, 0, 0, 1, []) := by decide +kernel
theorem f227_663 : pm_f 227 663 = some (.aload_n 1, 1, 1, 0, 0, []) := by decide +kernel
theorem f227_664 : pm_f 227 664 = some (.aload_n 0, 1, 0, 0, 0, []) := by decide +kernel
theorem f227_665 : pm_f 227 665 = some (.iload_n 3, 1, 3, 0, 0, []) := by decide +kernel
theorem f227_666 : pm_f 227 666 = some (.iconst 1, 1, 0, 0, 1, []) := by decide +kernel
theorem f227_667 : pm_f 227 667 = some (.iadd, 1, 0, 0, 0, []) := by decide +kernel
theorem f227_668 : pm_f 227 668 = some (.iaload, 1, 1, 0, 0, []) := by decide +kernel
theorem f227_669 : pm_f 227 669 = some (.aload_n 0, 1, 0, 0, 0, []) := by decide +kernel
theorem f227_670 : pm_f 227 670 = some (.iload_n 3, 1, 3, 0, 0, []) := by decide +kernel
theorem f227_671 : pm_f 227 671 = some (.iconst 2, 1, 0, 0, 2, []) := by decide +kernel
theorem f227_672 : pm_f 227 672 = some (.iadd, 1, 0, 0, 0, []) := by decide +kernel
theorem f227_673 : pm_f 227 673 = some (.iaload, 1, 1, 0, 0, []) := by decide +kernel
theorem f227_674 : pm_f 227 674 = some (.aload_n 0, 1, 0, 0, 0, []) := by decide +kernel
theorem f227_675 : pm_f 227 675 = some (.iload_n 3, 1, 3, 0, 0, []) := by decide +kernel
theorem f227_676 : pm_f 227 676 = some (.iconst 3, 1, 0, 0, 3, []) := by decide +kernel
theorem f227_677 : pm_f 227 677 = some (.iadd, 1, 0, 0, 0, []) := by decide +kernel
theorem f227_678 : pm_f 227 678 = some (.iaload, 1, 1, 0, 0, []) := by decide +kernel
theorem f227_679 : pm_f 227 679 = some (.invokevirtual 87, 3, 92, 3, 7, []) := by decide +kernel
theorem f227_682 : pm_f 227 682 = some (.aload_n 2, 1, 2, 0, 0, []) := by decide +kernel
theorem f227_683 : pm_f 227 683 = some (.aload_n 0, 1, 0, 0, 0, []) := by decide +kernel
theorem f227_684 : pm_f 227 684 = some (.iload_n 3, 1, 3, 0, 0, []) := by decide +kernel
theorem f227_685 : pm_f 227 685 = some (.iconst 1, 1, 0, 0, 1, []) := by decide +kernel
theorem f227_686 : pm_f 227 686 = some (.iadd, 1, 0, 0, 0, []) := by decide +kernel
theorem f227_687 : pm_f 227 687 = some (.iaload, 1, 1, 0, 0, []) := by decide +kernel
theorem f227_688 : pm_f 227 688 = some (.aload_n 0, 1, 0, 0, 0, []) := by decide +kernel
theorem f227_689 : pm_f 227 689 = some (.iload_n 3, 1, 3, 0, 0, []) := by decide +kernel
theorem f227_690 : pm_f 227 690 = some (.iconst 2, 1, 0, 0, 2, []) := by decide +kernel
theorem f227_691 : pm_f 227 691 = some (.iadd, 1, 0, 0, 0, []) := by decide +kernel
theorem f227_692 : pm_f 227 692 = some (.iaload, 1, 1, 0, 0, []) := by decide +kernel
theorem f227_693 : pm_f 227 693 = some (.aload_n 0, 1, 0, 0, 0, []) := by decide +kernel
theorem f227_694 : pm_f 227 694 = some (.iload_n 3, 1, 3, 0, 0, []) := by decide +kernel
theorem f227_695 : pm_f 227 695 = some (.iconst 3, 1, 0, 0, 3, []) := by decide +kernel
theorem f227_696 : pm_f 227 696 = some (.iadd, 1, 0, 0, 0, []) := by decide +kernel
theorem f227_697 : pm_f 227 697 = some (.iaload, 1, 1, 0, 0, []) := by decide +kernel
theorem f227_698 : pm_f 227 698 = some (.invokevirtual 90, 3, 187, 3, 8, []) := by decide +kernel
theorem f227_701 : pm_f 227 701 = some (.if_icmp .eq 615, 3, 1316, 0, 0, []) := by decide +kernel
theorem f227_704 : pm_f 227 704 = some (.iconst 0, 1, 0, 0, 0, []) := by decide +kernel
theorem f227_705 : pm_f 227 705 = some (.ireturn, 1, 0, 0, 1, []) := by decide +kernel
theorem f227_706 : pm_f 227 706 = some (.aload_n 1, 1, 1, 0, 0, []) := by decide +kernel
theorem f227_707 : pm_f 227 707 = some (.invokevirtual 91, 3, 93, 0, 7, []) := by decide +kernel
theorem f227_710 : pm_f 227 710 = some (.aload_n 2, 1, 2, 0, 0, []) := by decide +kernel
theorem f227_711 : pm_f 227 711 = some (.invokevirtual 94, 3, 189, 0, 8, []) := by decide +kernel
theorem f227_714 : pm_f 227 714 = some (.if_icmp .eq 602, 3, 1316, 0, 0, []) := by decide +kernel
theorem f227_717 : pm_f 227 717 = some (.iconst 0, 1, 0, 0, 0, []) := by decide +kernel
theorem f227_718 : pm_f 227 718 = some (.ireturn, 1, 0, 0, 1, []) := by decide +kernel
theorem f227_719 : pm_f 227 719 = some (.aload_n 1, 1, 1, 0, 0, []) := by decide +kernel
theorem f227_720 : pm_f 227 720 = some (.aload_n 0, 1, 0, 0, 0, []) := by decide +kernel
theorem f227_721 : pm_f 227 721 = some (.iload_n 3, 1, 3, 0, 0, []) := by decide +kernel
theorem f227_722 : pm_f 227 722 = some (.iconst 1, 1, 0, 0, 1, []) := by decide +kernel
theorem f227_723 : pm_f 227 723 = some (.iadd, 1, 0, 0, 0, []) := by decide +kernel
theorem f227_724 : pm_f 227 724 = some (.iaload, 1, 1, 0, 0, []) := by decide +kernel
theorem f227_725 : pm_f 227 725 = some (.aload_n 0, 1, 0, 0, 0, []) := by decide +kernel
theorem f227_726 : pm_f 227 726 = some (.iload_n 3, 1, 3, 0, 0, []) := by decide +kernel
theorem f227_727 : pm_f 227 727 = some (.iconst 2, 1, 0, 0, 2, []) := by decide +kernel
theorem f227_728 : pm_f 227 728 = some (.iadd, 1, 0, 0, 0, []) := by decide +kernel
theorem f227_729 : pm_f 227 729 = some (.iaload, 1, 1, 0, 0, []) := by decide +kernel
theorem f227_730 : pm_f 227 730 = some (.invokevirtual 95, 3, 94, 2, 7, []) := by decide +kernel
theorem f227_733 : pm_f 227 733 = some (.aload_n 2, 1, 2, 0, 0, []) := by decide +kernel
theorem f227_734 : pm_f 227 734 = some (.aload_n 0, 1, 0, 0, 0, []) := by decide +kernel
theorem f227_735 : pm_f 227 735 = some (.iload_n 3, 1, 3, 0, 0, []) := by decide +kernel
theorem f227_736 : pm_f 227 736 = some (.iconst 1, 1, 0, 0, 1, []) := by decide +kernel
theorem f227_737 : pm_f 227 737 = some (.iadd, 1, 0, 0, 0, []) := by decide +kernel
theorem f227_738 : pm_f 227 738 = some (.iaload, 1, 1, 0, 0, []) := by decide +kernel
theorem f227_739 : pm_f 227 739 = some (.aload_n 0, 1, 0, 0, 0, []) := by decide +kernel
theorem f227_740 : pm_f 227 740 = some (.iload_n 3, 1, 3, 0, 0, []) := by decide +kernel
theorem f227_741 : pm_f 227 741 = some (.iconst 2, 1, 0, 0, 2, []) := by decide +kernel
theorem f227_742 : pm_f 227 742 = some (.iadd, 1, 0, 0, 0, []) := by decide +kernel
theorem f227_743 : pm_f 227 743 = some (.iaload, 1, 1, 0, 0, []) := by decide +kernel
theorem f227_744 : pm_f 227 744 = some (.invokevirtual 98, 3, 190, 2, 8, []) := by decide +kernel
theorem f227_747 : pm_f 227 747 = some (.if_icmp .eq 569, 3, 1316, 0, 0, []) := by decide +kernel
theorem f227_750 : pm_f 227 750 = some (.iconst 0, 1, 0, 0, 0, []) := by decide +kernel
theorem f227_751 : pm_f 227 751 = some (.ireturn, 1, 0, 0, 1, []) := by decide +kernel
theorem f227_752 : pm_f 227 752 = some (.aload_n 1, 1, 1, 0, 0, []) := by decide +kernel
theorem f227_753 : pm_f 227 753 = some (.aload_n 0, 1, 0, 0, 0, []) := by decide +kernel
theorem f227_754 : pm_f 227 754 = some (.iload_n 3, 1, 3, 0, 0, []) := by decide +kernel
theorem f227_755 : pm_f 227 755 = some (.iconst 1, 1, 0, 0, 1, []) := by decide +kernel
theorem f227_756 : pm_f 227 756 = some (.iadd, 1, 0, 0, 0, []) := by decide +kernel
theorem f227_757 : pm_f 227 757 = some (.iaload, 1, 1, 0, 0, []) := by decide +kernel
theorem f227_758 : pm_f 227 758 = some (.aload_n 0, 1, 0, 0, 0, []) := by decide +kernel
theorem f227_759 : pm_f 227 759 = some (.iload_n 3, 1, 3, 0, 0, []) := by decide +kernel
theorem f227_760 : pm_f 227 760 = some (.iconst 2, 1, 0, 0, 2, []) := by decide +kernel
theorem f227_761 : pm_f 227 761 = some (.iadd, 1, 0, 0, 0, []) := by decide +kernel
theorem f227_762 : pm_f 227 762 = some (.iaload, 1, 1, 0, 0, []) := by decide +kernel
theorem f227_763 : pm_f 227 763 = some (.invokevirtual 99, 3, 95, 2, 7, []) := by decide +kernel
theorem f227_766 : pm_f 227 766 = some (.aload_n 2, 1, 2, 0, 0, []) := by decide +kernel
theorem f227_767 : pm_f 227 767 = some (.aload_n 0, 1, 0, 0, 0, []) := by decide +kernel
theorem f227_768 : pm_f 227 768 = some (.iload_n 3, 1, 3, 0, 0, []) := by decide +kernel
theorem f227_769 : pm_f 227 769 = some (.iconst 1, 1, 0, 0, 1, []) := by decide +kernel
theorem f227_770 : pm_f 227 770 = some (.iadd, 1, 0, 0, 0, []) := by decide +kernel
theorem f227_771 : pm_f 227 771 = some (.iaload, 1, 1, 0, 0, []) := by decide +kernel
theorem f227_772 : pm_f 227 772 = some (.aload_n 0, 1, 0, 0, 0, []) := by decide +kernel
theorem f227_773 : pm_f 227 773 = some (.iload_n 3, 1, 3, 0, 0, []) := by decide +kernel
theorem f227_774 : pm_f 227 774 = some (.iconst 2, 1, 0, 0, 2, []) := by decide +kernel
theorem f227_775 : pm_f 227 775 = some (.iadd, 1, 0, 0, 0, []) := by decide +kernel
theorem f227_776 : pm_f 227 776 = some (.iaload, 1, 1, 0, 0, []) := by decide +kernel
theorem f227_777 : pm_f 227 777 = some (.invokevirtual 103, 3, 193, 2, 8, []) := by decide +kernel
theorem f227_780 : pm_f 227 780 = some (.lcmp, 1, 0, 0, 0, []) := by decide +kernel
theorem f227_781 : pm_f 227 781 = some (.ifCond .eq 535, 3, 1316, 0, 0, []) := by decide +kernel
theorem f227_784 : pm_f 227 784 = some (.iconst 0, 1, 0, 0, 0, []) := by decide +kernel
theorem f227_785 : pm_f 227 785 = some (.ireturn, 1, 0, 0, 1, []) := by decide +kernel
theorem f227_786 : pm_f 227 786 = some (.aload_n 1, 1, 1, 0, 0, []) := by decide +kernel
theorem f227_787 : pm_f 227 787 = some (.aload_n 0, 1, 0, 0, 0, []) := by decide +kernel
theorem f227_788 : pm_f 227 788 = some (.iload_n 3, 1, 3, 0, 0, []) := by decide +kernel
theorem f227_789 : pm_f 227 789 = some (.iconst 1, 1, 0, 0, 1, []) := by decide +kernel
theorem f227_790 : pm_f 227 790 = some (.iadd, 1, 0, 0, 0, []) := by decide +kernel
theorem f227_791 : pm_f 227 791 = some (.iaload, 1, 1, 0, 0, []) := by decide +kernel
theorem f227_792 : pm_f 227 792 = some (.aload_n 0, 1, 0, 0, 0, []) := by decide +kernel
theorem f227_793 : pm_f 227 793 = some (.iload_n 3, 1, 3, 0, 0, []) := by decide +kernel
theorem f227_794 : pm_f 227 794 = some (.iconst 2, 1, 0, 0, 2, []) := by decide +kernel
theorem f227_795 : pm_f 227 795 = some (.iadd, 1, 0, 0, 0, []) := by decide +kernel
theorem f227_796 : pm_f 227 796 = some (.iaload, 1, 1, 0, 0, []) := by decide +kernel
theorem f227_797 : pm_f 227 797 = some (.invokevirtual 104, 3, 96, 2, 7, []) := by decide +kernel
theorem f227_800 : pm_f 227 800 = some (.aload_n 2, 1, 2, 0, 0, []) := by decide +kernel
theorem f227_801 : pm_f 227 801 = some (.aload_n 0, 1, 0, 0, 0, []) := by decide +kernel
theorem f227_802 : pm_f 227 802 = some (.iload_n 3, 1, 3, 0, 0, []) := by decide +kernel
theorem f227_803 : pm_f 227 803 = some (.iconst 1, 1, 0, 0, 1, []) := by decide +kernel
theorem f227_804 : pm_f 227 804 = some (.iadd, 1, 0, 0, 0, []) := by decide +kernel
theorem f227_805 : pm_f 227 805 = some (.iaload, 1, 1, 0, 0, []) := by decide +kernel
theorem f227_806 : pm_f 227 806 = some (.aload_n 0, 1, 0, 0, 0, []) := by decide +kernel
theorem f227_807 : pm_f 227 807 = some (.iload_n 3, 1, 3, 0, 0, []) := by decide +kernel
theorem f227_808 : pm_f 227 808 = some (.iconst 2, 1, 0, 0, 2, []) := by decide +kernel
theorem f227_809 : pm_f 227 809 = some (.iadd, 1, 0, 0, 0, []) := by decide +kernel
theorem f227_810 : pm_f 227 810 = some (.iaload, 1, 1, 0, 0, []) := by decide +kernel
theorem f227_811 : pm_f 227 811 = some (.invokevirtual 107, 3, 194, 2, 8, []) := by decide +kernel
theorem f227_814 : pm_f 227 814 = some (.lcmp, 1, 0, 0, 0, []) := by decide +kernel
theorem f227_815 : pm_f 227 815 = some (.ifCond .eq 501, 3, 1316, 0, 0, []) := by decide +kernel
theorem f227_818 : pm_f 227 818 = some (.iconst 0, 1, 0, 0, 0, []) := by decide +kernel
theorem f227_819 : pm_f 227 819 = some (.ireturn, 1, 0, 0, 1, []) := by decide +kernel
theorem f227_820 : pm_f 227 820 = some (.aload_n 1, 1, 1, 0, 0, []) := by decide +kernel
theorem f227_821 : pm_f 227 821 = some (.aload_n 0, 1, 0, 0, 0, []) := by decide +kernel
theorem f227_822 : pm_f 227 822 = some (.iload_n 3, 1, 3, 0, 0, []) := by decide +kernel
theorem f227_823 : pm_f 227 823 = some (.iconst 1, 1, 0, 0, 1, []) := by decide +kernel
theorem f227_824 : pm_f 227 824 = some (.iadd, 1, 0, 0, 0, []) := by decide +kernel
theorem f227_825 : pm_f 227 825 = some (.iaload, 1, 1, 0, 0, []) := by decide +kernel
theorem f227_826 : pm_f 227 826 = some (.aload_n 0, 1, 0, 0, 0, []) := by decide +kernel
theorem f227_827 : pm_f 227 827 = some (.iload_n 3, 1, 3, 0, 0, []) := by decide +kernel
theorem f227_828 : pm_f 227 828 = some (.iconst 2, 1, 0, 0, 2, []) := by decide +kernel
theorem f227_829 : pm_f 227 829 = some (.iadd, 1, 0, 0, 0, []) := by decide +kernel
theorem f227_830 : pm_f 227 830 = some (.iaload, 1, 1, 0, 0, []) := by decide +kernel
theorem f227_831 : pm_f 227 831 = some (.invokevirtual 108, 3, 97, 2, 7, []) := by decide +kernel
theorem f227_834 : pm_f 227 834 = some (.aload_n 2, 1, 2, 0, 0, []) := by decide +kernel
theorem f227_835 : pm_f 227 835 = some (.aload_n 0, 1, 0, 0, 0, []) := by decide +kernel
theorem f227_836 : pm_f 227 836 = some (.iload_n 3, 1, 3, 0, 0, []) := by decide +kernel
theorem f227_837 : pm_f 227 837 = some (.iconst 1, 1, 0, 0, 1, []) := by decide +kernel
theorem f227_838 : pm_f 227 838 = some (.iadd, 1, 0, 0, 0, []) := by decide +kernel
theorem f227_839 : pm_f 227 839 = some (.iaload, 1, 1, 0, 0, []) := by decide +kernel
theorem f227_840 : pm_f 227 840 = some (.aload_n 0, 1, 0, 0, 0, []) := by decide +kernel
theorem f227_841 : pm_f 227 841 = some (.iload_n 3, 1, 3, 0, 0, []) := by decide +kernel
theorem f227_842 : pm_f 227 842 = some (.iconst 2, 1, 0, 0, 2, []) := by decide +kernel
theorem f227_843 : pm_f 227 843 = some (.iadd, 1, 0, 0, 0, []) := by decide +kernel
theorem f227_844 : pm_f 227 844 = some (.iaload, 1, 1, 0, 0, []) := by decide +kernel
theorem f227_845 : pm_f 227 845 = some (.invokevirtual 111, 3, 195, 2, 8, []) := by decide +kernel
theorem f227_848 : pm_f 227 848 = some (.if_icmp .eq 468, 3, 1316, 0, 0, []) := by decide +kernel
theorem f227_851 : pm_f 227 851 = some (.iconst 0, 1, 0, 0, 0, []) := by decide +kernel
theorem f227_852 : pm_f 227 852 = some (.ireturn, 1, 0, 0, 1, []) := by decide +kernel
theorem f227_853 : pm_f 227 853 = some (.aload_n 1, 1, 1, 0, 0, []) := by decide +kernel
theorem f227_854 : pm_f 227 854 = some (.aload_n 0, 1, 0, 0, 0, []) := by decide +kernel
theorem f227_855 : pm_f 227 855 = some (.iload_n 3, 1, 3, 0, 0, []) := by decide +kernel
theorem f227_856 : pm_f 227 856 = some (.iconst 1, 1, 0, 0, 1, []) := by decide +kernel
theorem f227_857 : pm_f 227 857 = some (.iadd, 1, 0, 0, 0, []) := by decide +kernel
theorem f227_858 : pm_f 227 858 = some (.iaload, 1, 1, 0, 0, []) := by decide +kernel
theorem f227_859 : pm_f 227 859 = some (.invokevirtual 112, 3, 98, 1, 7, []) := by decide +kernel
theorem f227_862 : pm_f 227 862 = some (.aload_n 2, 1, 2, 0, 0, []) := by decide +kernel
theorem f227_863 : pm_f 227 863 = some (.aload_n 0, 1, 0, 0, 0, []) := by decide +kernel
theorem f227_864 : pm_f 227 864 = some (.iload_n 3, 1, 3, 0, 0, []) := by decide +kernel
theorem f227_865 : pm_f 227 865 = some (.iconst 1, 1, 0, 0, 1, []) := by decide +kernel
theorem f227_866 : pm_f 227 866 = some (.iadd, 1, 0, 0, 0, []) := by decide +kernel
theorem f227_867 : pm_f 227 867 = some (.iaload, 1, 1, 0, 0, []) := by decide +kernel
theorem f227_868 : pm_f 227 868 = some (.invokevirtual 115, 3, 196, 1, 8, []) := by decide +kernel
theorem f227_871 : pm_f 227 871 = some (.if_icmp .eq 445, 3, 1316, 0, 0, []) := by decide +kernel
theorem f227_874 : pm_f 227 874 = some (.iconst 0, 1, 0, 0, 0, []) := by decide +kernel
theorem f227_875 : pm_f 227 875 = some (.ireturn, 1, 0, 0, 1, []) := by decide +kernel
theorem f227_876 : pm_f 227 876 = some (.aload_n 1, 1, 1, 0, 0, []) := by decide +kernel
theorem f227_877 : pm_f 227 877 = some (.aload_n 0, 1, 0, 0, 0, []) := by decide +kernel
theorem f227_878 : pm_f 227 878 = some (.iload_n 3, 1, 3, 0, 0, []) := by decide +kernel
theorem f227_879 : pm_f 227 879 = some (.iconst 1, 1, 0, 0, 1, []) := by decide +kernel
theorem f227_880 : pm_f 227 880 = some (.iadd, 1, 0, 0, 0, []) := by decide +kernel
theorem f227_881 : pm_f 227 881 = some (.iaload, 1, 1, 0, 0, []) := by decide +kernel
theorem f227_882 : pm_f 227 882 = some (.aload_n 0, 1, 0, 0, 0, []) := by decide +kernel
theorem f227_883 : pm_f 227 883 = some (.iload_n 3, 1, 3, 0, 0, []) := by decide +kernel
theorem f227_884 : pm_f 227 884 = some (.iconst 2, 1, 0, 0, 2, []) := by decide +kernel
theorem f227_885 : pm_f 227 885 = some (.iadd, 1, 0, 0, 0, []) := by decide +kernel
theorem f227_886 : pm_f 227 886 = some (.iaload, 1, 1, 0, 0, []) := by decide +kernel
theorem f227_887 : pm_f 227 887 = some (.invokevirtual 116, 3, 99, 2, 7, []) := by decide +kernel
theorem f227_890 : pm_f 227 890 = some (.aload_n 2, 1, 2, 0, 0, []) := by decide +kernel
theorem f227_891 : pm_f 227 891 = some (.aload_n 0, 1, 0, 0, 0, []) := by decide +kernel
theorem f227_892 : pm_f 227 892 = some (.iload_n 3, 1, 3, 0, 0, []) := by decide +kernel
theorem f227_893 : pm_f 227 893 = some (.iconst 1, 1, 0, 0, 1, []) := by decide +kernel
theorem f227_894 : pm_f 227 894 = some (.iadd, 1, 0, 0, 0, []) := by decide +kernel
theorem f227_895 : pm_f 227 895 = some (.iaload, 1, 1, 0, 0, []) := by decide +kernel
theorem f227_896 : pm_f 227 896 = some (.aload_n 0, 1, 0, 0, 0, []) := by decide +kernel
theorem f227_897 : pm_f 227 897 = some (.iload_n 3, 1, 3, 0, 0, []) := by decide +kernel
theorem f227_898 : pm_f 227 898 = some (.iconst 2, 1, 0, 0, 2, []) := by decide +kernel
theorem f227_899 : pm_f 227 899 = some (.iadd, 1, 0, 0, 0, []) := by decide +kernel
theorem f227_900 : pm_f 227 900 = some (.iaload, 1, 1, 0, 0, []) := by decide +kernel
theorem f227_901 : pm_f 227 901 = some (.invokevirtual 119, 3, 197, 2, 8, []) := by decide +kernel
theorem f227_904 : pm_f 227 904 = some (.if_icmp .eq 412, 3, 1316, 0, 0, []) := by decide +kernel
theorem f227_907 : pm_f 227 907 = some (.iconst 0, 1, 0, 0, 0, []) := by decide +kernel
theorem f227_908 : pm_f 227 908 = some (.ireturn, 1, 0, 0, 1, []) := by decide +kernel
theorem f227_909 : pm_f 227 909 = some (.aload_n 1, 1, 1, 0, 0, []) := by decide +kernel
theorem f227_910 : pm_f 227 910 = some (.invokevirtual 120, 3, 100, 0, 7, []) := by decide +kernel
theorem f227_913 : pm_f 227 913 = some (.aload_n 2, 1, 2, 0, 0, []) := by decide +kernel
theorem f227_914 : pm_f 227 914 = some (.invokevirtual 123, 3, 198, 0, 8, []) := by decide +kernel
theorem f227_917 : pm_f 227 917 = some (.if_icmp .eq 399, 3, 1316, 0, 0, []) := by decide +kernel
theorem f227_920 : pm_f 227 920 = some (.iconst 0, 1, 0, 0, 0, []) := by decide +kernel
theorem f227_921 : pm_f 227 921 = some (.ireturn, 1, 0, 0, 1, []) := by decide +kernel
theorem f227_922 : pm_f 227 922 = some (.aload_n 1, 1, 1, 0, 0, []) := by decide +kernel
theorem f227_923 : pm_f 227 923 = some (.aload_n 0, 1, 0, 0, 0, []) := by decide +kernel
theorem f227_924 : pm_f 227 924 = some (.iload_n 3, 1, 3, 0, 0, []) := by decide +kernel
theorem f227_925 : pm_f 227 925 = some (.iconst 1, 1, 0, 0, 1, []) := by decide +kernel
theorem f227_926 : pm_f 227 926 = some (.iadd, 1, 0, 0, 0, []) := by decide +kernel
theorem f227_927 : pm_f 227 927 = some (.iaload, 1, 1, 0, 0, []) := by decide +kernel
theorem f227_928 : pm_f 227 928 = some (.aload_n 0, 1, 0, 0, 0, []) := by decide +kernel
theorem f227_929 : pm_f 227 929 = some (.iload_n 3, 1, 3, 0, 0, []) := by decide +kernel
theorem f227_930 : pm_f 227 930 = some (.iconst 2, 1, 0, 0, 2, []) := by decide +kernel
theorem f227_931 : pm_f 227 931 = some (.iadd, 1, 0, 0, 0, []) := by decide +kernel
theorem f227_932 : pm_f 227 932 = some (.iaload, 1, 1, 0, 0, []) := by decide +kernel
theorem f227_933 : pm_f 227 933 = some (.invokevirtual 124, 3, 101, 2, 7, []) := by decide +kernel
theorem f227_936 : pm_f 227 936 = some (.aload_n 2, 1, 2, 0, 0, []) := by decide +kernel
theorem f227_937 : pm_f 227 937 = some (.aload_n 0, 1, 0, 0, 0, []) := by decide +kernel
theorem f227_938 : pm_f 227 938 = some (.iload_n 3, 1, 3, 0, 0, []) := by decide +kernel
theorem f227_939 : pm_f 227 939 = some (.iconst 1, 1, 0, 0, 1, []) := by decide +kernel
theorem f227_940 : pm_f 227 940 = some (.iadd, 1, 0, 0, 0, []) := by decide +kernel
theorem f227_941 : pm_f 227 941 = some (.iaload, 1, 1, 0, 0, []) := by decide +kernel
theorem f227_942 : pm_f 227 942 = some (.aload_n 0, 1, 0, 0, 0, []) := by decide +kernel
theorem f227_943 : pm_f 227 943 = some (.iload_n 3, 1, 3, 0, 0, []) := by decide +kernel
theorem f227_944 : pm_f 227 944 = some (.iconst 2, 1, 0, 0, 2, []) := by decide +kernel
theorem f227_945 : pm_f 227 945 = some (.iadd, 1, 0, 0, 0, []) := by decide +kernel
theorem f227_946 : pm_f 227 946 = some (.iaload, 1, 1, 0, 0, []) := by decide +kernel
theorem f227_947 : pm_f 227 947 = some (.invokevirtual 127, 3, 199, 2, 8, []) := by decide +kernel
theorem f227_950 : pm_f 227 950 = some (.if_icmp .eq 366, 3, 1316, 0, 0, []) := by decide +kernel
theorem f227_953 : pm_f 227 953 = some (.iconst 0, 1, 0, 0, 0, []) := by decide +kernel
theorem f227_954 : pm_f 227 954 = some (.ireturn, 1, 0, 0, 1, []) := by decide +kernel
theorem f227_955 : pm_f 227 955 = some (.aload_n 1, 1, 1, 0, 0, []) := by decide +kernel
theorem f227_956 : pm_f 227 956 = some (.invokevirtual 128, 3, 102, 0, 7, []) := by decide +kernel
theorem f227_959 : pm_f 227 959 = some (.aload_n 2, 1, 2, 0, 0, []) := by decide +kernel
theorem f227_960 : pm_f 227 960 = some (.invokevirtual 131, 3, 200, 0, 8, []) := by decide +kernel
theorem f227_963 : pm_f 227 963 = some (.if_icmp .eq 353, 3, 1316, 0, 0, []) := by decide +kernel
theorem f227_966 : pm_f 227 966 = some (.iconst 0, 1, 0, 0, 0, []) := by decide +kernel
theorem f227_967 : pm_f 227 967 = some (.ireturn, 1, 0, 0, 1, []) := by decide +kernel
theorem f227_968 : pm_f 227 968 = some (.aload_n 1, 1, 1, 0, 0, []) := by decide +kernel
theorem f227_969 : pm_f 227 969 = some (.invokevirtual 132, 3, 103, 0, 7, []) := by decide +kernel
theorem f227_972 : pm_f 227 972 = some (.aload_n 2, 1, 2, 0, 0, []) := by decide +kernel
theorem f227_973 : pm_f 227 973 = some (.invokevirtual 135, 3, 201, 0, 8, []) := by decide +kernel
theorem f227_976 : pm_f 227 976 = some (.if_icmp .eq 340, 3, 1316, 0, 0, []) := by decide +kernel
theorem f227_979 : pm_f 227 979 = some (.iconst 0, 1, 0, 0, 0, []) := by decide +kernel
theorem f227_980 : pm_f 227 980 = some (.ireturn, 1, 0, 0, 1, []) := by decide +kernel
theorem f227_981 : pm_f 227 981 = some (.aload_n 1, 1, 1, 0, 0, []) := by decide +kernel
theorem f227_982 : pm_f 227 982 = some (.aload_n 0, 1, 0, 0, 0, []) := by decide +kernel
theorem f227_983 : pm_f 227 983 = some (.iload_n 3, 1, 3, 0, 0, []) := by decide +kernel
theorem f227_984 : pm_f 227 984 = some (.iconst 1, 1, 0, 0, 1, []) := by decide +kernel
theorem f227_985 : pm_f 227 985 = some (.iadd, 1, 0, 0, 0, []) := by decide +kernel
theorem f227_986 : pm_f 227 986 = some (.iaload, 1, 1, 0, 0, []) := by decide +kernel
theorem f227_987 : pm_f 227 987 = some (.aload_n 0, 1, 0, 0, 0, []) := by decide +kernel
theorem f227_988 : pm_f 227 988 = some (.iload_n 3, 1, 3, 0, 0, []) := by decide +kernel
theorem f227_989 : pm_f 227 989 = some (.iconst 2, 1, 0, 0, 2, []) := by decide +kernel
theorem f227_990 : pm_f 227 990 = some (.iadd, 1, 0, 0, 0, []) := by decide +kernel
theorem f227_991 : pm_f 227 991 = some (.iaload, 1, 1, 0, 0, []) := by decide +kernel
theorem f227_992 : pm_f 227 992 = some (.aload_n 0, 1, 0, 0, 0, []) := by decide +kernel
theorem f227_993 : pm_f 227 993 = some (.iload_n 3, 1, 3, 0, 0, []) := by decide +kernel
theorem f227_994 : pm_f 227 994 = some (.iconst 3, 1, 0, 0, 3, []) := by decide +kernel
theorem f227_995 : pm_f 227 995 = some (.iadd, 1, 0, 0, 0, []) := by decide +kernel
theorem f227_996 : pm_f 227 996 = some (.iaload, 1, 1, 0, 0, []) := by decide +kernel
theorem f227_997 : pm_f 227 997 = some (.invokevirtual 136, 3, 104, 3, 7, []) := by decide +kernel
theorem f227_1000 : pm_f 227 1000 = some (.aload_n 2, 1, 2, 0, 0, []) := by decide +kernel
theorem f227_1001 : pm_f 227 1001 = some (.aload_n 0, 1, 0, 0, 0, []) := by decide +kernel
theorem f227_1002 : pm_f 227 1002 = some (.iload_n 3, 1, 3, 0, 0, []) := by decide +kernel
theorem f227_1003 : pm_f 227 1003 = some (.iconst 1, 1, 0, 0, 1, []) := by decide +kernel
theorem f227_1004 : pm_f 227 1004 = some (.iadd, 1, 0, 0, 0, []) := by decide +kernel
theorem f227_1005 : pm_f 227 1005 = some (.iaload, 1, 1, 0, 0, []) := by decide +kernel
theorem f227_1006 : pm_f 227 1006 = some (.aload_n 0, 1, 0, 0, 0, []) := by decide +kernel
theorem f227_1007 : pm_f 227 1007 = some (.iload_n 3, 1, 3, 0, 0, []) := by decide +kernel
theorem f227_1008 : pm_f 227 1008 = some (.iconst 2, 1, 0, 0, 2, []) := by decide +kernel
theorem f227_1009 : pm_f 227 1009 = some (.iadd, 1, 0, 0, 0, []) := by decide +kernel
theorem f227_1010 : pm_f 227 1010 = some (.iaload, 1, 1, 0, 0, []) := by decide +kernel
theorem f227_1011 : pm_f 227 1011 = some (.aload_n 0, 1, 0, 0, 0, []) := by decide +kernel
theorem f227_1012 : pm_f 227 1012 = some (.iload_n 3, 1, 3, 0, 0, []) := by decide +kernel
theorem f227_1013 : pm_f 227 1013 = some (.iconst 3, 1, 0, 0, 3, []) := by decide +kernel
theorem f227_1014 : pm_f 227 1014 = some (.iadd, 1, 0, 0, 0, []) := by decide +kernel
theorem f227_1015 : pm_f 227 1015 = some (.iaload, 1, 1, 0, 0, []) := by decide +kernel
theorem f227_1016 : pm_f 227 1016 = some (.invokevirtual 139, 3, 210, 3, 8, []) := by decide +kernel
theorem f227_1019 : pm_f 227 1019 = some (.if_icmp .eq 297, 3, 1316, 0, 0, []) := by decide +kernel
theorem f227_1022 : pm_f 227 1022 = some (.iconst 0, 1, 0, 0, 0, []) := by decide +kernel
theorem f227_1023 : pm_f 227 1023 = some (.ireturn, 1, 0, 0, 1, []) := by decide +kernel
theorem f227_1024 : pm_f 227 1024 = some (.aload_n 1, 1, 1, 0, 0, []) := by decide +kernel
theorem f227_1025 : pm_f 227 1025 = some (.aload_n 0, 1, 0, 0, 0, []) := by decide +kernel
theorem f227_1026 : pm_f 227 1026 = some (.iload_n 3, 1, 3, 0, 0, []) := by decide +kernel
theorem f227_1027 : pm_f 227 1027 = some (.iconst 1, 1, 0, 0, 1, []) := by decide +kernel
theorem f227_1028 : pm_f 227 1028 = some (.iadd, 1, 0, 0, 0, []) := by decide +kernel
theorem f227_1029 : pm_f 227 1029 = some (.iaload, 1, 1, 0, 0, []) := by decide +kernel
theorem f227_1030 : pm_f 227 1030 = some (.invokevirtual 140, 3, 105, 1, 7, []) := by decide +kernel
theorem f227_1033 : pm_f 227 1033 = some (.aload_n 2, 1, 2, 0, 0, []) := by decide +kernel
theorem f227_1034 : pm_f 227 1034 = some (.aload_n 0, 1, 0, 0, 0, []) := by decide +kernel
theorem f227_1035 : pm_f 227 1035 = some (.iload_n 3, 1, 3, 0, 0, []) := by decide +kernel
theorem f227_1036 : pm_f 227 1036 = some (.iconst 1, 1, 0, 0, 1, []) := by decide +kernel
theorem f227_1037 : pm_f 227 1037 = some (.iadd, 1, 0, 0, 0, []) := by decide +kernel
theorem f227_1038 : pm_f 227 1038 = some (.iaload, 1, 1, 0, 0, []) := by decide +kernel
theorem f227_1039 : pm_f 227 1039 = some (.invokevirtual 143, 3, 211, 1, 8, []) := by decide +kernel
theorem f227_1042 : pm_f 227 1042 = some (.if_icmp .eq 274, 3, 1316, 0, 0, []) := by decide +kernel
theorem f227_1045 : pm_f 227 1045 = some (.iconst 0, 1, 0, 0, 0, []) := by decide +kernel
theorem f227_1046 : pm_f 227 1046 = some (.ireturn, 1, 0, 0, 1, []) := by decide +kernel
theorem f227_1047 : pm_f 227 1047 = some (.aload_n 1, 1, 1, 0, 0, []) := by decide +kernel
theorem f227_1048 : pm_f 227 1048 = some (.aload_n 0, 1, 0, 0, 0, []) := by decide +kernel
theorem f227_1049 : pm_f 227 1049 = some (.iload_n 3, 1, 3, 0, 0, []) := by decide +kernel
theorem f227_1050 : pm_f 227 1050 = some (.iconst 1, 1, 0, 0, 1, []) := by decide +kernel
theorem f227_1051 : pm_f 227 1051 = some (.iadd, 1, 0, 0, 0, []) := by decide +kernel
theorem f227_1052 : pm_f 227 1052 = some (.iaload, 1, 1, 0, 0, []) := by decide +kernel
theorem f227_1053 : pm_f 227 1053 = some (.aload_n 0, 1, 0, 0, 0, []) := by decide +kernel
theorem f227_1054 : pm_f 227 1054 = some (.iload_n 3, 1, 3, 0, 0, []) := by decide +kernel
theorem f227_1055 : pm_f 227 1055 = some (.iconst 2, 1, 0, 0, 2, []) := by decide +kernel
theorem f227_1056 : pm_f 227 1056 = some (.iadd, 1, 0, 0, 0, []) := by decide +kernel
theorem f227_1057 : pm_f 227 1057 = some (.iaload, 1, 1, 0, 0, []) := by decide +kernel
theorem f227_1058 : pm_f 227 1058 = some (.invokevirtual 144, 3, 106, 2, 7, []) := by decide +kernel
theorem f227_1061 : pm_f 227 1061 = some (.aload_n 2, 1, 2, 0, 0, []) := by decide +kernel
theorem f227_1062 : pm_f 227 1062 = some (.aload_n 0, 1, 0, 0, 0, []) := by decide +kernel
theorem f227_1063 : pm_f 227 1063 = some (.iload_n 3, 1, 3, 0, 0, []) := by decide +kernel
theorem f227_1064 : pm_f 227 1064 = some (.iconst 1, 1, 0, 0, 1, []) := by decide +kernel
theorem f227_1065 : pm_f 227 1065 = some (.iadd, 1, 0, 0, 0, []) := by decide +kernel
theorem f227_1066 : pm_f 227 1066 = some (.iaload, 1, 1, 0, 0, []) := by decide +kernel
theorem f227_1067 : pm_f 227 1067 = some (.aload_n 0, 1, 0, 0, 0, []) := by decide +kernel
theorem f227_1068 : pm_f 227 1068 = some (.iload_n 3, 1, 3, 0, 0, []) := by decide +kernel
theorem f227_1069 : pm_f 227 1069 = some (.iconst 2, 1, 0, 0, 2, []) := by decide +kernel
theorem f227_1070 : pm_f 227 1070 = some (.iadd, 1, 0, 0, 0, []) := by decide +kernel
theorem f227_1071 : pm_f 227 1071 = some (.iaload, 1, 1, 0, 0, []) := by decide +kernel
theorem f227_1072 : pm_f 227 1072 = some (.invokevirtual 147, 3, 212, 2, 8, []) := by decide +kernel
theorem f227_1075 : pm_f 227 1075 = some (.if_icmp .eq 241, 3, 1316, 0, 0, []) := by decide +kernel
theorem f227_1078 : pm_f 227 1078 = some (.iconst 0, 1, 0, 0, 0, []) := by decide +kernel
theorem f227_1079 : pm_f 227 1079 = some (.ireturn, 1, 0, 0, 1, []) := by decide +kernel
theorem f227_1080 : pm_f 227 1080 = some (.aload_n 1, 1, 1, 0, 0, []) := by decide +kernel
theorem f227_1081 : pm_f 227 1081 = some (.aload_n 0, 1, 0, 0, 0, []) := by decide +kernel
theorem f227_1082 : pm_f 227 1082 = some (.iload_n 3, 1, 3, 0, 0, []) := by decide +kernel
theorem f227_1083 : pm_f 227 1083 = some (.iconst 1, 1, 0, 0, 1, []) := by decide +kernel
theorem f227_1084 : pm_f 227 1084 = some (.iadd, 1, 0, 0, 0, []) := by decide +kernel
theorem f227_1085 : pm_f 227 1085 = some (.iaload, 1, 1, 0, 0, []) := by decide +kernel
theorem f227_1086 : pm_f 227 1086 = some (.invokevirtual 148, 3, 107, 1, 7, []) := by decide +kernel
theorem f227_1089 : pm_f 227 1089 = some (.aload_n 2, 1, 2, 0, 0, []) := by decide +kernel
theorem f227_1090 : pm_f 227 1090 = some (.aload_n 0, 1, 0, 0, 0, []) := by decide +kernel
theorem f227_1091 : pm_f 227 1091 = some (.iload_n 3, 1, 3, 0, 0, []) := by decide +kernel
theorem f227_1092 : pm_f 227 1092 = some (.iconst 1, 1, 0, 0, 1, []) := by decide +kernel
theorem f227_1093 : pm_f 227 1093 = some (.iadd, 1, 0, 0, 0, []) := by decide +kernel
theorem f227_1094 : pm_f 227 1094 = some (.iaload, 1, 1, 0, 0, []) := by decide +kernel
theorem f227_1095 : pm_f 227 1095 = some (.invokevirtual 151, 3, 213, 1, 8, []) := by decide +kernel
theorem f227_1098 : pm_f 227 1098 = some (.if_icmp .eq 218, 3, 1316, 0, 0, []) := by decide +kernel
theorem f227_1101 : pm_f 227 1101 = some (.iconst 0, 1, 0, 0, 0, []) := by decide +kernel
theorem f227_1102 : pm_f 227 1102 = some (.ireturn, 1, 0, 0, 1, []) := by decide +kernel
theorem f227_1103 : pm_f 227 1103 = some (.aload_n 1, 1, 1, 0, 0, []) := by decide +kernel
theorem f227_1104 : pm_f 227 1104 = some (.aload_n 0, 1, 0, 0, 0, []) := by decide +kernel
theorem f227_1105 : pm_f 227 1105 = some (.iload_n 3, 1, 3, 0, 0, []) := by decide +kernel
theorem f227_1106 : pm_f 227 1106 = some (.iconst 1, 1, 0, 0, 1, []) := by decide +kernel
theorem f227_1107 : pm_f 227 1107 = some (.iadd, 1, 0, 0, 0, []) := by decide +kernel
theorem f227_1108 : pm_f 227 1108 = some (.iaload, 1, 1, 0, 0, []) := by decide +kernel
theorem f227_1109 : pm_f 227 1109 = some (.aload_n 0, 1, 0, 0, 0, []) := by decide +kernel
theorem f227_1110 : pm_f 227 1110 = some (.iload_n 3, 1, 3, 0, 0, []) := by decide +kernel
theorem f227_1111 : pm_f 227 1111 = some (.iconst 2, 1, 0, 0, 2, []) := by decide +kernel
theorem f227_1112 : pm_f 227 1112 = some (.iadd, 1, 0, 0, 0, []) := by decide +kernel
theorem f227_1113 : pm_f 227 1113 = some (.iaload, 1, 1, 0, 0, []) := by decide +kernel
theorem f227_1114 : pm_f 227 1114 = some (.aload_n 0, 1, 0, 0, 0, []) := by decide +kernel
theorem f227_1115 : pm_f 227 1115 = some (.iload_n 3, 1, 3, 0, 0, []) := by decide +kernel
theorem f227_1116 : pm_f 227 1116 = some (.iconst 3, 1, 0, 0, 3, []) := by decide +kernel
theorem f227_1117 : pm_f 227 1117 = some (.iadd, 1, 0, 0, 0, []) := by decide +kernel
theorem f227_1118 : pm_f 227 1118 = some (.iaload, 1, 1, 0, 0, []) := by decide +kernel
theorem f227_1119 : pm_f 227 1119 = some (.invokevirtual 152, 3, 108, 3, 7, []) := by decide +kernel
theorem f227_1122 : pm_f 227 1122 = some (.aload_n 2, 1, 2, 0, 0, []) := by decide +kernel
theorem f227_1123 : pm_f 227 1123 = some (.aload_n 0, 1, 0, 0, 0, []) := by decide +kernel
theorem f227_1124 : pm_f 227 1124 = some (.iload_n 3, 1, 3, 0, 0, []) := by decide +kernel
theorem f227_1125 : pm_f 227 1125 = some (.iconst 1, 1, 0, 0, 1, []) := by decide +kernel
theorem f227_1126 : pm_f 227 1126 = some (.iadd, 1, 0, 0, 0, []) := by decide +kernel
theorem f227_1127 : pm_f 227 1127 = some (.iaload, 1, 1, 0, 0, []) := by decide +kernel
theorem f227_1128 : pm_f 227 1128 = some (.aload_n 0, 1, 0, 0, 0, []) := by decide +kernel
theorem f227_1129 : pm_f 227 1129 = some (.iload_n 3, 1, 3, 0, 0, []) := by decide +kernel
theorem f227_1130 : pm_f 227 1130 = some (.iconst 2, 1, 0, 0, 2, []) := by decide +kernel
theorem f227_1131 : pm_f 227 1131 = some (.iadd, 1, 0, 0, 0, []) := by decide +kernel
theorem f227_1132 : pm_f 227 1132 = some (.iaload, 1, 1, 0, 0, []) := by decide +kernel
theorem f227_1133 : pm_f 227 1133 = some (.aload_n 0, 1, 0, 0, 0, []) := by decide +kernel
theorem f227_1134 : pm_f 227 1134 = some (.iload_n 3, 1, 3, 0, 0, []) := by decide +kernel
theorem f227_1135 : pm_f 227 1135 = some (.iconst 3, 1, 0, 0, 3, []) := by decide +kernel
theorem f227_1136 : pm_f 227 1136 = some (.iadd, 1, 0, 0, 0, []) := by decide +kernel
theorem f227_1137 : pm_f 227 1137 = some (.iaload, 1, 1, 0, 0, []) := by decide +kernel
theorem f227_1138 : pm_f 227 1138 = some (.invokevirtual 155, 3, 215, 3, 8, []) := by decide +kernel
theorem f227_1141 : pm_f 227 1141 = some (.if_icmp .eq 175, 3, 1316, 0, 0, []) := by decide +kernel
theorem f227_1144 : pm_f 227 1144 = some (.iconst 0, 1, 0, 0, 0, []) := by decide +kernel
theorem f227_1145 : pm_f 227 1145 = some (.ireturn, 1, 0, 0, 1, []) := by decide +kernel
theorem f227_1146 : pm_f 227 1146 = some (.aload_n 1, 1, 1, 0, 0, []) := by decide +kernel
theorem f227_1147 : pm_f 227 1147 = some (.aload_n 0, 1, 0, 0, 0, []) := by decide +kernel
theorem f227_1148 : pm_f 227 1148 = some (.iload_n 3, 1, 3, 0, 0, []) := by decide +kernel
theorem f227_1149 : pm_f 227 1149 = some (.iconst 1, 1, 0, 0, 1, []) := by decide +kernel
theorem f227_1150 : pm_f 227 1150 = some (.iadd, 1, 0, 0, 0, []) := by decide +kernel
theorem f227_1151 : pm_f 227 1151 = some (.iaload, 1, 1, 0, 0, []) := by decide +kernel
theorem f227_1152 : pm_f 227 1152 = some (.aload_n 0, 1, 0, 0, 0, []) := by decide +kernel
theorem f227_1153 : pm_f 227 1153 = some (.iload_n 3, 1, 3, 0, 0, []) := by decide +kernel
theorem f227_1154 : pm_f 227 1154 = some (.iconst 2, 1, 0, 0, 2, []) := by decide +kernel
theorem f227_1155 : pm_f 227 1155 = some (.iadd, 1, 0, 0, 0, []) := by decide +kernel
theorem f227_1156 : pm_f 227 1156 = some (.iaload, 1, 1, 0, 0, []) := by decide +kernel
theorem f227_1157 : pm_f 227 1157 = some (.aload_n 0, 1, 0, 0, 0, []) := by decide +kernel
theorem f227_1158 : pm_f 227 1158 = some (.iload_n 3, 1, 3, 0, 0, []) := by decide +kernel
theorem f227_1159 : pm_f 227 1159 = some (.iconst 3, 1, 0, 0, 3, []) := by decide +kernel
theorem f227_1160 : pm_f 227 1160 = some (.iadd, 1, 0, 0, 0, []) := by decide +kernel
theorem f227_1161 : pm_f 227 1161 = some (.iaload, 1, 1, 0, 0, []) := by decide +kernel
theorem f227_1162 : pm_f 227 1162 = some (.i2l, 1, 0, 0, 0, []) := by decide +kernel
theorem f227_1163 : pm_f 227 1163 = some (.bipush 32, 2, 0, 0, 32, []) := by decide +kernel
theorem f227_1165 : pm_f 227 1165 = some (.lshl, 1, 0, 0, 0, []) := by decide +kernel
theorem f227_1166 : pm_f 227 1166 = some (.aload_n 0, 1, 0, 0, 0, []) := by decide +kernel
theorem f227_1167 : pm_f 227 1167 = some (.iload_n 3, 1, 3, 0, 0, []) := by decide +kernel
theorem f227_1168 : pm_f 227 1168 = some (.iconst 4, 1, 0, 0, 4, []) := by decide +kernel
theorem f227_1169 : pm_f 227 1169 = some (.iadd, 1, 0, 0, 0, []) := by decide +kernel
theorem f227_1170 : pm_f 227 1170 = some (.iaload, 1, 1, 0, 0, []) := by decide +kernel
theorem f227_1171 : pm_f 227 1171 = some (.i2l, 1, 0, 0, 0, []) := by decide +kernel
theorem f227_1172 : pm_f 227 1172 = some (.ldc2_w 156, 3, 0, 0, 4294967295, []) := by decide +kernel
theorem f227_1175 : pm_f 227 1175 = some (.land, 1, 0, 0, 0, []) := by decide +kernel
theorem f227_1176 : pm_f 227 1176 = some (.lor, 1, 0, 0, 0, []) := by decide +kernel
theorem f227_1177 : pm_f 227 1177 = some (.invokevirtual 158, 3, 109, 3, 7, []) := by decide +kernel
theorem f227_1180 : pm_f 227 1180 = some (.aload_n 2, 1, 2, 0, 0, []) := by decide +kernel
theorem f227_1181 : pm_f 227 1181 = some (.aload_n 0, 1, 0, 0, 0, []) := by decide +kernel
theorem f227_1182 : pm_f 227 1182 = some (.iload_n 3, 1, 3, 0, 0, []) := by decide +kernel
theorem f227_1183 : pm_f 227 1183 = some (.iconst 1, 1, 0, 0, 1, []) := by decide +kernel
theorem f227_1184 : pm_f 227 1184 = some (.iadd, 1, 0, 0, 0, []) := by decide +kernel
theorem f227_1185 : pm_f 227 1185 = some (.iaload, 1, 1, 0, 0, []) := by decide +kernel
theorem f227_1186 : pm_f 227 1186 = some (.aload_n 0, 1, 0, 0, 0, []) := by decide +kernel
theorem f227_1187 : pm_f 227 1187 = some (.iload_n 3, 1, 3, 0, 0, []) := by decide +kernel
theorem f227_1188 : pm_f 227 1188 = some (.iconst 2, 1, 0, 0, 2, []) := by decide +kernel
theorem f227_1189 : pm_f 227 1189 = some (.iadd, 1, 0, 0, 0, []) := by decide +kernel
theorem f227_1190 : pm_f 227 1190 = some (.iaload, 1, 1, 0, 0, []) := by decide +kernel
theorem f227_1191 : pm_f 227 1191 = some (.aload_n 0, 1, 0, 0, 0, []) := by decide +kernel
theorem f227_1192 : pm_f 227 1192 = some (.iload_n 3, 1, 3, 0, 0, []) := by decide +kernel
theorem f227_1193 : pm_f 227 1193 = some (.iconst 3, 1, 0, 0, 3, []) := by decide +kernel
theorem f227_1194 : pm_f 227 1194 = some (.iadd, 1, 0, 0, 0, []) := by decide +kernel
theorem f227_1195 : pm_f 227 1195 = some (.iaload, 1, 1, 0, 0, []) := by decide +kernel
theorem f227_1196 : pm_f 227 1196 = some (.i2l, 1, 0, 0, 0, []) := by decide +kernel
theorem f227_1197 : pm_f 227 1197 = some (.bipush 32, 2, 0, 0, 32, []) := by decide +kernel
theorem f227_1199 : pm_f 227 1199 = some (.lshl, 1, 0, 0, 0, []) := by decide +kernel
theorem f227_1200 : pm_f 227 1200 = some (.aload_n 0, 1, 0, 0, 0, []) := by decide +kernel
theorem f227_1201 : pm_f 227 1201 = some (.iload_n 3, 1, 3, 0, 0, []) := by decide +kernel
theorem f227_1202 : pm_f 227 1202 = some (.iconst 4, 1, 0, 0, 4, []) := by decide +kernel
theorem f227_1203 : pm_f 227 1203 = some (.iadd, 1, 0, 0, 0, []) := by decide +kernel
theorem f227_1204 : pm_f 227 1204 = some (.iaload, 1, 1, 0, 0, []) := by decide +kernel
theorem f227_1205 : pm_f 227 1205 = some (.i2l, 1, 0, 0, 0, []) := by decide +kernel
theorem f227_1206 : pm_f 227 1206 = some (.ldc2_w 156, 3, 0, 0, 4294967295, []) := by decide +kernel
theorem f227_1209 : pm_f 227 1209 = some (.land, 1, 0, 0, 0, []) := by decide +kernel
theorem f227_1210 : pm_f 227 1210 = some (.lor, 1, 0, 0, 0, []) := by decide +kernel
theorem f227_1211 : pm_f 227 1211 = some (.invokevirtual 162, 3, 217, 3, 8, []) := by decide +kernel
theorem f227_1214 : pm_f 227 1214 = some (.if_icmp .eq 102, 3, 1316, 0, 0, []) := by decide +kernel
theorem f227_1217 : pm_f 227 1217 = some (.iconst 0, 1, 0, 0, 0, []) := by decide +kernel
theorem f227_1218 : pm_f 227 1218 = some (.ireturn, 1, 0, 0, 1, []) := by decide +kernel
theorem f227_1219 : pm_f 227 1219 = some (.aload_n 1, 1, 1, 0, 0, []) := by decide +kernel
theorem f227_1220 : pm_f 227 1220 = some (.aload_n 0, 1, 0, 0, 0, []) := by decide +kernel
theorem f227_1221 : pm_f 227 1221 = some (.iload_n 3, 1, 3, 0, 0, []) := by decide +kernel
theorem f227_1222 : pm_f 227 1222 = some (.iconst 1, 1, 0, 0, 1, []) := by decide +kernel
theorem f227_1223 : pm_f 227 1223 = some (.iadd, 1, 0, 0, 0, []) := by decide +kernel
theorem f227_1224 : pm_f 227 1224 = some (.iaload, 1, 1, 0, 0, []) := by decide +kernel
theorem f227_1225 : pm_f 227 1225 = some (.aload_n 0, 1, 0, 0, 0, []) := by decide +kernel
theorem f227_1226 : pm_f 227 1226 = some (.iload_n 3, 1, 3, 0, 0, []) := by decide +kernel
theorem f227_1227 : pm_f 227 1227 = some (.iconst 2, 1, 0, 0, 2, []) := by decide +kernel
theorem f227_1228 : pm_f 227 1228 = some (.iadd, 1, 0, 0, 0, []) := by decide +kernel
theorem f227_1229 : pm_f 227 1229 = some (.iaload, 1, 1, 0, 0, []) := by decide +kernel
theorem f227_1230 : pm_f 227 1230 = some (.invokevirtual 163, 3, 110, 2, 7, []) := by decide +kernel
theorem f227_1233 : pm_f 227 1233 = some (.aload_n 2, 1, 2, 0, 0, []) := by decide +kernel
theorem f227_1234 : pm_f 227 1234 = some (.aload_n 0, 1, 0, 0, 0, []) := by decide +kernel
theorem f227_1235 : pm_f 227 1235 = some (.iload_n 3, 1, 3, 0, 0, []) := by decide +kernel
theorem f227_1236 : pm_f 227 1236 = some (.iconst 1, 1, 0, 0, 1, []) := by decide +kernel
theorem f227_1237 : pm_f 227 1237 = some (.iadd, 1, 0, 0, 0, []) := by decide +kernel
theorem f227_1238 : pm_f 227 1238 = some (.iaload, 1, 1, 0, 0, []) := by decide +kernel
theorem f227_1239 : pm_f 227 1239 = some (.aload_n 0, 1, 0, 0, 0, []) := by decide +kernel
theorem f227_1240 : pm_f 227 1240 = some (.iload_n 3, 1, 3, 0, 0, []) := by decide +kernel
theorem f227_1241 : pm_f 227 1241 = some (.iconst 2, 1, 0, 0, 2, []) := by decide +kernel
theorem f227_1242 : pm_f 227 1242 = some (.iadd, 1, 0, 0, 0, []) := by decide +kernel
theorem f227_1243 : pm_f 227 1243 = some (.iaload, 1, 1, 0, 0, []) := by decide +kernel
theorem f227_1244 : pm_f 227 1244 = some (.invokevirtual 166, 3, 218, 2, 8, []) := by decide +kernel
theorem f227_1247 : pm_f 227 1247 = some (.lcmp, 1, 0, 0, 0, []) := by decide +kernel
theorem f227_1248 : pm_f 227 1248 = some (.ifCond .eq 68, 3, 1316, 0, 0, []) := by decide +kernel
theorem f227_1251 : pm_f 227 1251 = some (.iconst 0, 1, 0, 0, 0, []) := by decide +kernel
theorem f227_1252 : pm_f 227 1252 = some (.ireturn, 1, 0, 0, 1, []) := by decide +kernel
theorem f227_1253 : pm_f 227 1253 = some (.aload_n 1, 1, 1, 0, 0, []) := by decide +kernel
theorem f227_1254 : pm_f 227 1254 = some (.aload_n 0, 1, 0, 0, 0, []) := by decide +kernel
theorem f227_1255 : pm_f 227 1255 = some (.iload_n 3, 1, 3, 0, 0, []) := by decide +kernel
theorem f227_1256 : pm_f 227 1256 = some (.iconst 1, 1, 0, 0, 1, []) := by decide +kernel
theorem f227_1257 : pm_f 227 1257 = some (.iadd, 1, 0, 0, 0, []) := by decide +kernel
theorem f227_1258 : pm_f 227 1258 = some (.iaload, 1, 1, 0, 0, []) := by decide +kernel
theorem f227_1259 : pm_f 227 1259 = some (.aload_n 0, 1, 0, 0, 0, []) := by decide +kernel
theorem f227_1260 : pm_f 227 1260 = some (.iload_n 3, 1, 3, 0, 0, []) := by decide +kernel
theorem f227_1261 : pm_f 227 1261 = some (.iconst 2, 1, 0, 0, 2, []) := by decide +kernel
theorem f227_1262 : pm_f 227 1262 = some (.iadd, 1, 0, 0, 0, []) := by decide +kernel
theorem f227_1263 : pm_f 227 1263 = some (.iaload, 1, 1, 0, 0, []) := by decide +kernel
theorem f227_1264 : pm_f 227 1264 = some (.aload_n 0, 1, 0, 0, 0, []) := by decide +kernel
theorem f227_1265 : pm_f 227 1265 = some (.iload_n 3, 1, 3, 0, 0, []) := by decide +kernel
theorem f227_1266 : pm_f 227 1266 = some (.iconst 3, 1, 0, 0, 3, []) := by decide +kernel
theorem f227_1267 : pm_f 227 1267 = some (.iadd, 1, 0, 0, 0, []) := by decide +kernel
theorem f227_1268 : pm_f 227 1268 = some (.iaload, 1, 1, 0, 0, []) := by decide +kernel
theorem f227_1269 : pm_f 227 1269 = some (.aload_n 0, 1, 0, 0, 0, []) := by decide +kernel
theorem f227_1270 : pm_f 227 1270 = some (.iload_n 3, 1, 3, 0, 0, []) := by decide +kernel
theorem f227_1271 : pm_f 227 1271 = some (.iconst 4, 1, 0, 0, 4, []) := by decide +kernel
theorem f227_1272 : pm_f 227 1272 = some (.iadd, 1, 0, 0, 0, []) := by decide +kernel
theorem f227_1273 : pm_f 227 1273 = some (.iaload, 1, 1, 0, 0, []) := by decide +kernel
theorem f227_1274 : pm_f 227 1274 = some (.aload_n 0, 1, 0, 0, 0, []) := by decide +kernel
theorem f227_1275 : pm_f 227 1275 = some (.iload_n 3, 1, 3, 0, 0, []) := by decide +kernel
theorem f227_1276 : pm_f 227 1276 = some (.iconst 5, 1, 0, 0, 5, []) := by decide +kernel
theorem f227_1277 : pm_f 227 1277 = some (.iadd, 1, 0, 0, 0, []) := by decide +kernel
theorem f227_1278 : pm_f 227 1278 = some (.iaload, 1, 1, 0, 0, []) := by decide +kernel
theorem f227_1279 : pm_f 227 1279 = some (.invokevirtual 167, 3, 111, 5, 7, []) := by decide +kernel
theorem f227_1282 : pm_f 227 1282 = some (.aload_n 2, 1, 2, 0, 0, []) := by decide +kernel
theorem f227_1283 : pm_f 227 1283 = some (.aload_n 0, 1, 0, 0, 0, []) := by decide +kernel
theorem f227_1284 : pm_f 227 1284 = some (.iload_n 3, 1, 3, 0, 0, []) := by decide +kernel
theorem f227_1285 : pm_f 227 1285 = some (.iconst 1, 1, 0, 0, 1, []) := by decide +kernel
theorem f227_1286 : pm_f 227 1286 = some (.iadd, 1, 0, 0, 0, []) := by decide +kernel
theorem f227_1287 : pm_f 227 1287 = some (.iaload, 1, 1, 0, 0, []) := by decide +kernel
theorem f227_1288 : pm_f 227 1288 = some (.aload_n 0, 1, 0, 0, 0, []) := by decide +kernel
theorem f227_1289 : pm_f 227 1289 = some (.iload_n 3, 1, 3, 0, 0, []) := by decide +kernel
theorem f227_1290 : pm_f 227 1290 = some (.iconst 2, 1, 0, 0, 2, []) := by decide +kernel
theorem f227_1291 : pm_f 227 1291 = some (.iadd, 1, 0, 0, 0, []) := by decide +kernel
theorem f227_1292 : pm_f 227 1292 = some (.iaload, 1, 1, 0, 0, []) := by decide +kernel
theorem f227_1293 : pm_f 227 1293 = some (.aload_n 0, 1, 0, 0, 0, []) := by decide +kernel
theorem f227_1294 : pm_f 227 1294 = some (.iload_n 3, 1, 3, 0, 0, []) := by decide +kernel
theorem f227_1295 : pm_f 227 1295 = some (.iconst 3, 1, 0, 0, 3, []) := by decide +kernel
theorem f227_1296 : pm_f 227 1296 = some (.iadd, 1, 0, 0, 0, []) := by decide +kernel
theorem f227_1297 : pm_f 227 1297 = some (.iaload, 1, 1, 0, 0, []) := by decide +kernel
theorem f227_1298 : pm_f 227 1298 = some (.aload_n 0, 1, 0, 0, 0, []) := by decide +kernel
theorem f227_1299 : pm_f 227 1299 = some (.iload_n 3, 1, 3, 0, 0, []) := by decide +kernel
theorem f227_1300 : pm_f 227 1300 = some (.iconst 4, 1, 0, 0, 4, []) := by decide +kernel
theorem f227_1301 : pm_f 227 1301 = some (.iadd, 1, 0, 0, 0, []) := by decide +kernel
theorem f227_1302 : pm_f 227 1302 = some (.iaload, 1, 1, 0, 0, []) := by decide +kernel
theorem f227_1303 : pm_f 227 1303 = some (.aload_n 0, 1, 0, 0, 0, []) := by decide +kernel
theorem f227_1304 : pm_f 227 1304 = some (.iload_n 3, 1, 3, 0, 0, []) := by decide +kernel
theorem f227_1305 : pm_f 227 1305 = some (.iconst 5, 1, 0, 0, 5, []) := by decide +kernel
theorem f227_1306 : pm_f 227 1306 = some (.iadd, 1, 0, 0, 0, []) := by decide +kernel
theorem f227_1307 : pm_f 227 1307 = some (.iaload, 1, 1, 0, 0, []) := by decide +kernel
theorem f227_1308 : pm_f 227 1308 = some (.invokevirtual 170, 3, 219, 5, 8, []) := by decide +kernel
theorem f227_1311 : pm_f 227 1311 = some (.if_icmp .eq 5, 3, 1316, 0, 0, []) := by decide +kernel
theorem f227_1314 : pm_f 227 1314 = some (.iconst 0, 1, 0, 0, 0, []) := by decide +kernel
theorem f227_1315 : pm_f 227 1315 = some (.ireturn, 1, 0, 0, 1, []) := by decide +kernel
theorem f227_1316 : pm_f 227 1316 = some (.iinc 3 6, 3, 3, 0, 6, []) := by decide +kernel
theorem f227_1319 : pm_f 227 1319 = some (.goto (-1301), 3, 18, 0, 0, []) := by decide +kernel
theorem f227_1322 : pm_f 227 1322 = some (.iconst 1, 1, 0, 0, 1, []) := by decide +kernel
theorem f227_1323 : pm_f 227 1323 = some (.ireturn, 1, 0, 0, 1, []) := by decide +kernel
