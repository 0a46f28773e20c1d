/-! Decode rows (by program, wip/whole/gen.py). -/
theorem dW_law_0 : decode M_W_law.2.1 0 = .ok (.new 7, 3) := by decide +kernel
theorem dW_law_3 : decode M_W_law.2.1 3 = .ok (.dup, 1) := by decide +kernel
theorem dW_law_4 : decode M_W_law.2.1 4 = .ok (.invokespecial 9, 3) := by decide +kernel
theorem dW_law_7 : decode M_W_law.2.1 7 = .ok (.astore_n 1, 1) := by decide +kernel
theorem dW_law_8 : decode M_W_law.2.1 8 = .ok (.new 10, 3) := by decide +kernel
theorem dW_law_11 : decode M_W_law.2.1 11 = .ok (.dup, 1) := by decide +kernel
theorem dW_law_12 : decode M_W_law.2.1 12 = .ok (.invokespecial 12, 3) := by decide +kernel
theorem dW_law_15 : decode M_W_law.2.1 15 = .ok (.astore_n 2, 1) := by decide +kernel
theorem dW_law_16 : decode M_W_law.2.1 16 = .ok (.iconst 0, 1) := by decide +kernel
theorem dW_law_17 : decode M_W_law.2.1 17 = .ok (.istore_n 3, 1) := by decide +kernel
theorem dW_law_18 : decode M_W_law.2.1 18 = .ok (.iload_n 3, 1) := by decide +kernel
theorem dW_law_19 : decode M_W_law.2.1 19 = .ok (.aload_n 0, 1) := by decide +kernel
theorem dW_law_20 : decode M_W_law.2.1 20 = .ok (.arraylength, 1) := by decide +kernel
theorem dW_law_21 : decode M_W_law.2.1 21 = .ok (.iconst 5, 1) := by decide +kernel
theorem dW_law_22 : decode M_W_law.2.1 22 = .ok (.isub, 1) := by decide +kernel
theorem dW_law_23 : decode M_W_law.2.1 23 = .ok (.if_icmp .gt 674, 3) := by decide +kernel
theorem dW_law_26 : decode M_W_law.2.1 26 = .ok (.aload_n 0, 1) := by decide +kernel
theorem dW_law_27 : decode M_W_law.2.1 27 = .ok (.iload_n 3, 1) := by decide +kernel
theorem dW_law_28 : decode M_W_law.2.1 28 = .ok (.iaload, 1) := by decide +kernel
theorem dW_law_29 : decode M_W_law.2.1 29 = .ok (.bipush 31, 2) := by decide +kernel
theorem dW_law_31 : decode M_W_law.2.1 31 = .ok (.iand, 1) := by decide +kernel
theorem dW_law_32 : decode M_W_law.2.1 32 = .ok (.tableswitch 659 0 18 #[92, 105, 138, 181, 234, 257, 280, 303, 336, 379, 412, 455, 468, 481, 504, 547, 570, 603, 636], 92) := by decide +kernel
theorem dW_law_124 : decode M_W_law.2.1 124 = .ok (.aload_n 1, 1) := by decide +kernel
theorem dW_law_125 : decode M_W_law.2.1 125 = .ok (.invokevirtual 13, 3) := by decide +kernel
theorem dW_law_128 : decode M_W_law.2.1 128 = .ok (.aload_n 2, 1) := by decide +kernel
theorem dW_law_129 : decode M_W_law.2.1 129 = .ok (.invokevirtual 17, 3) := by decide +kernel
theorem dW_law_132 : decode M_W_law.2.1 132 = .ok (.if_icmp .eq 559, 3) := by decide +kernel
theorem dW_law_135 : decode M_W_law.2.1 135 = .ok (.iconst 0, 1) := by decide +kernel
theorem dW_law_136 : decode M_W_law.2.1 136 = .ok (.ireturn, 1) := by decide +kernel
theorem dW_law_137 : decode M_W_law.2.1 137 = .ok (.aload_n 1, 1) := by decide +kernel
theorem dW_law_138 : decode M_W_law.2.1 138 = .ok (.aload_n 0, 1) := by decide +kernel
theorem dW_law_139 : decode M_W_law.2.1 139 = .ok (.iload_n 3, 1) := by decide +kernel
theorem dW_law_140 : decode M_W_law.2.1 140 = .ok (.iconst 1, 1) := by decide +kernel
theorem dW_law_141 : decode M_W_law.2.1 141 = .ok (.iadd, 1) := by decide +kernel
theorem dW_law_142 : decode M_W_law.2.1 142 = .ok (.iaload, 1) := by decide +kernel
theorem dW_law_143 : decode M_W_law.2.1 143 = .ok (.aload_n 0, 1) := by decide +kernel
theorem dW_law_144 : decode M_W_law.2.1 144 = .ok (.iload_n 3, 1) := by decide +kernel
theorem dW_law_145 : decode M_W_law.2.1 145 = .ok (.iconst 2, 1) := by decide +kernel
theorem dW_law_146 : decode M_W_law.2.1 146 = .ok (.iadd, 1) := by decide +kernel
theorem dW_law_147 : decode M_W_law.2.1 147 = .ok (.iaload, 1) := by decide +kernel
theorem dW_law_148 : decode M_W_law.2.1 148 = .ok (.invokevirtual 18, 3) := by decide +kernel
theorem dW_law_151 : decode M_W_law.2.1 151 = .ok (.aload_n 2, 1) := by decide +kernel
theorem dW_law_152 : decode M_W_law.2.1 152 = .ok (.aload_n 0, 1) := by decide +kernel
theorem dW_law_153 : decode M_W_law.2.1 153 = .ok (.iload_n 3, 1) := by decide +kernel
theorem dW_law_154 : decode M_W_law.2.1 154 = .ok (.iconst 1, 1) := by decide +kernel
theorem dW_law_155 : decode M_W_law.2.1 155 = .ok (.iadd, 1) := by decide +kernel
theorem dW_law_156 : decode M_W_law.2.1 156 = .ok (.iaload, 1) := by decide +kernel
theorem dW_law_157 : decode M_W_law.2.1 157 = .ok (.aload_n 0, 1) := by decide +kernel
theorem dW_law_158 : decode M_W_law.2.1 158 = .ok (.iload_n 3, 1) := by decide +kernel
theorem dW_law_159 : decode M_W_law.2.1 159 = .ok (.iconst 2, 1) := by decide +kernel
theorem dW_law_160 : decode M_W_law.2.1 160 = .ok (.iadd, 1) := by decide +kernel
theorem dW_law_161 : decode M_W_law.2.1 161 = .ok (.iaload, 1) := by decide +kernel
theorem dW_law_162 : decode M_W_law.2.1 162 = .ok (.invokevirtual 22, 3) := by decide +kernel
theorem dW_law_165 : decode M_W_law.2.1 165 = .ok (.if_icmp .eq 526, 3) := by decide +kernel
theorem dW_law_168 : decode M_W_law.2.1 168 = .ok (.iconst 0, 1) := by decide +kernel
theorem dW_law_169 : decode M_W_law.2.1 169 = .ok (.ireturn, 1) := by decide +kernel
theorem dW_law_170 : decode M_W_law.2.1 170 = .ok (.aload_n 1, 1) := by decide +kernel
theorem dW_law_171 : decode M_W_law.2.1 171 = .ok (.aload_n 0, 1) := by decide +kernel
theorem dW_law_172 : decode M_W_law.2.1 172 = .ok (.iload_n 3, 1) := by decide +kernel
theorem dW_law_173 : decode M_W_law.2.1 173 = .ok (.iconst 1, 1) := by decide +kernel
theorem dW_law_174 : decode M_W_law.2.1 174 = .ok (.iadd, 1) := by decide +kernel
theorem dW_law_175 : decode M_W_law.2.1 175 = .ok (.iaload, 1) := by decide +kernel
theorem dW_law_176 : decode M_W_law.2.1 176 = .ok (.aload_n 0, 1) := by decide +kernel
theorem dW_law_177 : decode M_W_law.2.1 177 = .ok (.iload_n 3, 1) := by decide +kernel
theorem dW_law_178 : decode M_W_law.2.1 178 = .ok (.iconst 2, 1) := by decide +kernel
theorem dW_law_179 : decode M_W_law.2.1 179 = .ok (.iadd, 1) := by decide +kernel
theorem dW_law_180 : decode M_W_law.2.1 180 = .ok (.iaload, 1) := by decide +kernel
theorem dW_law_181 : decode M_W_law.2.1 181 = .ok (.aload_n 0, 1) := by decide +kernel
theorem dW_law_182 : decode M_W_law.2.1 182 = .ok (.iload_n 3, 1) := by decide +kernel
theorem dW_law_183 : decode M_W_law.2.1 183 = .ok (.iconst 3, 1) := by decide +kernel
theorem dW_law_184 : decode M_W_law.2.1 184 = .ok (.iadd, 1) := by decide +kernel
theorem dW_law_185 : decode M_W_law.2.1 185 = .ok (.iaload, 1) := by decide +kernel
theorem dW_law_186 : decode M_W_law.2.1 186 = .ok (.invokevirtual 23, 3) := by decide +kernel
theorem dW_law_189 : decode M_W_law.2.1 189 = .ok (.aload_n 2, 1) := by decide +kernel
theorem dW_law_190 : decode M_W_law.2.1 190 = .ok (.aload_n 0, 1) := by decide +kernel
theorem dW_law_191 : decode M_W_law.2.1 191 = .ok (.iload_n 3, 1) := by decide +kernel
theorem dW_law_192 : decode M_W_law.2.1 192 = .ok (.iconst 1, 1) := by decide +kernel
theorem dW_law_193 : decode M_W_law.2.1 193 = .ok (.iadd, 1) := by decide +kernel
theorem dW_law_194 : decode M_W_law.2.1 194 = .ok (.iaload, 1) := by decide +kernel
theorem dW_law_195 : decode M_W_law.2.1 195 = .ok (.aload_n 0, 1) := by decide +kernel
theorem dW_law_196 : decode M_W_law.2.1 196 = .ok (.iload_n 3, 1) := by decide +kernel
theorem dW_law_197 : decode M_W_law.2.1 197 = .ok (.iconst 2, 1) := by decide +kernel
theorem dW_law_198 : decode M_W_law.2.1 198 = .ok (.iadd, 1) := by decide +kernel
theorem dW_law_199 : decode M_W_law.2.1 199 = .ok (.iaload, 1) := by decide +kernel
theorem dW_law_200 : decode M_W_law.2.1 200 = .ok (.aload_n 0, 1) := by decide +kernel
theorem dW_law_201 : decode M_W_law.2.1 201 = .ok (.iload_n 3, 1) := by decide +kernel
theorem dW_law_202 : decode M_W_law.2.1 202 = .ok (.iconst 3, 1) := by decide +kernel
theorem dW_law_203 : decode M_W_law.2.1 203 = .ok (.iadd, 1) := by decide +kernel
theorem dW_law_204 : decode M_W_law.2.1 204 = .ok (.iaload, 1) := by decide +kernel
theorem dW_law_205 : decode M_W_law.2.1 205 = .ok (.invokevirtual 27, 3) := by decide +kernel
theorem dW_law_208 : decode M_W_law.2.1 208 = .ok (.if_icmp .eq 483, 3) := by decide +kernel
theorem dW_law_211 : decode M_W_law.2.1 211 = .ok (.iconst 0, 1) := by decide +kernel
theorem dW_law_212 : decode M_W_law.2.1 212 = .ok (.ireturn, 1) := by decide +kernel
theorem dW_law_213 : decode M_W_law.2.1 213 = .ok (.aload_n 1, 1) := by decide +kernel
theorem dW_law_214 : decode M_W_law.2.1 214 = .ok (.aload_n 0, 1) := by decide +kernel
theorem dW_law_215 : decode M_W_law.2.1 215 = .ok (.iload_n 3, 1) := by decide +kernel
theorem dW_law_216 : decode M_W_law.2.1 216 = .ok (.iconst 1, 1) := by decide +kernel
theorem dW_law_217 : decode M_W_law.2.1 217 = .ok (.iadd, 1) := by decide +kernel
theorem dW_law_218 : decode M_W_law.2.1 218 = .ok (.iaload, 1) := by decide +kernel
theorem dW_law_219 : decode M_W_law.2.1 219 = .ok (.aload_n 0, 1) := by decide +kernel
theorem dW_law_220 : decode M_W_law.2.1 220 = .ok (.iload_n 3, 1) := by decide +kernel
theorem dW_law_221 : decode M_W_law.2.1 221 = .ok (.iconst 2, 1) := by decide +kernel
theorem dW_law_222 : decode M_W_law.2.1 222 = .ok (.iadd, 1) := by decide +kernel
theorem dW_law_223 : decode M_W_law.2.1 223 = .ok (.iaload, 1) := by decide +kernel
theorem dW_law_224 : decode M_W_law.2.1 224 = .ok (.aload_n 0, 1) := by decide +kernel
theorem dW_law_225 : decode M_W_law.2.1 225 = .ok (.iload_n 3, 1) := by decide +kernel
theorem dW_law_226 : decode M_W_law.2.1 226 = .ok (.iconst 3, 1) := by decide +kernel
theorem dW_law_227 : decode M_W_law.2.1 227 = .ok (.iadd, 1) := by decide +kernel
theorem dW_law_228 : decode M_W_law.2.1 228 = .ok (.iaload, 1) := by decide +kernel
theorem dW_law_229 : decode M_W_law.2.1 229 = .ok (.aload_n 0, 1) := by decide +kernel
theorem dW_law_230 : decode M_W_law.2.1 230 = .ok (.iload_n 3, 1) := by decide +kernel
theorem dW_law_231 : decode M_W_law.2.1 231 = .ok (.iconst 4, 1) := by decide +kernel
theorem dW_law_232 : decode M_W_law.2.1 232 = .ok (.iadd, 1) := by decide +kernel
theorem dW_law_233 : decode M_W_law.2.1 233 = .ok (.iaload, 1) := by decide +kernel
theorem dW_law_234 : decode M_W_law.2.1 234 = .ok (.invokevirtual 28, 3) := by decide +kernel
theorem dW_law_237 : decode M_W_law.2.1 237 = .ok (.aload_n 2, 1) := by decide +kernel
theorem dW_law_238 : decode M_W_law.2.1 238 = .ok (.aload_n 0, 1) := by decide +kernel
theorem dW_law_239 : decode M_W_law.2.1 239 = .ok (.iload_n 3, 1) := by decide +kernel
theorem dW_law_240 : decode M_W_law.2.1 240 = .ok (.iconst 1, 1) := by decide +kernel
theorem dW_law_241 : decode M_W_law.2.1 241 = .ok (.iadd, 1) := by decide +kernel
theorem dW_law_242 : decode M_W_law.2.1 242 = .ok (.iaload, 1) := by decide +kernel
theorem dW_law_243 : decode M_W_law.2.1 243 = .ok (.aload_n 0, 1) := by decide +kernel
theorem dW_law_244 : decode M_W_law.2.1 244 = .ok (.iload_n 3, 1) := by decide +kernel
theorem dW_law_245 : decode M_W_law.2.1 245 = .ok (.iconst 2, 1) := by decide +kernel
theorem dW_law_246 : decode M_W_law.2.1 246 = .ok (.iadd, 1) := by decide +kernel
theorem dW_law_247 : decode M_W_law.2.1 247 = .ok (.iaload, 1) := by decide +kernel
theorem dW_law_248 : decode M_W_law.2.1 248 = .ok (.aload_n 0, 1) := by decide +kernel
theorem dW_law_249 : decode M_W_law.2.1 249 = .ok (.iload_n 3, 1) := by decide +kernel
theorem dW_law_250 : decode M_W_law.2.1 250 = .ok (.iconst 3, 1) := by decide +kernel
theorem dW_law_251 : decode M_W_law.2.1 251 = .ok (.iadd, 1) := by decide +kernel
theorem dW_law_252 : decode M_W_law.2.1 252 = .ok (.iaload, 1) := by decide +kernel
theorem dW_law_253 : decode M_W_law.2.1 253 = .ok (.aload_n 0, 1) := by decide +kernel
theorem dW_law_254 : decode M_W_law.2.1 254 = .ok (.iload_n 3, 1) := by decide +kernel
theorem dW_law_255 : decode M_W_law.2.1 255 = .ok (.iconst 4, 1) := by decide +kernel
theorem dW_law_256 : decode M_W_law.2.1 256 = .ok (.iadd, 1) := by decide +kernel
theorem dW_law_257 : decode M_W_law.2.1 257 = .ok (.iaload, 1) := by decide +kernel
theorem dW_law_258 : decode M_W_law.2.1 258 = .ok (.invokevirtual 32, 3) := by decide +kernel
theorem dW_law_261 : decode M_W_law.2.1 261 = .ok (.if_icmp .eq 430, 3) := by decide +kernel
theorem dW_law_264 : decode M_W_law.2.1 264 = .ok (.iconst 0, 1) := by decide +kernel
theorem dW_law_265 : decode M_W_law.2.1 265 = .ok (.ireturn, 1) := by decide +kernel
theorem dW_law_266 : decode M_W_law.2.1 266 = .ok (.aload_n 1, 1) := by decide +kernel
theorem dW_law_267 : decode M_W_law.2.1 267 = .ok (.aload_n 0, 1) := by decide +kernel
theorem dW_law_268 : decode M_W_law.2.1 268 = .ok (.iload_n 3, 1) := by decide +kernel
theorem dW_law_269 : decode M_W_law.2.1 269 = .ok (.iconst 1, 1) := by decide +kernel
theorem dW_law_270 : decode M_W_law.2.1 270 = .ok (.iadd, 1) := by decide +kernel
theorem dW_law_271 : decode M_W_law.2.1 271 = .ok (.iaload, 1) := by decide +kernel
theorem dW_law_272 : decode M_W_law.2.1 272 = .ok (.invokevirtual 33, 3) := by decide +kernel
theorem dW_law_275 : decode M_W_law.2.1 275 = .ok (.aload_n 2, 1) := by decide +kernel
theorem dW_law_276 : decode M_W_law.2.1 276 = .ok (.aload_n 0, 1) := by decide +kernel
theorem dW_law_277 : decode M_W_law.2.1 277 = .ok (.iload_n 3, 1) := by decide +kernel
theorem dW_law_278 : decode M_W_law.2.1 278 = .ok (.iconst 1, 1) := by decide +kernel
theorem dW_law_279 : decode M_W_law.2.1 279 = .ok (.iadd, 1) := by decide +kernel
theorem dW_law_280 : decode M_W_law.2.1 280 = .ok (.iaload, 1) := by decide +kernel
theorem dW_law_281 : decode M_W_law.2.1 281 = .ok (.invokevirtual 37, 3) := by decide +kernel
theorem dW_law_284 : decode M_W_law.2.1 284 = .ok (.if_icmp .eq 407, 3) := by decide +kernel
theorem dW_law_287 : decode M_W_law.2.1 287 = .ok (.iconst 0, 1) := by decide +kernel
theorem dW_law_288 : decode M_W_law.2.1 288 = .ok (.ireturn, 1) := by decide +kernel
theorem dW_law_289 : decode M_W_law.2.1 289 = .ok (.aload_n 1, 1) := by decide +kernel
theorem dW_law_290 : decode M_W_law.2.1 290 = .ok (.aload_n 0, 1) := by decide +kernel
theorem dW_law_291 : decode M_W_law.2.1 291 = .ok (.iload_n 3, 1) := by decide +kernel
theorem dW_law_292 : decode M_W_law.2.1 292 = .ok (.iconst 1, 1) := by decide +kernel
theorem dW_law_293 : decode M_W_law.2.1 293 = .ok (.iadd, 1) := by decide +kernel
theorem dW_law_294 : decode M_W_law.2.1 294 = .ok (.iaload, 1) := by decide +kernel
theorem dW_law_295 : decode M_W_law.2.1 295 = .ok (.invokevirtual 38, 3) := by decide +kernel
theorem dW_law_298 : decode M_W_law.2.1 298 = .ok (.aload_n 2, 1) := by decide +kernel
theorem dW_law_299 : decode M_W_law.2.1 299 = .ok (.aload_n 0, 1) := by decide +kernel
theorem dW_law_300 : decode M_W_law.2.1 300 = .ok (.iload_n 3, 1) := by decide +kernel
theorem dW_law_301 : decode M_W_law.2.1 301 = .ok (.iconst 1, 1) := by decide +kernel
theorem dW_law_302 : decode M_W_law.2.1 302 = .ok (.iadd, 1) := by decide +kernel
theorem dW_law_303 : decode M_W_law.2.1 303 = .ok (.iaload, 1) := by decide +kernel
theorem dW_law_304 : decode M_W_law.2.1 304 = .ok (.invokevirtual 41, 3) := by decide +kernel
theorem dW_law_307 : decode M_W_law.2.1 307 = .ok (.if_icmp .eq 384, 3) := by decide +kernel
theorem dW_law_310 : decode M_W_law.2.1 310 = .ok (.iconst 0, 1) := by decide +kernel
theorem dW_law_311 : decode M_W_law.2.1 311 = .ok (.ireturn, 1) := by decide +kernel
theorem dW_law_312 : decode M_W_law.2.1 312 = .ok (.aload_n 1, 1) := by decide +kernel
theorem dW_law_313 : decode M_W_law.2.1 313 = .ok (.aload_n 0, 1) := by decide +kernel
theorem dW_law_314 : decode M_W_law.2.1 314 = .ok (.iload_n 3, 1) := by decide +kernel
theorem dW_law_315 : decode M_W_law.2.1 315 = .ok (.iconst 1, 1) := by decide +kernel
theorem dW_law_316 : decode M_W_law.2.1 316 = .ok (.iadd, 1) := by decide +kernel
theorem dW_law_317 : decode M_W_law.2.1 317 = .ok (.iaload, 1) := by decide +kernel
theorem dW_law_318 : decode M_W_law.2.1 318 = .ok (.invokevirtual 42, 3) := by decide +kernel
theorem dW_law_321 : decode M_W_law.2.1 321 = .ok (.aload_n 2, 1) := by decide +kernel
theorem dW_law_322 : decode M_W_law.2.1 322 = .ok (.aload_n 0, 1) := by decide +kernel
theorem dW_law_323 : decode M_W_law.2.1 323 = .ok (.iload_n 3, 1) := by decide +kernel
theorem dW_law_324 : decode M_W_law.2.1 324 = .ok (.iconst 1, 1) := by decide +kernel
theorem dW_law_325 : decode M_W_law.2.1 325 = .ok (.iadd, 1) := by decide +kernel
theorem dW_law_326 : decode M_W_law.2.1 326 = .ok (.iaload, 1) := by decide +kernel
theorem dW_law_327 : decode M_W_law.2.1 327 = .ok (.invokevirtual 45, 3) := by decide +kernel
theorem dW_law_330 : decode M_W_law.2.1 330 = .ok (.if_icmp .eq 361, 3) := by decide +kernel
theorem dW_law_333 : decode M_W_law.2.1 333 = .ok (.iconst 0, 1) := by decide +kernel
theorem dW_law_334 : decode M_W_law.2.1 334 = .ok (.ireturn, 1) := by decide +kernel
theorem dW_law_335 : decode M_W_law.2.1 335 = .ok (.aload_n 1, 1) := by decide +kernel
theorem dW_law_336 : decode M_W_law.2.1 336 = .ok (.aload_n 0, 1) := by decide +kernel
theorem dW_law_337 : decode M_W_law.2.1 337 = .ok (.iload_n 3, 1) := by decide +kernel
theorem dW_law_338 : decode M_W_law.2.1 338 = .ok (.iconst 1, 1) := by decide +kernel
theorem dW_law_339 : decode M_W_law.2.1 339 = .ok (.iadd, 1) := by decide +kernel
theorem dW_law_340 : decode M_W_law.2.1 340 = .ok (.iaload, 1) := by decide +kernel
theorem dW_law_341 : decode M_W_law.2.1 341 = .ok (.aload_n 0, 1) := by decide +kernel
theorem dW_law_342 : decode M_W_law.2.1 342 = .ok (.iload_n 3, 1) := by decide +kernel
theorem dW_law_343 : decode M_W_law.2.1 343 = .ok (.iconst 2, 1) := by decide +kernel
theorem dW_law_344 : decode M_W_law.2.1 344 = .ok (.iadd, 1) := by decide +kernel
theorem dW_law_345 : decode M_W_law.2.1 345 = .ok (.iaload, 1) := by decide +kernel
theorem dW_law_346 : decode M_W_law.2.1 346 = .ok (.invokevirtual 46, 3) := by decide +kernel
theorem dW_law_349 : decode M_W_law.2.1 349 = .ok (.aload_n 2, 1) := by decide +kernel
theorem dW_law_350 : decode M_W_law.2.1 350 = .ok (.aload_n 0, 1) := by decide +kernel
theorem dW_law_351 : decode M_W_law.2.1 351 = .ok (.iload_n 3, 1) := by decide +kernel
theorem dW_law_352 : decode M_W_law.2.1 352 = .ok (.iconst 1, 1) := by decide +kernel
theorem dW_law_353 : decode M_W_law.2.1 353 = .ok (.iadd, 1) := by decide +kernel
theorem dW_law_354 : decode M_W_law.2.1 354 = .ok (.iaload, 1) := by decide +kernel
theorem dW_law_355 : decode M_W_law.2.1 355 = .ok (.aload_n 0, 1) := by decide +kernel
theorem dW_law_356 : decode M_W_law.2.1 356 = .ok (.iload_n 3, 1) := by decide +kernel
theorem dW_law_357 : decode M_W_law.2.1 357 = .ok (.iconst 2, 1) := by decide +kernel
theorem dW_law_358 : decode M_W_law.2.1 358 = .ok (.iadd, 1) := by decide +kernel
theorem dW_law_359 : decode M_W_law.2.1 359 = .ok (.iaload, 1) := by decide +kernel
theorem dW_law_360 : decode M_W_law.2.1 360 = .ok (.invokevirtual 49, 3) := by decide +kernel
theorem dW_law_363 : decode M_W_law.2.1 363 = .ok (.if_icmp .eq 328, 3) := by decide +kernel
theorem dW_law_366 : decode M_W_law.2.1 366 = .ok (.iconst 0, 1) := by decide +kernel
theorem dW_law_367 : decode M_W_law.2.1 367 = .ok (.ireturn, 1) := by decide +kernel
theorem dW_law_368 : decode M_W_law.2.1 368 = .ok (.aload_n 1, 1) := by decide +kernel
theorem dW_law_369 : decode M_W_law.2.1 369 = .ok (.aload_n 0, 1) := by decide +kernel
theorem dW_law_370 : decode M_W_law.2.1 370 = .ok (.iload_n 3, 1) := by decide +kernel
theorem dW_law_371 : decode M_W_law.2.1 371 = .ok (.iconst 1, 1) := by decide +kernel
theorem dW_law_372 : decode M_W_law.2.1 372 = .ok (.iadd, 1) := by decide +kernel
theorem dW_law_373 : decode M_W_law.2.1 373 = .ok (.iaload, 1) := by decide +kernel
theorem dW_law_374 : decode M_W_law.2.1 374 = .ok (.aload_n 0, 1) := by decide +kernel
theorem dW_law_375 : decode M_W_law.2.1 375 = .ok (.iload_n 3, 1) := by decide +kernel
theorem dW_law_376 : decode M_W_law.2.1 376 = .ok (.iconst 2, 1) := by decide +kernel
theorem dW_law_377 : decode M_W_law.2.1 377 = .ok (.iadd, 1) := by decide +kernel
theorem dW_law_378 : decode M_W_law.2.1 378 = .ok (.iaload, 1) := by decide +kernel
theorem dW_law_379 : decode M_W_law.2.1 379 = .ok (.aload_n 0, 1) := by decide +kernel
theorem dW_law_380 : decode M_W_law.2.1 380 = .ok (.iload_n 3, 1) := by decide +kernel
theorem dW_law_381 : decode M_W_law.2.1 381 = .ok (.iconst 3, 1) := by decide +kernel
theorem dW_law_382 : decode M_W_law.2.1 382 = .ok (.iadd, 1) := by decide +kernel
theorem dW_law_383 : decode M_W_law.2.1 383 = .ok (.iaload, 1) := by decide +kernel
theorem dW_law_384 : decode M_W_law.2.1 384 = .ok (.invokevirtual 50, 3) := by decide +kernel
theorem dW_law_387 : decode M_W_law.2.1 387 = .ok (.aload_n 2, 1) := by decide +kernel
theorem dW_law_388 : decode M_W_law.2.1 388 = .ok (.aload_n 0, 1) := by decide +kernel
theorem dW_law_389 : decode M_W_law.2.1 389 = .ok (.iload_n 3, 1) := by decide +kernel
theorem dW_law_390 : decode M_W_law.2.1 390 = .ok (.iconst 1, 1) := by decide +kernel
theorem dW_law_391 : decode M_W_law.2.1 391 = .ok (.iadd, 1) := by decide +kernel
theorem dW_law_392 : decode M_W_law.2.1 392 = .ok (.iaload, 1) := by decide +kernel
theorem dW_law_393 : decode M_W_law.2.1 393 = .ok (.aload_n 0, 1) := by decide +kernel
theorem dW_law_394 : decode M_W_law.2.1 394 = .ok (.iload_n 3, 1) := by decide +kernel
theorem dW_law_395 : decode M_W_law.2.1 395 = .ok (.iconst 2, 1) := by decide +kernel
theorem dW_law_396 : decode M_W_law.2.1 396 = .ok (.iadd, 1) := by decide +kernel
theorem dW_law_397 : decode M_W_law.2.1 397 = .ok (.iaload, 1) := by decide +kernel
theorem dW_law_398 : decode M_W_law.2.1 398 = .ok (.aload_n 0, 1) := by decide +kernel
theorem dW_law_399 : decode M_W_law.2.1 399 = .ok (.iload_n 3, 1) := by decide +kernel
theorem dW_law_400 : decode M_W_law.2.1 400 = .ok (.iconst 3, 1) := by decide +kernel
theorem dW_law_401 : decode M_W_law.2.1 401 = .ok (.iadd, 1) := by decide +kernel
theorem dW_law_402 : decode M_W_law.2.1 402 = .ok (.iaload, 1) := by decide +kernel
theorem dW_law_403 : decode M_W_law.2.1 403 = .ok (.invokevirtual 53, 3) := by decide +kernel
theorem dW_law_406 : decode M_W_law.2.1 406 = .ok (.if_icmp .eq 285, 3) := by decide +kernel
theorem dW_law_409 : decode M_W_law.2.1 409 = .ok (.iconst 0, 1) := by decide +kernel
theorem dW_law_410 : decode M_W_law.2.1 410 = .ok (.ireturn, 1) := by decide +kernel
theorem dW_law_411 : decode M_W_law.2.1 411 = .ok (.aload_n 1, 1) := by decide +kernel
theorem dW_law_412 : decode M_W_law.2.1 412 = .ok (.aload_n 0, 1) := by decide +kernel
theorem dW_law_413 : decode M_W_law.2.1 413 = .ok (.iload_n 3, 1) := by decide +kernel
theorem dW_law_414 : decode M_W_law.2.1 414 = .ok (.iconst 1, 1) := by decide +kernel
theorem dW_law_415 : decode M_W_law.2.1 415 = .ok (.iadd, 1) := by decide +kernel
theorem dW_law_416 : decode M_W_law.2.1 416 = .ok (.iaload, 1) := by decide +kernel
theorem dW_law_417 : decode M_W_law.2.1 417 = .ok (.aload_n 0, 1) := by decide +kernel
theorem dW_law_418 : decode M_W_law.2.1 418 = .ok (.iload_n 3, 1) := by decide +kernel
theorem dW_law_419 : decode M_W_law.2.1 419 = .ok (.iconst 2, 1) := by decide +kernel
theorem dW_law_420 : decode M_W_law.2.1 420 = .ok (.iadd, 1) := by decide +kernel
theorem dW_law_421 : decode M_W_law.2.1 421 = .ok (.iaload, 1) := by decide +kernel
theorem dW_law_422 : decode M_W_law.2.1 422 = .ok (.invokevirtual 54, 3) := by decide +kernel
theorem dW_law_425 : decode M_W_law.2.1 425 = .ok (.aload_n 2, 1) := by decide +kernel
theorem dW_law_426 : decode M_W_law.2.1 426 = .ok (.aload_n 0, 1) := by decide +kernel
theorem dW_law_427 : decode M_W_law.2.1 427 = .ok (.iload_n 3, 1) := by decide +kernel
theorem dW_law_428 : decode M_W_law.2.1 428 = .ok (.iconst 1, 1) := by decide +kernel
theorem dW_law_429 : decode M_W_law.2.1 429 = .ok (.iadd, 1) := by decide +kernel
theorem dW_law_430 : decode M_W_law.2.1 430 = .ok (.iaload, 1) := by decide +kernel
theorem dW_law_431 : decode M_W_law.2.1 431 = .ok (.aload_n 0, 1) := by decide +kernel
theorem dW_law_432 : decode M_W_law.2.1 432 = .ok (.iload_n 3, 1) := by decide +kernel
theorem dW_law_433 : decode M_W_law.2.1 433 = .ok (.iconst 2, 1) := by decide +kernel
theorem dW_law_434 : decode M_W_law.2.1 434 = .ok (.iadd, 1) := by decide +kernel
theorem dW_law_435 : decode M_W_law.2.1 435 = .ok (.iaload, 1) := by decide +kernel
theorem dW_law_436 : decode M_W_law.2.1 436 = .ok (.invokevirtual 57, 3) := by decide +kernel
theorem dW_law_439 : decode M_W_law.2.1 439 = .ok (.if_icmp .eq 252, 3) := by decide +kernel
theorem dW_law_442 : decode M_W_law.2.1 442 = .ok (.iconst 0, 1) := by decide +kernel
theorem dW_law_443 : decode M_W_law.2.1 443 = .ok (.ireturn, 1) := by decide +kernel
theorem dW_law_444 : decode M_W_law.2.1 444 = .ok (.aload_n 1, 1) := by decide +kernel
theorem dW_law_445 : decode M_W_law.2.1 445 = .ok (.aload_n 0, 1) := by decide +kernel
theorem dW_law_446 : decode M_W_law.2.1 446 = .ok (.iload_n 3, 1) := by decide +kernel
theorem dW_law_447 : decode M_W_law.2.1 447 = .ok (.iconst 1, 1) := by decide +kernel
theorem dW_law_448 : decode M_W_law.2.1 448 = .ok (.iadd, 1) := by decide +kernel
theorem dW_law_449 : decode M_W_law.2.1 449 = .ok (.iaload, 1) := by decide +kernel
theorem dW_law_450 : decode M_W_law.2.1 450 = .ok (.aload_n 0, 1) := by decide +kernel
theorem dW_law_451 : decode M_W_law.2.1 451 = .ok (.iload_n 3, 1) := by decide +kernel
theorem dW_law_452 : decode M_W_law.2.1 452 = .ok (.iconst 2, 1) := by decide +kernel
theorem dW_law_453 : decode M_W_law.2.1 453 = .ok (.iadd, 1) := by decide +kernel
theorem dW_law_454 : decode M_W_law.2.1 454 = .ok (.iaload, 1) := by decide +kernel
theorem dW_law_455 : decode M_W_law.2.1 455 = .ok (.aload_n 0, 1) := by decide +kernel
theorem dW_law_456 : decode M_W_law.2.1 456 = .ok (.iload_n 3, 1) := by decide +kernel
theorem dW_law_457 : decode M_W_law.2.1 457 = .ok (.iconst 3, 1) := by decide +kernel
theorem dW_law_458 : decode M_W_law.2.1 458 = .ok (.iadd, 1) := by decide +kernel
theorem dW_law_459 : decode M_W_law.2.1 459 = .ok (.iaload, 1) := by decide +kernel
theorem dW_law_460 : decode M_W_law.2.1 460 = .ok (.invokevirtual 58, 3) := by decide +kernel
theorem dW_law_463 : decode M_W_law.2.1 463 = .ok (.aload_n 2, 1) := by decide +kernel
theorem dW_law_464 : decode M_W_law.2.1 464 = .ok (.aload_n 0, 1) := by decide +kernel
theorem dW_law_465 : decode M_W_law.2.1 465 = .ok (.iload_n 3, 1) := by decide +kernel
theorem dW_law_466 : decode M_W_law.2.1 466 = .ok (.iconst 1, 1) := by decide +kernel
theorem dW_law_467 : decode M_W_law.2.1 467 = .ok (.iadd, 1) := by decide +kernel
theorem dW_law_468 : decode M_W_law.2.1 468 = .ok (.iaload, 1) := by decide +kernel
theorem dW_law_469 : decode M_W_law.2.1 469 = .ok (.aload_n 0, 1) := by decide +kernel
theorem dW_law_470 : decode M_W_law.2.1 470 = .ok (.iload_n 3, 1) := by decide +kernel
theorem dW_law_471 : decode M_W_law.2.1 471 = .ok (.iconst 2, 1) := by decide +kernel
theorem dW_law_472 : decode M_W_law.2.1 472 = .ok (.iadd, 1) := by decide +kernel
theorem dW_law_473 : decode M_W_law.2.1 473 = .ok (.iaload, 1) := by decide +kernel
theorem dW_law_474 : decode M_W_law.2.1 474 = .ok (.aload_n 0, 1) := by decide +kernel
theorem dW_law_475 : decode M_W_law.2.1 475 = .ok (.iload_n 3, 1) := by decide +kernel
theorem dW_law_476 : decode M_W_law.2.1 476 = .ok (.iconst 3, 1) := by decide +kernel
theorem dW_law_477 : decode M_W_law.2.1 477 = .ok (.iadd, 1) := by decide +kernel
theorem dW_law_478 : decode M_W_law.2.1 478 = .ok (.iaload, 1) := by decide +kernel
theorem dW_law_479 : decode M_W_law.2.1 479 = .ok (.invokevirtual 62, 3) := by decide +kernel
theorem dW_law_482 : decode M_W_law.2.1 482 = .ok (.if_icmp .eq 209, 3) := by decide +kernel
theorem dW_law_485 : decode M_W_law.2.1 485 = .ok (.iconst 0, 1) := by decide +kernel
theorem dW_law_486 : decode M_W_law.2.1 486 = .ok (.ireturn, 1) := by decide +kernel
theorem dW_law_487 : decode M_W_law.2.1 487 = .ok (.aload_n 1, 1) := by decide +kernel
theorem dW_law_488 : decode M_W_law.2.1 488 = .ok (.invokevirtual 63, 3) := by decide +kernel
theorem dW_law_491 : decode M_W_law.2.1 491 = .ok (.aload_n 2, 1) := by decide +kernel
theorem dW_law_492 : decode M_W_law.2.1 492 = .ok (.invokevirtual 67, 3) := by decide +kernel
theorem dW_law_495 : decode M_W_law.2.1 495 = .ok (.if_icmp .eq 196, 3) := by decide +kernel
theorem dW_law_498 : decode M_W_law.2.1 498 = .ok (.iconst 0, 1) := by decide +kernel
theorem dW_law_499 : decode M_W_law.2.1 499 = .ok (.ireturn, 1) := by decide +kernel
theorem dW_law_500 : decode M_W_law.2.1 500 = .ok (.aload_n 1, 1) := by decide +kernel
theorem dW_law_501 : decode M_W_law.2.1 501 = .ok (.invokevirtual 68, 3) := by decide +kernel
theorem dW_law_504 : decode M_W_law.2.1 504 = .ok (.aload_n 2, 1) := by decide +kernel
theorem dW_law_505 : decode M_W_law.2.1 505 = .ok (.invokevirtual 71, 3) := by decide +kernel
theorem dW_law_508 : decode M_W_law.2.1 508 = .ok (.if_icmp .eq 183, 3) := by decide +kernel
theorem dW_law_511 : decode M_W_law.2.1 511 = .ok (.iconst 0, 1) := by decide +kernel
theorem dW_law_512 : decode M_W_law.2.1 512 = .ok (.ireturn, 1) := by decide +kernel
theorem dW_law_513 : decode M_W_law.2.1 513 = .ok (.aload_n 1, 1) := by decide +kernel
theorem dW_law_514 : decode M_W_law.2.1 514 = .ok (.aload_n 0, 1) := by decide +kernel
theorem dW_law_515 : decode M_W_law.2.1 515 = .ok (.iload_n 3, 1) := by decide +kernel
theorem dW_law_516 : decode M_W_law.2.1 516 = .ok (.iconst 1, 1) := by decide +kernel
theorem dW_law_517 : decode M_W_law.2.1 517 = .ok (.iadd, 1) := by decide +kernel
theorem dW_law_518 : decode M_W_law.2.1 518 = .ok (.iaload, 1) := by decide +kernel
theorem dW_law_519 : decode M_W_law.2.1 519 = .ok (.invokevirtual 72, 3) := by decide +kernel
theorem dW_law_522 : decode M_W_law.2.1 522 = .ok (.aload_n 2, 1) := by decide +kernel
theorem dW_law_523 : decode M_W_law.2.1 523 = .ok (.aload_n 0, 1) := by decide +kernel
theorem dW_law_524 : decode M_W_law.2.1 524 = .ok (.iload_n 3, 1) := by decide +kernel
theorem dW_law_525 : decode M_W_law.2.1 525 = .ok (.iconst 1, 1) := by decide +kernel
theorem dW_law_526 : decode M_W_law.2.1 526 = .ok (.iadd, 1) := by decide +kernel
theorem dW_law_527 : decode M_W_law.2.1 527 = .ok (.iaload, 1) := by decide +kernel
theorem dW_law_528 : decode M_W_law.2.1 528 = .ok (.invokevirtual 75, 3) := by decide +kernel
theorem dW_law_531 : decode M_W_law.2.1 531 = .ok (.if_icmp .eq 160, 3) := by decide +kernel
theorem dW_law_534 : decode M_W_law.2.1 534 = .ok (.iconst 0, 1) := by decide +kernel
theorem dW_law_535 : decode M_W_law.2.1 535 = .ok (.ireturn, 1) := by decide +kernel
theorem dW_law_536 : decode M_W_law.2.1 536 = .ok (.aload_n 1, 1) := by decide +kernel
theorem dW_law_537 : decode M_W_law.2.1 537 = .ok (.aload_n 0, 1) := by decide +kernel
theorem dW_law_538 : decode M_W_law.2.1 538 = .ok (.iload_n 3, 1) := by decide +kernel
theorem dW_law_539 : decode M_W_law.2.1 539 = .ok (.iconst 1, 1) := by decide +kernel
theorem dW_law_540 : decode M_W_law.2.1 540 = .ok (.iadd, 1) := by decide +kernel
theorem dW_law_541 : decode M_W_law.2.1 541 = .ok (.iaload, 1) := by decide +kernel
theorem dW_law_542 : decode M_W_law.2.1 542 = .ok (.aload_n 0, 1) := by decide +kernel
theorem dW_law_543 : decode M_W_law.2.1 543 = .ok (.iload_n 3, 1) := by decide +kernel
theorem dW_law_544 : decode M_W_law.2.1 544 = .ok (.iconst 2, 1) := by decide +kernel
theorem dW_law_545 : decode M_W_law.2.1 545 = .ok (.iadd, 1) := by decide +kernel
theorem dW_law_546 : decode M_W_law.2.1 546 = .ok (.iaload, 1) := by decide +kernel
theorem dW_law_547 : decode M_W_law.2.1 547 = .ok (.aload_n 0, 1) := by decide +kernel
theorem dW_law_548 : decode M_W_law.2.1 548 = .ok (.iload_n 3, 1) := by decide +kernel
theorem dW_law_549 : decode M_W_law.2.1 549 = .ok (.iconst 3, 1) := by decide +kernel
theorem dW_law_550 : decode M_W_law.2.1 550 = .ok (.iadd, 1) := by decide +kernel
theorem dW_law_551 : decode M_W_law.2.1 551 = .ok (.iaload, 1) := by decide +kernel
theorem dW_law_552 : decode M_W_law.2.1 552 = .ok (.invokevirtual 76, 3) := by decide +kernel
theorem dW_law_555 : decode M_W_law.2.1 555 = .ok (.aload_n 2, 1) := by decide +kernel
theorem dW_law_556 : decode M_W_law.2.1 556 = .ok (.aload_n 0, 1) := by decide +kernel
theorem dW_law_557 : decode M_W_law.2.1 557 = .ok (.iload_n 3, 1) := by decide +kernel
theorem dW_law_558 : decode M_W_law.2.1 558 = .ok (.iconst 1, 1) := by decide +kernel
theorem dW_law_559 : decode M_W_law.2.1 559 = .ok (.iadd, 1) := by decide +kernel
theorem dW_law_560 : decode M_W_law.2.1 560 = .ok (.iaload, 1) := by decide +kernel
theorem dW_law_561 : decode M_W_law.2.1 561 = .ok (.aload_n 0, 1) := by decide +kernel
theorem dW_law_562 : decode M_W_law.2.1 562 = .ok (.iload_n 3, 1) := by decide +kernel
theorem dW_law_563 : decode M_W_law.2.1 563 = .ok (.iconst 2, 1) := by decide +kernel
theorem dW_law_564 : decode M_W_law.2.1 564 = .ok (.iadd, 1) := by decide +kernel
theorem dW_law_565 : decode M_W_law.2.1 565 = .ok (.iaload, 1) := by decide +kernel
theorem dW_law_566 : decode M_W_law.2.1 566 = .ok (.aload_n 0, 1) := by decide +kernel
theorem dW_law_567 : decode M_W_law.2.1 567 = .ok (.iload_n 3, 1) := by decide +kernel
theorem dW_law_568 : decode M_W_law.2.1 568 = .ok (.iconst 3, 1) := by decide +kernel
theorem dW_law_569 : decode M_W_law.2.1 569 = .ok (.iadd, 1) := by decide +kernel
theorem dW_law_570 : decode M_W_law.2.1 570 = .ok (.iaload, 1) := by decide +kernel
theorem dW_law_571 : decode M_W_law.2.1 571 = .ok (.invokevirtual 79, 3) := by decide +kernel
theorem dW_law_574 : decode M_W_law.2.1 574 = .ok (.if_icmp .eq 117, 3) := by decide +kernel
theorem dW_law_577 : decode M_W_law.2.1 577 = .ok (.iconst 0, 1) := by decide +kernel
theorem dW_law_578 : decode M_W_law.2.1 578 = .ok (.ireturn, 1) := by decide +kernel
theorem dW_law_579 : decode M_W_law.2.1 579 = .ok (.aload_n 1, 1) := by decide +kernel
theorem dW_law_580 : decode M_W_law.2.1 580 = .ok (.aload_n 0, 1) := by decide +kernel
theorem dW_law_581 : decode M_W_law.2.1 581 = .ok (.iload_n 3, 1) := by decide +kernel
theorem dW_law_582 : decode M_W_law.2.1 582 = .ok (.iconst 1, 1) := by decide +kernel
theorem dW_law_583 : decode M_W_law.2.1 583 = .ok (.iadd, 1) := by decide +kernel
theorem dW_law_584 : decode M_W_law.2.1 584 = .ok (.iaload, 1) := by decide +kernel
theorem dW_law_585 : decode M_W_law.2.1 585 = .ok (.invokevirtual 80, 3) := by decide +kernel
theorem dW_law_588 : decode M_W_law.2.1 588 = .ok (.aload_n 2, 1) := by decide +kernel
theorem dW_law_589 : decode M_W_law.2.1 589 = .ok (.aload_n 0, 1) := by decide +kernel
theorem dW_law_590 : decode M_W_law.2.1 590 = .ok (.iload_n 3, 1) := by decide +kernel
theorem dW_law_591 : decode M_W_law.2.1 591 = .ok (.iconst 1, 1) := by decide +kernel
theorem dW_law_592 : decode M_W_law.2.1 592 = .ok (.iadd, 1) := by decide +kernel
theorem dW_law_593 : decode M_W_law.2.1 593 = .ok (.iaload, 1) := by decide +kernel
theorem dW_law_594 : decode M_W_law.2.1 594 = .ok (.invokevirtual 83, 3) := by decide +kernel
theorem dW_law_597 : decode M_W_law.2.1 597 = .ok (.if_icmp .eq 94, 3) := by decide +kernel
theorem dW_law_600 : decode M_W_law.2.1 600 = .ok (.iconst 0, 1) := by decide +kernel
theorem dW_law_601 : decode M_W_law.2.1 601 = .ok (.ireturn, 1) := by decide +kernel
theorem dW_law_602 : decode M_W_law.2.1 602 = .ok (.aload_n 1, 1) := by decide +kernel
theorem dW_law_603 : decode M_W_law.2.1 603 = .ok (.aload_n 0, 1) := by decide +kernel
theorem dW_law_604 : decode M_W_law.2.1 604 = .ok (.iload_n 3, 1) := by decide +kernel
theorem dW_law_605 : decode M_W_law.2.1 605 = .ok (.iconst 1, 1) := by decide +kernel
theorem dW_law_606 : decode M_W_law.2.1 606 = .ok (.iadd, 1) := by decide +kernel
theorem dW_law_607 : decode M_W_law.2.1 607 = .ok (.iaload, 1) := by decide +kernel
theorem dW_law_608 : decode M_W_law.2.1 608 = .ok (.aload_n 0, 1) := by decide +kernel
theorem dW_law_609 : decode M_W_law.2.1 609 = .ok (.iload_n 3, 1) := by decide +kernel
theorem dW_law_610 : decode M_W_law.2.1 610 = .ok (.iconst 2, 1) := by decide +kernel
theorem dW_law_611 : decode M_W_law.2.1 611 = .ok (.iadd, 1) := by decide +kernel
theorem dW_law_612 : decode M_W_law.2.1 612 = .ok (.iaload, 1) := by decide +kernel
theorem dW_law_613 : decode M_W_law.2.1 613 = .ok (.invokevirtual 84, 3) := by decide +kernel
theorem dW_law_616 : decode M_W_law.2.1 616 = .ok (.aload_n 2, 1) := by decide +kernel
theorem dW_law_617 : decode M_W_law.2.1 617 = .ok (.aload_n 0, 1) := by decide +kernel
theorem dW_law_618 : decode M_W_law.2.1 618 = .ok (.iload_n 3, 1) := by decide +kernel
theorem dW_law_619 : decode M_W_law.2.1 619 = .ok (.iconst 1, 1) := by decide +kernel
theorem dW_law_620 : decode M_W_law.2.1 620 = .ok (.iadd, 1) := by decide +kernel
theorem dW_law_621 : decode M_W_law.2.1 621 = .ok (.iaload, 1) := by decide +kernel
theorem dW_law_622 : decode M_W_law.2.1 622 = .ok (.aload_n 0, 1) := by decide +kernel
theorem dW_law_623 : decode M_W_law.2.1 623 = .ok (.iload_n 3, 1) := by decide +kernel
theorem dW_law_624 : decode M_W_law.2.1 624 = .ok (.iconst 2, 1) := by decide +kernel
theorem dW_law_625 : decode M_W_law.2.1 625 = .ok (.iadd, 1) := by decide +kernel
theorem dW_law_626 : decode M_W_law.2.1 626 = .ok (.iaload, 1) := by decide +kernel
theorem dW_law_627 : decode M_W_law.2.1 627 = .ok (.invokevirtual 87, 3) := by decide +kernel
theorem dW_law_630 : decode M_W_law.2.1 630 = .ok (.if_icmp .eq 61, 3) := by decide +kernel
theorem dW_law_633 : decode M_W_law.2.1 633 = .ok (.iconst 0, 1) := by decide +kernel
theorem dW_law_634 : decode M_W_law.2.1 634 = .ok (.ireturn, 1) := by decide +kernel
theorem dW_law_635 : decode M_W_law.2.1 635 = .ok (.aload_n 1, 1) := by decide +kernel
theorem dW_law_636 : decode M_W_law.2.1 636 = .ok (.aload_n 0, 1) := by decide +kernel
theorem dW_law_637 : decode M_W_law.2.1 637 = .ok (.iload_n 3, 1) := by decide +kernel
theorem dW_law_638 : decode M_W_law.2.1 638 = .ok (.iconst 1, 1) := by decide +kernel
theorem dW_law_639 : decode M_W_law.2.1 639 = .ok (.iadd, 1) := by decide +kernel
theorem dW_law_640 : decode M_W_law.2.1 640 = .ok (.iaload, 1) := by decide +kernel
theorem dW_law_641 : decode M_W_law.2.1 641 = .ok (.aload_n 0, 1) := by decide +kernel
theorem dW_law_642 : decode M_W_law.2.1 642 = .ok (.iload_n 3, 1) := by decide +kernel
theorem dW_law_643 : decode M_W_law.2.1 643 = .ok (.iconst 2, 1) := by decide +kernel
theorem dW_law_644 : decode M_W_law.2.1 644 = .ok (.iadd, 1) := by decide +kernel
theorem dW_law_645 : decode M_W_law.2.1 645 = .ok (.iaload, 1) := by decide +kernel
theorem dW_law_646 : decode M_W_law.2.1 646 = .ok (.invokevirtual 88, 3) := by decide +kernel
theorem dW_law_649 : decode M_W_law.2.1 649 = .ok (.aload_n 2, 1) := by decide +kernel
theorem dW_law_650 : decode M_W_law.2.1 650 = .ok (.aload_n 0, 1) := by decide +kernel
theorem dW_law_651 : decode M_W_law.2.1 651 = .ok (.iload_n 3, 1) := by decide +kernel
theorem dW_law_652 : decode M_W_law.2.1 652 = .ok (.iconst 1, 1) := by decide +kernel
theorem dW_law_653 : decode M_W_law.2.1 653 = .ok (.iadd, 1) := by decide +kernel
theorem dW_law_654 : decode M_W_law.2.1 654 = .ok (.iaload, 1) := by decide +kernel
theorem dW_law_655 : decode M_W_law.2.1 655 = .ok (.aload_n 0, 1) := by decide +kernel
theorem dW_law_656 : decode M_W_law.2.1 656 = .ok (.iload_n 3, 1) := by decide +kernel
theorem dW_law_657 : decode M_W_law.2.1 657 = .ok (.iconst 2, 1) := by decide +kernel
theorem dW_law_658 : decode M_W_law.2.1 658 = .ok (.iadd, 1) := by decide +kernel
theorem dW_law_659 : decode M_W_law.2.1 659 = .ok (.iaload, 1) := by decide +kernel
theorem dW_law_660 : decode M_W_law.2.1 660 = .ok (.invokevirtual 91, 3) := by decide +kernel
theorem dW_law_663 : decode M_W_law.2.1 663 = .ok (.if_icmp .eq 28, 3) := by decide +kernel
theorem dW_law_666 : decode M_W_law.2.1 666 = .ok (.iconst 0, 1) := by decide +kernel
theorem dW_law_667 : decode M_W_law.2.1 667 = .ok (.ireturn, 1) := by decide +kernel
theorem dW_law_668 : decode M_W_law.2.1 668 = .ok (.aload_n 1, 1) := by decide +kernel
theorem dW_law_669 : decode M_W_law.2.1 669 = .ok (.aload_n 0, 1) := by decide +kernel
theorem dW_law_670 : decode M_W_law.2.1 670 = .ok (.iload_n 3, 1) := by decide +kernel
theorem dW_law_671 : decode M_W_law.2.1 671 = .ok (.iconst 1, 1) := by decide +kernel
theorem dW_law_672 : decode M_W_law.2.1 672 = .ok (.iadd, 1) := by decide +kernel
theorem dW_law_673 : decode M_W_law.2.1 673 = .ok (.iaload, 1) := by decide +kernel
theorem dW_law_674 : decode M_W_law.2.1 674 = .ok (.invokevirtual 92, 3) := by decide +kernel
theorem dW_law_677 : decode M_W_law.2.1 677 = .ok (.aload_n 2, 1) := by decide +kernel
theorem dW_law_678 : decode M_W_law.2.1 678 = .ok (.aload_n 0, 1) := by decide +kernel
theorem dW_law_679 : decode M_W_law.2.1 679 = .ok (.iload_n 3, 1) := by decide +kernel
theorem dW_law_680 : decode M_W_law.2.1 680 = .ok (.iconst 1, 1) := by decide +kernel
theorem dW_law_681 : decode M_W_law.2.1 681 = .ok (.iadd, 1) := by decide +kernel
theorem dW_law_682 : decode M_W_law.2.1 682 = .ok (.iaload, 1) := by decide +kernel
theorem dW_law_683 : decode M_W_law.2.1 683 = .ok (.invokevirtual 95, 3) := by decide +kernel
theorem dW_law_686 : decode M_W_law.2.1 686 = .ok (.if_icmp .eq 5, 3) := by decide +kernel
theorem dW_law_689 : decode M_W_law.2.1 689 = .ok (.iconst 0, 1) := by decide +kernel
theorem dW_law_690 : decode M_W_law.2.1 690 = .ok (.ireturn, 1) := by decide +kernel
theorem dW_law_691 : decode M_W_law.2.1 691 = .ok (.iinc 3 5, 3) := by decide +kernel
theorem dW_law_694 : decode M_W_law.2.1 694 = .ok (.goto (-676), 3) := by decide +kernel
theorem dW_law_697 : decode M_W_law.2.1 697 = .ok (.iconst 1, 1) := by decide +kernel
theorem dW_law_698 : decode M_W_law.2.1 698 = .ok (.ireturn, 1) := by decide +kernel
