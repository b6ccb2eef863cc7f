theorem d_La_law_0 : decode code 0 = .ok (.new 8, 3) := by decide +kernel
theorem d_La_law_3 : decode code 3 = .ok (.dup, 1) := by decide +kernel
theorem d_La_law_4 : decode code 4 = .ok (.aload_n 0, 1) := by decide +kernel
theorem d_La_law_5 : decode code 5 = .ok (.iconst (0), 1) := by decide +kernel
theorem d_La_law_6 : decode code 6 = .ok (.invokestatic 32, 3) := by decide +kernel
theorem d_La_law_9 : decode code 9 = .ok (.invokespecial 38, 3) := by decide +kernel
theorem d_La_law_12 : decode code 12 = .ok (.astore_n 1, 1) := by decide +kernel
theorem d_La_law_13 : decode code 13 = .ok (.new 41, 3) := by decide +kernel
theorem d_La_law_16 : decode code 16 = .ok (.dup, 1) := by decide +kernel
theorem d_La_law_17 : decode code 17 = .ok (.aload_n 0, 1) := by decide +kernel
theorem d_La_law_18 : decode code 18 = .ok (.iconst (0), 1) := by decide +kernel
theorem d_La_law_19 : decode code 19 = .ok (.invokestatic 32, 3) := by decide +kernel
theorem d_La_law_22 : decode code 22 = .ok (.invokespecial 43, 3) := by decide +kernel
theorem d_La_law_25 : decode code 25 = .ok (.astore_n 2, 1) := by decide +kernel
theorem d_La_law_26 : decode code 26 = .ok (.iconst (1), 1) := by decide +kernel
theorem d_La_law_27 : decode code 27 = .ok (.newarray .long, 2) := by decide +kernel
theorem d_La_law_29 : decode code 29 = .ok (.astore_n 3, 1) := by decide +kernel
theorem d_La_law_30 : decode code 30 = .ok (.iconst (1), 1) := by decide +kernel
theorem d_La_law_31 : decode code 31 = .ok (.istore 4, 2) := by decide +kernel
theorem d_La_law_33 : decode code 33 = .ok (.iload 4, 2) := by decide +kernel
theorem d_La_law_35 : decode code 35 = .ok (.aload_n 0, 1) := by decide +kernel
theorem d_La_law_36 : decode code 36 = .ok (.arraylength, 1) := by decide +kernel
theorem d_La_law_37 : decode code 37 = .ok (.iconst (5), 1) := by decide +kernel
theorem d_La_law_38 : decode code 38 = .ok (.isub, 1) := by decide +kernel
theorem d_La_law_39 : decode code 39 = .ok (.if_icmp .gt (996), 3) := by decide +kernel
theorem d_La_law_42 : decode code 42 = .ok (.aload_n 0, 1) := by decide +kernel
theorem d_La_law_43 : decode code 43 = .ok (.iload 4, 2) := by decide +kernel
theorem d_La_law_45 : decode code 45 = .ok (.iaload, 1) := by decide +kernel
theorem d_La_law_46 : decode code 46 = .ok (.bipush (31), 2) := by decide +kernel
theorem d_La_law_48 : decode code 48 = .ok (.iand, 1) := by decide +kernel
theorem d_La_law_49 : decode code 49 = .ok (.tableswitch (980) (0) (18) #[91, 116, 177, 202, 239, 252, 265, 314, 351, 377, 444, 523, 602, 693, 772, 839, 864, 917, 942], 91) := by decide +kernel
theorem d_La_law_140 : decode code 140 = .ok (.aload_n 1, 1) := by decide +kernel
theorem d_La_law_141 : decode code 141 = .ok (.aload_n 0, 1) := by decide +kernel
theorem d_La_law_142 : decode code 142 = .ok (.iload 4, 2) := by decide +kernel
theorem d_La_law_144 : decode code 144 = .ok (.iconst (1), 1) := by decide +kernel
theorem d_La_law_145 : decode code 145 = .ok (.iadd, 1) := by decide +kernel
theorem d_La_law_146 : decode code 146 = .ok (.iaload, 1) := by decide +kernel
theorem d_La_law_147 : decode code 147 = .ok (.invokevirtual 44, 3) := by decide +kernel
theorem d_La_law_150 : decode code 150 = .ok (.aload_n 2, 1) := by decide +kernel
theorem d_La_law_151 : decode code 151 = .ok (.aload_n 0, 1) := by decide +kernel
theorem d_La_law_152 : decode code 152 = .ok (.iload 4, 2) := by decide +kernel
theorem d_La_law_154 : decode code 154 = .ok (.iconst (1), 1) := by decide +kernel
theorem d_La_law_155 : decode code 155 = .ok (.iadd, 1) := by decide +kernel
theorem d_La_law_156 : decode code 156 = .ok (.iaload, 1) := by decide +kernel
theorem d_La_law_157 : decode code 157 = .ok (.invokevirtual 48, 3) := by decide +kernel
theorem d_La_law_160 : decode code 160 = .ok (.if_icmp .eq (869), 3) := by decide +kernel
theorem d_La_law_163 : decode code 163 = .ok (.iconst (0), 1) := by decide +kernel
theorem d_La_law_164 : decode code 164 = .ok (.ireturn, 1) := by decide +kernel
theorem d_La_law_165 : decode code 165 = .ok (.aload_n 1, 1) := by decide +kernel
theorem d_La_law_166 : decode code 166 = .ok (.aload_n 0, 1) := by decide +kernel
theorem d_La_law_167 : decode code 167 = .ok (.iload 4, 2) := by decide +kernel
theorem d_La_law_169 : decode code 169 = .ok (.iconst (1), 1) := by decide +kernel
theorem d_La_law_170 : decode code 170 = .ok (.iadd, 1) := by decide +kernel
theorem d_La_law_171 : decode code 171 = .ok (.iaload, 1) := by decide +kernel
theorem d_La_law_172 : decode code 172 = .ok (.aload_n 0, 1) := by decide +kernel
theorem d_La_law_173 : decode code 173 = .ok (.iload 4, 2) := by decide +kernel
theorem d_La_law_175 : decode code 175 = .ok (.iconst (2), 1) := by decide +kernel
theorem d_La_law_176 : decode code 176 = .ok (.iadd, 1) := by decide +kernel
theorem d_La_law_177 : decode code 177 = .ok (.iaload, 1) := by decide +kernel
theorem d_La_law_178 : decode code 178 = .ok (.aload_n 0, 1) := by decide +kernel
theorem d_La_law_179 : decode code 179 = .ok (.iload 4, 2) := by decide +kernel
theorem d_La_law_181 : decode code 181 = .ok (.iconst (3), 1) := by decide +kernel
theorem d_La_law_182 : decode code 182 = .ok (.iadd, 1) := by decide +kernel
theorem d_La_law_183 : decode code 183 = .ok (.iaload, 1) := by decide +kernel
theorem d_La_law_184 : decode code 184 = .ok (.aload_n 0, 1) := by decide +kernel
theorem d_La_law_185 : decode code 185 = .ok (.iload 4, 2) := by decide +kernel
theorem d_La_law_187 : decode code 187 = .ok (.iconst (4), 1) := by decide +kernel
theorem d_La_law_188 : decode code 188 = .ok (.iadd, 1) := by decide +kernel
theorem d_La_law_189 : decode code 189 = .ok (.iaload, 1) := by decide +kernel
theorem d_La_law_190 : decode code 190 = .ok (.invokevirtual 49, 3) := by decide +kernel
theorem d_La_law_193 : decode code 193 = .ok (.aload_n 2, 1) := by decide +kernel
theorem d_La_law_194 : decode code 194 = .ok (.aload_n 0, 1) := by decide +kernel
theorem d_La_law_195 : decode code 195 = .ok (.iload 4, 2) := by decide +kernel
theorem d_La_law_197 : decode code 197 = .ok (.iconst (1), 1) := by decide +kernel
theorem d_La_law_198 : decode code 198 = .ok (.iadd, 1) := by decide +kernel
theorem d_La_law_199 : decode code 199 = .ok (.iaload, 1) := by decide +kernel
theorem d_La_law_200 : decode code 200 = .ok (.aload_n 0, 1) := by decide +kernel
theorem d_La_law_201 : decode code 201 = .ok (.iload 4, 2) := by decide +kernel
theorem d_La_law_203 : decode code 203 = .ok (.iconst (2), 1) := by decide +kernel
theorem d_La_law_204 : decode code 204 = .ok (.iadd, 1) := by decide +kernel
theorem d_La_law_205 : decode code 205 = .ok (.iaload, 1) := by decide +kernel
theorem d_La_law_206 : decode code 206 = .ok (.aload_n 0, 1) := by decide +kernel
theorem d_La_law_207 : decode code 207 = .ok (.iload 4, 2) := by decide +kernel
theorem d_La_law_209 : decode code 209 = .ok (.iconst (3), 1) := by decide +kernel
theorem d_La_law_210 : decode code 210 = .ok (.iadd, 1) := by decide +kernel
theorem d_La_law_211 : decode code 211 = .ok (.iaload, 1) := by decide +kernel
theorem d_La_law_212 : decode code 212 = .ok (.aload_n 0, 1) := by decide +kernel
theorem d_La_law_213 : decode code 213 = .ok (.iload 4, 2) := by decide +kernel
theorem d_La_law_215 : decode code 215 = .ok (.iconst (4), 1) := by decide +kernel
theorem d_La_law_216 : decode code 216 = .ok (.iadd, 1) := by decide +kernel
theorem d_La_law_217 : decode code 217 = .ok (.iaload, 1) := by decide +kernel
theorem d_La_law_218 : decode code 218 = .ok (.invokevirtual 53, 3) := by decide +kernel
theorem d_La_law_221 : decode code 221 = .ok (.if_icmp .eq (808), 3) := by decide +kernel
theorem d_La_law_224 : decode code 224 = .ok (.iconst (0), 1) := by decide +kernel
theorem d_La_law_225 : decode code 225 = .ok (.ireturn, 1) := by decide +kernel
theorem d_La_law_226 : decode code 226 = .ok (.aload_n 1, 1) := by decide +kernel
theorem d_La_law_227 : decode code 227 = .ok (.aload_n 0, 1) := by decide +kernel
theorem d_La_law_228 : decode code 228 = .ok (.iload 4, 2) := by decide +kernel
theorem d_La_law_230 : decode code 230 = .ok (.iconst (1), 1) := by decide +kernel
theorem d_La_law_231 : decode code 231 = .ok (.iadd, 1) := by decide +kernel
theorem d_La_law_232 : decode code 232 = .ok (.iaload, 1) := by decide +kernel
theorem d_La_law_233 : decode code 233 = .ok (.invokevirtual 54, 3) := by decide +kernel
theorem d_La_law_236 : decode code 236 = .ok (.aload_n 2, 1) := by decide +kernel
theorem d_La_law_237 : decode code 237 = .ok (.aload_n 0, 1) := by decide +kernel
theorem d_La_law_238 : decode code 238 = .ok (.iload 4, 2) := by decide +kernel
theorem d_La_law_240 : decode code 240 = .ok (.iconst (1), 1) := by decide +kernel
theorem d_La_law_241 : decode code 241 = .ok (.iadd, 1) := by decide +kernel
theorem d_La_law_242 : decode code 242 = .ok (.iaload, 1) := by decide +kernel
theorem d_La_law_243 : decode code 243 = .ok (.invokevirtual 57, 3) := by decide +kernel
theorem d_La_law_246 : decode code 246 = .ok (.if_icmp .eq (783), 3) := by decide +kernel
theorem d_La_law_249 : decode code 249 = .ok (.iconst (0), 1) := by decide +kernel
theorem d_La_law_250 : decode code 250 = .ok (.ireturn, 1) := by decide +kernel
theorem d_La_law_251 : decode code 251 = .ok (.aload_n 1, 1) := by decide +kernel
theorem d_La_law_252 : decode code 252 = .ok (.aload_n 0, 1) := by decide +kernel
theorem d_La_law_253 : decode code 253 = .ok (.iload 4, 2) := by decide +kernel
theorem d_La_law_255 : decode code 255 = .ok (.iconst (1), 1) := by decide +kernel
theorem d_La_law_256 : decode code 256 = .ok (.iadd, 1) := by decide +kernel
theorem d_La_law_257 : decode code 257 = .ok (.iaload, 1) := by decide +kernel
theorem d_La_law_258 : decode code 258 = .ok (.aload_n 0, 1) := by decide +kernel
theorem d_La_law_259 : decode code 259 = .ok (.iload 4, 2) := by decide +kernel
theorem d_La_law_261 : decode code 261 = .ok (.iconst (2), 1) := by decide +kernel
theorem d_La_law_262 : decode code 262 = .ok (.iadd, 1) := by decide +kernel
theorem d_La_law_263 : decode code 263 = .ok (.iaload, 1) := by decide +kernel
theorem d_La_law_264 : decode code 264 = .ok (.invokevirtual 58, 3) := by decide +kernel
theorem d_La_law_267 : decode code 267 = .ok (.aload_n 2, 1) := by decide +kernel
theorem d_La_law_268 : decode code 268 = .ok (.aload_n 0, 1) := by decide +kernel
theorem d_La_law_269 : decode code 269 = .ok (.iload 4, 2) := by decide +kernel
theorem d_La_law_271 : decode code 271 = .ok (.iconst (1), 1) := by decide +kernel
theorem d_La_law_272 : decode code 272 = .ok (.iadd, 1) := by decide +kernel
theorem d_La_law_273 : decode code 273 = .ok (.iaload, 1) := by decide +kernel
theorem d_La_law_274 : decode code 274 = .ok (.aload_n 0, 1) := by decide +kernel
theorem d_La_law_275 : decode code 275 = .ok (.iload 4, 2) := by decide +kernel
theorem d_La_law_277 : decode code 277 = .ok (.iconst (2), 1) := by decide +kernel
theorem d_La_law_278 : decode code 278 = .ok (.iadd, 1) := by decide +kernel
theorem d_La_law_279 : decode code 279 = .ok (.iaload, 1) := by decide +kernel
theorem d_La_law_280 : decode code 280 = .ok (.invokevirtual 62, 3) := by decide +kernel
theorem d_La_law_283 : decode code 283 = .ok (.if_icmp .eq (746), 3) := by decide +kernel
theorem d_La_law_286 : decode code 286 = .ok (.iconst (0), 1) := by decide +kernel
theorem d_La_law_287 : decode code 287 = .ok (.ireturn, 1) := by decide +kernel
theorem d_La_law_288 : decode code 288 = .ok (.aload_n 1, 1) := by decide +kernel
theorem d_La_law_289 : decode code 289 = .ok (.invokevirtual 63, 3) := by decide +kernel
theorem d_La_law_292 : decode code 292 = .ok (.aload_n 2, 1) := by decide +kernel
theorem d_La_law_293 : decode code 293 = .ok (.invokevirtual 67, 3) := by decide +kernel
theorem d_La_law_296 : decode code 296 = .ok (.if_icmp .eq (733), 3) := by decide +kernel
theorem d_La_law_299 : decode code 299 = .ok (.iconst (0), 1) := by decide +kernel
theorem d_La_law_300 : decode code 300 = .ok (.ireturn, 1) := by decide +kernel
theorem d_La_law_301 : decode code 301 = .ok (.aload_n 1, 1) := by decide +kernel
theorem d_La_law_302 : decode code 302 = .ok (.invokevirtual 68, 3) := by decide +kernel
theorem d_La_law_305 : decode code 305 = .ok (.aload_n 2, 1) := by decide +kernel
theorem d_La_law_306 : decode code 306 = .ok (.invokevirtual 71, 3) := by decide +kernel
theorem d_La_law_309 : decode code 309 = .ok (.if_icmp .eq (720), 3) := by decide +kernel
theorem d_La_law_312 : decode code 312 = .ok (.iconst (0), 1) := by decide +kernel
theorem d_La_law_313 : decode code 313 = .ok (.ireturn, 1) := by decide +kernel
theorem d_La_law_314 : decode code 314 = .ok (.aload_n 1, 1) := by decide +kernel
theorem d_La_law_315 : decode code 315 = .ok (.aload_n 0, 1) := by decide +kernel
theorem d_La_law_316 : decode code 316 = .ok (.iload 4, 2) := by decide +kernel
theorem d_La_law_318 : decode code 318 = .ok (.iconst (1), 1) := by decide +kernel
theorem d_La_law_319 : decode code 319 = .ok (.iadd, 1) := by decide +kernel
theorem d_La_law_320 : decode code 320 = .ok (.iaload, 1) := by decide +kernel
theorem d_La_law_321 : decode code 321 = .ok (.aload_n 0, 1) := by decide +kernel
theorem d_La_law_322 : decode code 322 = .ok (.iload 4, 2) := by decide +kernel
theorem d_La_law_324 : decode code 324 = .ok (.iconst (2), 1) := by decide +kernel
theorem d_La_law_325 : decode code 325 = .ok (.iadd, 1) := by decide +kernel
theorem d_La_law_326 : decode code 326 = .ok (.iaload, 1) := by decide +kernel
theorem d_La_law_327 : decode code 327 = .ok (.aload_n 0, 1) := by decide +kernel
theorem d_La_law_328 : decode code 328 = .ok (.iload 4, 2) := by decide +kernel
theorem d_La_law_330 : decode code 330 = .ok (.iconst (3), 1) := by decide +kernel
theorem d_La_law_331 : decode code 331 = .ok (.iadd, 1) := by decide +kernel
theorem d_La_law_332 : decode code 332 = .ok (.iaload, 1) := by decide +kernel
theorem d_La_law_333 : decode code 333 = .ok (.invokevirtual 72, 3) := by decide +kernel
