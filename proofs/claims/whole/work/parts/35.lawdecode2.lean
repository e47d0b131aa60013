theorem d_Law_law_222 : decode code 222 = .ok (.aload_n 2, 1) := by decide +kernel
theorem d_Law_law_223 : decode code 223 = .ok (.aload_n 0, 1) := by decide +kernel
theorem d_Law_law_224 : decode code 224 = .ok (.iload_n 3, 1) := by decide +kernel
theorem d_Law_law_225 : decode code 225 = .ok (.iconst 1, 1) := by decide +kernel
theorem d_Law_law_226 : decode code 226 = .ok (.iadd, 1) := by decide +kernel
theorem d_Law_law_227 : decode code 227 = .ok (.iaload, 1) := by decide +kernel
theorem d_Law_law_228 : decode code 228 = .ok (.aload_n 0, 1) := by decide +kernel
theorem d_Law_law_229 : decode code 229 = .ok (.iload_n 3, 1) := by decide +kernel
theorem d_Law_law_230 : decode code 230 = .ok (.iconst 2, 1) := by decide +kernel
theorem d_Law_law_231 : decode code 231 = .ok (.iadd, 1) := by decide +kernel
theorem d_Law_law_232 : decode code 232 = .ok (.iaload, 1) := by decide +kernel
theorem d_Law_law_233 : decode code 233 = .ok (.aload_n 0, 1) := by decide +kernel
theorem d_Law_law_234 : decode code 234 = .ok (.iload_n 3, 1) := by decide +kernel
theorem d_Law_law_235 : decode code 235 = .ok (.iconst 3, 1) := by decide +kernel
theorem d_Law_law_236 : decode code 236 = .ok (.iadd, 1) := by decide +kernel
theorem d_Law_law_237 : decode code 237 = .ok (.iaload, 1) := by decide +kernel
theorem d_Law_law_238 : decode code 238 = .ok (.invokevirtual 31, 3) := by decide +kernel
theorem d_Law_law_241 : decode code 241 = .ok (.if_icmp .eq 295, 3) := by decide +kernel
theorem d_Law_law_244 : decode code 244 = .ok (.iconst 0, 1) := by decide +kernel
theorem d_Law_law_245 : decode code 245 = .ok (.ireturn, 1) := by decide +kernel
theorem d_Law_law_246 : decode code 246 = .ok (.aload_n 1, 1) := by decide +kernel
theorem d_Law_law_247 : decode code 247 = .ok (.aload_n 0, 1) := by decide +kernel
theorem d_Law_law_248 : decode code 248 = .ok (.iload_n 3, 1) := by decide +kernel
theorem d_Law_law_249 : decode code 249 = .ok (.iconst 1, 1) := by decide +kernel
theorem d_Law_law_250 : decode code 250 = .ok (.iadd, 1) := by decide +kernel
theorem d_Law_law_251 : decode code 251 = .ok (.iaload, 1) := by decide +kernel
theorem d_Law_law_252 : decode code 252 = .ok (.aload_n 0, 1) := by decide +kernel
theorem d_Law_law_253 : decode code 253 = .ok (.iload_n 3, 1) := by decide +kernel
theorem d_Law_law_254 : decode code 254 = .ok (.iconst 2, 1) := by decide +kernel
theorem d_Law_law_255 : decode code 255 = .ok (.iadd, 1) := by decide +kernel
theorem d_Law_law_256 : decode code 256 = .ok (.iaload, 1) := by decide +kernel
theorem d_Law_law_257 : decode code 257 = .ok (.invokevirtual 32, 3) := by decide +kernel
theorem d_Law_law_260 : decode code 260 = .ok (.aload_n 2, 1) := by decide +kernel
theorem d_Law_law_261 : decode code 261 = .ok (.aload_n 0, 1) := by decide +kernel
theorem d_Law_law_262 : decode code 262 = .ok (.iload_n 3, 1) := by decide +kernel
theorem d_Law_law_263 : decode code 263 = .ok (.iconst 1, 1) := by decide +kernel
theorem d_Law_law_264 : decode code 264 = .ok (.iadd, 1) := by decide +kernel
theorem d_Law_law_265 : decode code 265 = .ok (.iaload, 1) := by decide +kernel
theorem d_Law_law_266 : decode code 266 = .ok (.aload_n 0, 1) := by decide +kernel
theorem d_Law_law_267 : decode code 267 = .ok (.iload_n 3, 1) := by decide +kernel
theorem d_Law_law_268 : decode code 268 = .ok (.iconst 2, 1) := by decide +kernel
theorem d_Law_law_269 : decode code 269 = .ok (.iadd, 1) := by decide +kernel
theorem d_Law_law_270 : decode code 270 = .ok (.iaload, 1) := by decide +kernel
theorem d_Law_law_271 : decode code 271 = .ok (.invokevirtual 35, 3) := by decide +kernel
theorem d_Law_law_274 : decode code 274 = .ok (.if_icmp .eq 262, 3) := by decide +kernel
theorem d_Law_law_277 : decode code 277 = .ok (.iconst 0, 1) := by decide +kernel
theorem d_Law_law_278 : decode code 278 = .ok (.ireturn, 1) := by decide +kernel
theorem d_Law_law_279 : decode code 279 = .ok (.aload_n 1, 1) := by decide +kernel
theorem d_Law_law_280 : decode code 280 = .ok (.aload_n 0, 1) := by decide +kernel
theorem d_Law_law_281 : decode code 281 = .ok (.iload_n 3, 1) := by decide +kernel
theorem d_Law_law_282 : decode code 282 = .ok (.iconst 1, 1) := by decide +kernel
theorem d_Law_law_283 : decode code 283 = .ok (.iadd, 1) := by decide +kernel
theorem d_Law_law_284 : decode code 284 = .ok (.iaload, 1) := by decide +kernel
theorem d_Law_law_285 : decode code 285 = .ok (.aload_n 0, 1) := by decide +kernel
theorem d_Law_law_286 : decode code 286 = .ok (.iload_n 3, 1) := by decide +kernel
theorem d_Law_law_287 : decode code 287 = .ok (.iconst 2, 1) := by decide +kernel
theorem d_Law_law_288 : decode code 288 = .ok (.iadd, 1) := by decide +kernel
theorem d_Law_law_289 : decode code 289 = .ok (.iaload, 1) := by decide +kernel
theorem d_Law_law_290 : decode code 290 = .ok (.invokevirtual 36, 3) := by decide +kernel
theorem d_Law_law_293 : decode code 293 = .ok (.aload_n 2, 1) := by decide +kernel
