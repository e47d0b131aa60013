theorem d_Mo_sort_172 : decode b_Mo_sort 172 = .ok (.iload 5, 2) := by decide +kernel
theorem d_Mo_sort_174 : decode b_Mo_sort 174 = .ok (.imul, 1) := by decide +kernel
theorem d_Mo_sort_175 : decode b_Mo_sort 175 = .ok (.iadd, 1) := by decide +kernel
theorem d_Mo_sort_176 : decode b_Mo_sort 176 = .ok (.goto 5, 3) := by decide +kernel
theorem d_Mo_sort_179 : decode b_Mo_sort 179 = .ok (.iload 4, 2) := by decide +kernel
theorem d_Mo_sort_181 : decode b_Mo_sort 181 = .ok (.istore 10, 2) := by decide +kernel
theorem d_Mo_sort_183 : decode b_Mo_sort 183 = .ok (.iload 6, 2) := by decide +kernel
theorem d_Mo_sort_185 : decode b_Mo_sort 185 = .ok (.istore 11, 2) := by decide +kernel
theorem d_Mo_sort_187 : decode b_Mo_sort 187 = .ok (.iload 11, 2) := by decide +kernel
theorem d_Mo_sort_189 : decode b_Mo_sort 189 = .ok (.iload 10, 2) := by decide +kernel
theorem d_Mo_sort_191 : decode b_Mo_sort 191 = .ok (.if_icmp .ge 108, 3) := by decide +kernel
theorem d_Mo_sort_194 : decode b_Mo_sort 194 = .ok (.iload 7, 2) := by decide +kernel
theorem d_Mo_sort_196 : decode b_Mo_sort 196 = .ok (.iload 8, 2) := by decide +kernel
theorem d_Mo_sort_198 : decode b_Mo_sort 198 = .ok (.if_icmp .ge 31, 3) := by decide +kernel
theorem d_Mo_sort_201 : decode b_Mo_sort 201 = .ok (.iload 9, 2) := by decide +kernel
theorem d_Mo_sort_203 : decode b_Mo_sort 203 = .ok (.iload 10, 2) := by decide +kernel
theorem d_Mo_sort_205 : decode b_Mo_sort 205 = .ok (.if_icmp .eq 20, 3) := by decide +kernel
theorem d_Mo_sort_208 : decode b_Mo_sort 208 = .ok (.aload_n 0, 1) := by decide +kernel
theorem d_Mo_sort_209 : decode b_Mo_sort 209 = .ok (.getfield 20, 3) := by decide +kernel
theorem d_Mo_sort_212 : decode b_Mo_sort 212 = .ok (.iload 7, 2) := by decide +kernel
theorem d_Mo_sort_214 : decode b_Mo_sort 214 = .ok (.iaload, 1) := by decide +kernel
theorem d_Mo_sort_215 : decode b_Mo_sort 215 = .ok (.aload_n 0, 1) := by decide +kernel
theorem d_Mo_sort_216 : decode b_Mo_sort 216 = .ok (.getfield 20, 3) := by decide +kernel
theorem d_Mo_sort_219 : decode b_Mo_sort 219 = .ok (.iload 9, 2) := by decide +kernel
theorem d_Mo_sort_221 : decode b_Mo_sort 221 = .ok (.iaload, 1) := by decide +kernel
theorem d_Mo_sort_222 : decode b_Mo_sort 222 = .ok (.if_icmp .ge 7, 3) := by decide +kernel
theorem d_Mo_sort_225 : decode b_Mo_sort 225 = .ok (.iconst 1, 1) := by decide +kernel
theorem d_Mo_sort_226 : decode b_Mo_sort 226 = .ok (.goto 4, 3) := by decide +kernel
theorem d_Mo_sort_229 : decode b_Mo_sort 229 = .ok (.iconst 0, 1) := by decide +kernel
theorem d_Mo_sort_230 : decode b_Mo_sort 230 = .ok (.istore 12, 2) := by decide +kernel
theorem d_Mo_sort_232 : decode b_Mo_sort 232 = .ok (.aload_n 0, 1) := by decide +kernel
theorem d_Mo_sort_233 : decode b_Mo_sort 233 = .ok (.getfield 23, 3) := by decide +kernel
theorem d_Mo_sort_236 : decode b_Mo_sort 236 = .ok (.iload 11, 2) := by decide +kernel
theorem d_Mo_sort_238 : decode b_Mo_sort 238 = .ok (.iload 12, 2) := by decide +kernel
theorem d_Mo_sort_240 : decode b_Mo_sort 240 = .ok (.ifCond .eq 13, 3) := by decide +kernel
theorem d_Mo_sort_243 : decode b_Mo_sort 243 = .ok (.aload_n 0, 1) := by decide +kernel
theorem d_Mo_sort_244 : decode b_Mo_sort 244 = .ok (.getfield 20, 3) := by decide +kernel
theorem d_Mo_sort_247 : decode b_Mo_sort 247 = .ok (.iload 7, 2) := by decide +kernel
theorem d_Mo_sort_249 : decode b_Mo_sort 249 = .ok (.iaload, 1) := by decide +kernel
theorem d_Mo_sort_250 : decode b_Mo_sort 250 = .ok (.goto 10, 3) := by decide +kernel
theorem d_Mo_sort_253 : decode b_Mo_sort 253 = .ok (.aload_n 0, 1) := by decide +kernel
theorem d_Mo_sort_254 : decode b_Mo_sort 254 = .ok (.getfield 20, 3) := by decide +kernel
theorem d_Mo_sort_257 : decode b_Mo_sort 257 = .ok (.iload 9, 2) := by decide +kernel
theorem d_Mo_sort_259 : decode b_Mo_sort 259 = .ok (.iaload, 1) := by decide +kernel
theorem d_Mo_sort_260 : decode b_Mo_sort 260 = .ok (.iastore, 1) := by decide +kernel
theorem d_Mo_sort_261 : decode b_Mo_sort 261 = .ok (.iload 12, 2) := by decide +kernel
theorem d_Mo_sort_263 : decode b_Mo_sort 263 = .ok (.ifCond .eq 10, 3) := by decide +kernel
theorem d_Mo_sort_266 : decode b_Mo_sort 266 = .ok (.iload 7, 2) := by decide +kernel
theorem d_Mo_sort_268 : decode b_Mo_sort 268 = .ok (.iconst 1, 1) := by decide +kernel
theorem d_Mo_sort_269 : decode b_Mo_sort 269 = .ok (.iadd, 1) := by decide +kernel
theorem d_Mo_sort_270 : decode b_Mo_sort 270 = .ok (.goto 5, 3) := by decide +kernel
theorem d_Mo_sort_273 : decode b_Mo_sort 273 = .ok (.iload 7, 2) := by decide +kernel
theorem d_Mo_sort_275 : decode b_Mo_sort 275 = .ok (.istore 7, 2) := by decide +kernel
theorem d_Mo_sort_277 : decode b_Mo_sort 277 = .ok (.iload 12, 2) := by decide +kernel
theorem d_Mo_sort_279 : decode b_Mo_sort 279 = .ok (.ifCond .eq 8, 3) := by decide +kernel
theorem d_Mo_sort_282 : decode b_Mo_sort 282 = .ok (.iload 9, 2) := by decide +kernel
theorem d_Mo_sort_284 : decode b_Mo_sort 284 = .ok (.goto 7, 3) := by decide +kernel
theorem d_Mo_sort_287 : decode b_Mo_sort 287 = .ok (.iload 9, 2) := by decide +kernel
theorem d_Mo_sort_289 : decode b_Mo_sort 289 = .ok (.iconst 1, 1) := by decide +kernel
theorem d_Mo_sort_290 : decode b_Mo_sort 290 = .ok (.iadd, 1) := by decide +kernel
theorem d_Mo_sort_291 : decode b_Mo_sort 291 = .ok (.istore 9, 2) := by decide +kernel
theorem d_Mo_sort_293 : decode b_Mo_sort 293 = .ok (.iinc 11 1, 3) := by decide +kernel
theorem d_Mo_sort_296 : decode b_Mo_sort 296 = .ok (.goto (-109), 3) := by decide +kernel
theorem d_Mo_sort_299 : decode b_Mo_sort 299 = .ok (.iload 6, 2) := by decide +kernel
theorem d_Mo_sort_301 : decode b_Mo_sort 301 = .ok (.iconst 2, 1) := by decide +kernel
theorem d_Mo_sort_302 : decode b_Mo_sort 302 = .ok (.iload 5, 2) := by decide +kernel
theorem d_Mo_sort_304 : decode b_Mo_sort 304 = .ok (.imul, 1) := by decide +kernel
theorem d_Mo_sort_305 : decode b_Mo_sort 305 = .ok (.iadd, 1) := by decide +kernel
theorem d_Mo_sort_306 : decode b_Mo_sort 306 = .ok (.istore 6, 2) := by decide +kernel
theorem d_Mo_sort_308 : decode b_Mo_sort 308 = .ok (.goto (-188), 3) := by decide +kernel
theorem d_Mo_sort_311 : decode b_Mo_sort 311 = .ok (.iconst 0, 1) := by decide +kernel
theorem d_Mo_sort_312 : decode b_Mo_sort 312 = .ok (.istore 6, 2) := by decide +kernel
theorem d_Mo_sort_314 : decode b_Mo_sort 314 = .ok (.iload 6, 2) := by decide +kernel
theorem d_Mo_sort_316 : decode b_Mo_sort 316 = .ok (.iload 4, 2) := by decide +kernel
theorem d_Mo_sort_318 : decode b_Mo_sort 318 = .ok (.if_icmp .ge 23, 3) := by decide +kernel
theorem d_Mo_sort_321 : decode b_Mo_sort 321 = .ok (.aload_n 0, 1) := by decide +kernel
theorem d_Mo_sort_322 : decode b_Mo_sort 322 = .ok (.getfield 20, 3) := by decide +kernel
theorem d_Mo_sort_325 : decode b_Mo_sort 325 = .ok (.iload 6, 2) := by decide +kernel
theorem d_Mo_sort_327 : decode b_Mo_sort 327 = .ok (.aload_n 0, 1) := by decide +kernel
theorem d_Mo_sort_328 : decode b_Mo_sort 328 = .ok (.getfield 23, 3) := by decide +kernel
theorem d_Mo_sort_331 : decode b_Mo_sort 331 = .ok (.iload 6, 2) := by decide +kernel
theorem d_Mo_sort_333 : decode b_Mo_sort 333 = .ok (.iaload, 1) := by decide +kernel
theorem d_Mo_sort_334 : decode b_Mo_sort 334 = .ok (.iastore, 1) := by decide +kernel
theorem d_Mo_sort_335 : decode b_Mo_sort 335 = .ok (.iinc 6 1, 3) := by decide +kernel
theorem d_Mo_sort_338 : decode b_Mo_sort 338 = .ok (.goto (-24), 3) := by decide +kernel
theorem d_Mo_sort_341 : decode b_Mo_sort 341 = .ok (.iconst 2, 1) := by decide +kernel
theorem d_Mo_sort_342 : decode b_Mo_sort 342 = .ok (.iload 5, 2) := by decide +kernel
theorem d_Mo_sort_344 : decode b_Mo_sort 344 = .ok (.imul, 1) := by decide +kernel
theorem d_Mo_sort_345 : decode b_Mo_sort 345 = .ok (.istore 5, 2) := by decide +kernel
theorem d_Mo_sort_347 : decode b_Mo_sort 347 = .ok (.goto (-237), 3) := by decide +kernel
theorem d_Mo_sort_350 : decode b_Mo_sort 350 = .ok (.iload 4, 2) := by decide +kernel
theorem d_Mo_sort_352 : decode b_Mo_sort 352 = .ok (.ireturn, 1) := by decide +kernel
theorem d_Mo_runs_0 : decode b_Mo_runs 0 = .ok (.aload_n 0, 1) := by decide +kernel
theorem d_Mo_runs_1 : decode b_Mo_runs 1 = .ok (.iload_n 1, 1) := by decide +kernel
theorem d_Mo_runs_2 : decode b_Mo_runs 2 = .ok (.invokevirtual 73, 3) := by decide +kernel
theorem d_Mo_runs_5 : decode b_Mo_runs 5 = .ok (.istore_n 2, 1) := by decide +kernel
theorem d_Mo_runs_6 : decode b_Mo_runs 6 = .ok (.iload_n 2, 1) := by decide +kernel
theorem d_Mo_runs_7 : decode b_Mo_runs 7 = .ok (.ifCond .ge 5, 3) := by decide +kernel
theorem d_Mo_runs_10 : decode b_Mo_runs 10 = .ok (.iconst (-1), 1) := by decide +kernel
theorem d_Mo_runs_11 : decode b_Mo_runs 11 = .ok (.ireturn, 1) := by decide +kernel
theorem d_Mo_runs_12 : decode b_Mo_runs 12 = .ok (.iconst 0, 1) := by decide +kernel
theorem d_Mo_runs_13 : decode b_Mo_runs 13 = .ok (.istore_n 3, 1) := by decide +kernel
theorem d_Mo_runs_14 : decode b_Mo_runs 14 = .ok (.iconst 0, 1) := by decide +kernel
theorem d_Mo_runs_15 : decode b_Mo_runs 15 = .ok (.istore 4, 2) := by decide +kernel
theorem d_Mo_runs_17 : decode b_Mo_runs 17 = .ok (.iload 4, 2) := by decide +kernel
theorem d_Mo_runs_19 : decode b_Mo_runs 19 = .ok (.iload_n 2, 1) := by decide +kernel
theorem d_Mo_runs_20 : decode b_Mo_runs 20 = .ok (.if_icmp .ge 43, 3) := by decide +kernel
theorem d_Mo_runs_23 : decode b_Mo_runs 23 = .ok (.iload 4, 2) := by decide +kernel
theorem d_Mo_runs_25 : decode b_Mo_runs 25 = .ok (.ifCond .eq 24, 3) := by decide +kernel
theorem d_Mo_runs_28 : decode b_Mo_runs 28 = .ok (.aload_n 0, 1) := by decide +kernel
theorem d_Mo_runs_29 : decode b_Mo_runs 29 = .ok (.getfield 20, 3) := by decide +kernel
theorem d_Mo_runs_32 : decode b_Mo_runs 32 = .ok (.iload 4, 2) := by decide +kernel
theorem d_Mo_runs_34 : decode b_Mo_runs 34 = .ok (.iaload, 1) := by decide +kernel
theorem d_Mo_runs_35 : decode b_Mo_runs 35 = .ok (.aload_n 0, 1) := by decide +kernel
theorem d_Mo_runs_36 : decode b_Mo_runs 36 = .ok (.getfield 20, 3) := by decide +kernel
theorem d_Mo_runs_39 : decode b_Mo_runs 39 = .ok (.iload 4, 2) := by decide +kernel
theorem d_Mo_runs_41 : decode b_Mo_runs 41 = .ok (.iconst 1, 1) := by decide +kernel
theorem d_Mo_runs_42 : decode b_Mo_runs 42 = .ok (.isub, 1) := by decide +kernel
theorem d_Mo_runs_43 : decode b_Mo_runs 43 = .ok (.iaload, 1) := by decide +kernel
theorem d_Mo_runs_44 : decode b_Mo_runs 44 = .ok (.iconst 1, 1) := by decide +kernel
theorem d_Mo_runs_45 : decode b_Mo_runs 45 = .ok (.iadd, 1) := by decide +kernel
theorem d_Mo_runs_46 : decode b_Mo_runs 46 = .ok (.if_icmp .le 9, 3) := by decide +kernel
theorem d_Mo_runs_49 : decode b_Mo_runs 49 = .ok (.iload_n 3, 1) := by decide +kernel
theorem d_Mo_runs_50 : decode b_Mo_runs 50 = .ok (.iconst 1, 1) := by decide +kernel
theorem d_Mo_runs_51 : decode b_Mo_runs 51 = .ok (.iadd, 1) := by decide +kernel
theorem d_Mo_runs_52 : decode b_Mo_runs 52 = .ok (.goto 4, 3) := by decide +kernel
theorem d_Mo_runs_55 : decode b_Mo_runs 55 = .ok (.iload_n 3, 1) := by decide +kernel
theorem d_Mo_runs_56 : decode b_Mo_runs 56 = .ok (.istore_n 3, 1) := by decide +kernel
theorem d_Mo_runs_57 : decode b_Mo_runs 57 = .ok (.iinc 4 1, 3) := by decide +kernel
theorem d_Mo_runs_60 : decode b_Mo_runs 60 = .ok (.goto (-43), 3) := by decide +kernel
theorem d_Mo_runs_63 : decode b_Mo_runs 63 = .ok (.iload_n 3, 1) := by decide +kernel
theorem d_Mo_runs_64 : decode b_Mo_runs 64 = .ok (.ireturn, 1) := by decide +kernel
theorem d_Mo_run_0 : decode b_Mo_run 0 = .ok (.aload_n 0, 1) := by decide +kernel
theorem d_Mo_run_1 : decode b_Mo_run 1 = .ok (.iload_n 1, 1) := by decide +kernel
theorem d_Mo_run_2 : decode b_Mo_run 2 = .ok (.invokevirtual 73, 3) := by decide +kernel
theorem d_Mo_run_5 : decode b_Mo_run 5 = .ok (.istore 4, 2) := by decide +kernel
theorem d_Mo_run_7 : decode b_Mo_run 7 = .ok (.iload 4, 2) := by decide +kernel
theorem d_Mo_run_9 : decode b_Mo_run 9 = .ok (.ifCond .lt 16, 3) := by decide +kernel
theorem d_Mo_run_12 : decode b_Mo_run 12 = .ok (.iload_n 2, 1) := by decide +kernel
theorem d_Mo_run_13 : decode b_Mo_run 13 = .ok (.ifCond .lt 12, 3) := by decide +kernel
theorem d_Mo_run_16 : decode b_Mo_run 16 = .ok (.iload_n 3, 1) := by decide +kernel
theorem d_Mo_run_17 : decode b_Mo_run 17 = .ok (.ifCond .lt 8, 3) := by decide +kernel
theorem d_Mo_run_20 : decode b_Mo_run 20 = .ok (.iload_n 3, 1) := by decide +kernel
theorem d_Mo_run_21 : decode b_Mo_run 21 = .ok (.iconst 1, 1) := by decide +kernel
theorem d_Mo_run_22 : decode b_Mo_run 22 = .ok (.if_icmp .le 5, 3) := by decide +kernel
theorem d_Mo_run_25 : decode b_Mo_run 25 = .ok (.iconst (-1), 1) := by decide +kernel
theorem d_Mo_run_26 : decode b_Mo_run 26 = .ok (.ireturn, 1) := by decide +kernel
theorem d_Mo_run_27 : decode b_Mo_run 27 = .ok (.iconst (-1), 1) := by decide +kernel
theorem d_Mo_run_28 : decode b_Mo_run 28 = .ok (.istore 5, 2) := by decide +kernel
theorem d_Mo_run_30 : decode b_Mo_run 30 = .ok (.iconst 0, 1) := by decide +kernel
theorem d_Mo_run_31 : decode b_Mo_run 31 = .ok (.istore 6, 2) := by decide +kernel
theorem d_Mo_run_33 : decode b_Mo_run 33 = .ok (.iload 6, 2) := by decide +kernel
theorem d_Mo_run_35 : decode b_Mo_run 35 = .ok (.iload 4, 2) := by decide +kernel
theorem d_Mo_run_37 : decode b_Mo_run 37 = .ok (.if_icmp .ge 106, 3) := by decide +kernel
theorem d_Mo_run_40 : decode b_Mo_run 40 = .ok (.iload 6, 2) := by decide +kernel
theorem d_Mo_run_42 : decode b_Mo_run 42 = .ok (.ifCond .eq 24, 3) := by decide +kernel
theorem d_Mo_run_45 : decode b_Mo_run 45 = .ok (.aload_n 0, 1) := by decide +kernel
theorem d_Mo_run_46 : decode b_Mo_run 46 = .ok (.getfield 20, 3) := by decide +kernel
theorem d_Mo_run_49 : decode b_Mo_run 49 = .ok (.iload 6, 2) := by decide +kernel
theorem d_Mo_run_51 : decode b_Mo_run 51 = .ok (.iaload, 1) := by decide +kernel
theorem d_Mo_run_52 : decode b_Mo_run 52 = .ok (.aload_n 0, 1) := by decide +kernel
theorem d_Mo_run_53 : decode b_Mo_run 53 = .ok (.getfield 20, 3) := by decide +kernel
theorem d_Mo_run_56 : decode b_Mo_run 56 = .ok (.iload 6, 2) := by decide +kernel
theorem d_Mo_run_58 : decode b_Mo_run 58 = .ok (.iconst 1, 1) := by decide +kernel
theorem d_Mo_run_59 : decode b_Mo_run 59 = .ok (.isub, 1) := by decide +kernel
theorem d_Mo_run_60 : decode b_Mo_run 60 = .ok (.iaload, 1) := by decide +kernel
theorem d_Mo_run_61 : decode b_Mo_run 61 = .ok (.iconst 1, 1) := by decide +kernel
theorem d_Mo_run_62 : decode b_Mo_run 62 = .ok (.iadd, 1) := by decide +kernel
theorem d_Mo_run_63 : decode b_Mo_run 63 = .ok (.if_icmp .le 10, 3) := by decide +kernel
theorem d_Mo_run_66 : decode b_Mo_run 66 = .ok (.iload 5, 2) := by decide +kernel
theorem d_Mo_run_68 : decode b_Mo_run 68 = .ok (.iconst 1, 1) := by decide +kernel
theorem d_Mo_run_69 : decode b_Mo_run 69 = .ok (.iadd, 1) := by decide +kernel
theorem d_Mo_run_70 : decode b_Mo_run 70 = .ok (.goto 5, 3) := by decide +kernel
theorem d_Mo_run_73 : decode b_Mo_run 73 = .ok (.iload 5, 2) := by decide +kernel
theorem d_Mo_run_75 : decode b_Mo_run 75 = .ok (.istore 5, 2) := by decide +kernel
theorem d_Mo_run_77 : decode b_Mo_run 77 = .ok (.iload 6, 2) := by decide +kernel
theorem d_Mo_run_79 : decode b_Mo_run 79 = .ok (.iload 4, 2) := by decide +kernel
theorem d_Mo_run_81 : decode b_Mo_run 81 = .ok (.iconst 1, 1) := by decide +kernel
theorem d_Mo_run_82 : decode b_Mo_run 82 = .ok (.isub, 1) := by decide +kernel
theorem d_Mo_run_83 : decode b_Mo_run 83 = .ok (.if_icmp .eq 24, 3) := by decide +kernel
theorem d_Mo_run_86 : decode b_Mo_run 86 = .ok (.aload_n 0, 1) := by decide +kernel
theorem d_Mo_run_87 : decode b_Mo_run 87 = .ok (.getfield 20, 3) := by decide +kernel
theorem d_Mo_run_90 : decode b_Mo_run 90 = .ok (.iload 6, 2) := by decide +kernel
theorem d_Mo_run_92 : decode b_Mo_run 92 = .ok (.iconst 1, 1) := by decide +kernel
theorem d_Mo_run_93 : decode b_Mo_run 93 = .ok (.iadd, 1) := by decide +kernel
theorem d_Mo_run_94 : decode b_Mo_run 94 = .ok (.iaload, 1) := by decide +kernel
theorem d_Mo_run_95 : decode b_Mo_run 95 = .ok (.aload_n 0, 1) := by decide +kernel
theorem d_Mo_run_96 : decode b_Mo_run 96 = .ok (.getfield 20, 3) := by decide +kernel
theorem d_Mo_run_99 : decode b_Mo_run 99 = .ok (.iload 6, 2) := by decide +kernel
theorem d_Mo_run_101 : decode b_Mo_run 101 = .ok (.iaload, 1) := by decide +kernel
theorem d_Mo_run_102 : decode b_Mo_run 102 = .ok (.iconst 1, 1) := by decide +kernel
theorem d_Mo_run_103 : decode b_Mo_run 103 = .ok (.iadd, 1) := by decide +kernel
theorem d_Mo_run_104 : decode b_Mo_run 104 = .ok (.if_icmp .le 7, 3) := by decide +kernel
theorem d_Mo_run_107 : decode b_Mo_run 107 = .ok (.iconst 1, 1) := by decide +kernel
theorem d_Mo_run_108 : decode b_Mo_run 108 = .ok (.goto 4, 3) := by decide +kernel
theorem d_Mo_run_111 : decode b_Mo_run 111 = .ok (.iconst 0, 1) := by decide +kernel
theorem d_Mo_run_112 : decode b_Mo_run 112 = .ok (.istore 7, 2) := by decide +kernel
theorem d_Mo_run_114 : decode b_Mo_run 114 = .ok (.iload 5, 2) := by decide +kernel
theorem d_Mo_run_116 : decode b_Mo_run 116 = .ok (.iload_n 2, 1) := by decide +kernel
theorem d_Mo_run_117 : decode b_Mo_run 117 = .ok (.if_icmp .ne 20, 3) := by decide +kernel
theorem d_Mo_run_120 : decode b_Mo_run 120 = .ok (.iload_n 3, 1) := by decide +kernel
theorem d_Mo_run_121 : decode b_Mo_run 121 = .ok (.ifCond .eq 8, 3) := by decide +kernel
theorem d_Mo_run_124 : decode b_Mo_run 124 = .ok (.iload 7, 2) := by decide +kernel
theorem d_Mo_run_126 : decode b_Mo_run 126 = .ok (.ifCond .eq 11, 3) := by decide +kernel
theorem d_Mo_run_129 : decode b_Mo_run 129 = .ok (.aload_n 0, 1) := by decide +kernel
theorem d_Mo_run_130 : decode b_Mo_run 130 = .ok (.getfield 20, 3) := by decide +kernel
theorem d_Mo_run_133 : decode b_Mo_run 133 = .ok (.iload 6, 2) := by decide +kernel
theorem d_Mo_run_135 : decode b_Mo_run 135 = .ok (.iaload, 1) := by decide +kernel
theorem d_Mo_run_136 : decode b_Mo_run 136 = .ok (.ireturn, 1) := by decide +kernel
theorem d_Mo_run_137 : decode b_Mo_run 137 = .ok (.iinc 6 1, 3) := by decide +kernel
theorem d_Mo_run_140 : decode b_Mo_run 140 = .ok (.goto (-107), 3) := by decide +kernel
theorem d_Mo_run_143 : decode b_Mo_run 143 = .ok (.iconst (-1), 1) := by decide +kernel
theorem d_Mo_run_144 : decode b_Mo_run 144 = .ok (.ireturn, 1) := by decide +kernel
theorem d_Mo_nearest_0 : decode b_Mo_nearest 0 = .ok (.aload_n 0, 1) := by decide +kernel
theorem d_Mo_nearest_1 : decode b_Mo_nearest 1 = .ok (.iload_n 1, 1) := by decide +kernel
theorem d_Mo_nearest_2 : decode b_Mo_nearest 2 = .ok (.iload_n 2, 1) := by decide +kernel
theorem d_Mo_nearest_3 : decode b_Mo_nearest 3 = .ok (.invokevirtual 49, 3) := by decide +kernel
theorem d_Mo_nearest_6 : decode b_Mo_nearest 6 = .ok (.ifCond .ne 5, 3) := by decide +kernel
theorem d_Mo_nearest_9 : decode b_Mo_nearest 9 = .ok (.iconst (-1), 1) := by decide +kernel
theorem d_Mo_nearest_10 : decode b_Mo_nearest 10 = .ok (.ireturn, 1) := by decide +kernel
theorem d_Mo_nearest_11 : decode b_Mo_nearest 11 = .ok (.iconst (-1), 1) := by decide +kernel
theorem d_Mo_nearest_12 : decode b_Mo_nearest 12 = .ok (.istore_n 3, 1) := by decide +kernel
theorem d_Mo_nearest_13 : decode b_Mo_nearest 13 = .ok (.lconst 0, 1) := by decide +kernel
theorem d_Mo_nearest_14 : decode b_Mo_nearest 14 = .ok (.lstore 4, 2) := by decide +kernel
theorem d_Mo_nearest_16 : decode b_Mo_nearest 16 = .ok (.iconst 0, 1) := by decide +kernel
theorem d_Mo_nearest_17 : decode b_Mo_nearest 17 = .ok (.istore 6, 2) := by decide +kernel
theorem d_Mo_nearest_19 : decode b_Mo_nearest 19 = .ok (.iload 6, 2) := by decide +kernel
theorem d_Mo_nearest_21 : decode b_Mo_nearest 21 = .ok (.aload_n 0, 1) := by decide +kernel
theorem d_Mo_nearest_22 : decode b_Mo_nearest 22 = .ok (.getfield 30, 3) := by decide +kernel
theorem d_Mo_nearest_25 : decode b_Mo_nearest 25 = .ok (.if_icmp .ge 99, 3) := by decide +kernel
theorem d_Mo_nearest_28 : decode b_Mo_nearest 28 = .ok (.aload_n 0, 1) := by decide +kernel
theorem d_Mo_nearest_29 : decode b_Mo_nearest 29 = .ok (.getfield 13, 3) := by decide +kernel
theorem d_Mo_nearest_32 : decode b_Mo_nearest 32 = .ok (.iload 6, 2) := by decide +kernel
theorem d_Mo_nearest_34 : decode b_Mo_nearest 34 = .ok (.iaload, 1) := by decide +kernel
theorem d_Mo_nearest_35 : decode b_Mo_nearest 35 = .ok (.aload_n 0, 1) := by decide +kernel
theorem d_Mo_nearest_36 : decode b_Mo_nearest 36 = .ok (.invokevirtual 26, 3) := by decide +kernel
theorem d_Mo_nearest_39 : decode b_Mo_nearest 39 = .ok (.idiv, 1) := by decide +kernel
theorem d_Mo_nearest_40 : decode b_Mo_nearest 40 = .ok (.iload_n 1, 1) := by decide +kernel
theorem d_Mo_nearest_41 : decode b_Mo_nearest 41 = .ok (.isub, 1) := by decide +kernel
theorem d_Mo_nearest_42 : decode b_Mo_nearest 42 = .ok (.i2l, 1) := by decide +kernel
theorem d_Mo_nearest_43 : decode b_Mo_nearest 43 = .ok (.lstore 7, 2) := by decide +kernel
theorem d_Mo_nearest_45 : decode b_Mo_nearest 45 = .ok (.aload_n 0, 1) := by decide +kernel
theorem d_Mo_nearest_46 : decode b_Mo_nearest 46 = .ok (.getfield 13, 3) := by decide +kernel
theorem d_Mo_nearest_49 : decode b_Mo_nearest 49 = .ok (.iload 6, 2) := by decide +kernel
theorem d_Mo_nearest_51 : decode b_Mo_nearest 51 = .ok (.iaload, 1) := by decide +kernel
theorem d_Mo_nearest_52 : decode b_Mo_nearest 52 = .ok (.aload_n 0, 1) := by decide +kernel
theorem d_Mo_nearest_53 : decode b_Mo_nearest 53 = .ok (.invokevirtual 26, 3) := by decide +kernel
theorem d_Mo_nearest_56 : decode b_Mo_nearest 56 = .ok (.irem, 1) := by decide +kernel
theorem d_Mo_nearest_57 : decode b_Mo_nearest 57 = .ok (.iload_n 2, 1) := by decide +kernel
theorem d_Mo_nearest_58 : decode b_Mo_nearest 58 = .ok (.isub, 1) := by decide +kernel
theorem d_Mo_nearest_59 : decode b_Mo_nearest 59 = .ok (.i2l, 1) := by decide +kernel
theorem d_Mo_nearest_60 : decode b_Mo_nearest 60 = .ok (.lstore 9, 2) := by decide +kernel
theorem d_Mo_nearest_62 : decode b_Mo_nearest 62 = .ok (.lload 7, 2) := by decide +kernel
theorem d_Mo_nearest_64 : decode b_Mo_nearest 64 = .ok (.lload 7, 2) := by decide +kernel
theorem d_Mo_nearest_66 : decode b_Mo_nearest 66 = .ok (.lmul, 1) := by decide +kernel
theorem d_Mo_nearest_67 : decode b_Mo_nearest 67 = .ok (.lload 9, 2) := by decide +kernel
theorem d_Mo_nearest_69 : decode b_Mo_nearest 69 = .ok (.lload 9, 2) := by decide +kernel
theorem d_Mo_nearest_71 : decode b_Mo_nearest 71 = .ok (.lmul, 1) := by decide +kernel
theorem d_Mo_nearest_72 : decode b_Mo_nearest 72 = .ok (.ladd, 1) := by decide +kernel
theorem d_Mo_nearest_73 : decode b_Mo_nearest 73 = .ok (.lstore 11, 2) := by decide +kernel
theorem d_Mo_nearest_75 : decode b_Mo_nearest 75 = .ok (.iload_n 3, 1) := by decide +kernel
theorem d_Mo_nearest_76 : decode b_Mo_nearest 76 = .ok (.ifCond .lt 35, 3) := by decide +kernel
theorem d_Mo_nearest_79 : decode b_Mo_nearest 79 = .ok (.lload 11, 2) := by decide +kernel
theorem d_Mo_nearest_81 : decode b_Mo_nearest 81 = .ok (.lload 4, 2) := by decide +kernel
theorem d_Mo_nearest_83 : decode b_Mo_nearest 83 = .ok (.lcmp, 1) := by decide +kernel
theorem d_Mo_nearest_84 : decode b_Mo_nearest 84 = .ok (.ifCond .lt 27, 3) := by decide +kernel
theorem d_Mo_nearest_87 : decode b_Mo_nearest 87 = .ok (.lload 11, 2) := by decide +kernel
theorem d_Mo_nearest_89 : decode b_Mo_nearest 89 = .ok (.lload 4, 2) := by decide +kernel
theorem d_Mo_nearest_91 : decode b_Mo_nearest 91 = .ok (.lcmp, 1) := by decide +kernel
theorem d_Mo_nearest_92 : decode b_Mo_nearest 92 = .ok (.ifCond .ne 26, 3) := by decide +kernel
theorem d_Mo_nearest_95 : decode b_Mo_nearest 95 = .ok (.aload_n 0, 1) := by decide +kernel
theorem d_Mo_nearest_96 : decode b_Mo_nearest 96 = .ok (.iconst 1, 1) := by decide +kernel
theorem d_Mo_nearest_97 : decode b_Mo_nearest 97 = .ok (.iload 6, 2) := by decide +kernel
theorem d_Mo_nearest_99 : decode b_Mo_nearest 99 = .ok (.invokevirtual 68, 3) := by decide +kernel
theorem d_Mo_nearest_102 : decode b_Mo_nearest 102 = .ok (.aload_n 0, 1) := by decide +kernel
theorem d_Mo_nearest_103 : decode b_Mo_nearest 103 = .ok (.iconst 1, 1) := by decide +kernel
theorem d_Mo_nearest_104 : decode b_Mo_nearest 104 = .ok (.iload_n 3, 1) := by decide +kernel
theorem d_Mo_nearest_105 : decode b_Mo_nearest 105 = .ok (.invokevirtual 68, 3) := by decide +kernel
theorem d_Mo_nearest_108 : decode b_Mo_nearest 108 = .ok (.if_icmp .ge 10, 3) := by decide +kernel
theorem d_Mo_nearest_111 : decode b_Mo_nearest 111 = .ok (.iload 6, 2) := by decide +kernel
theorem d_Mo_nearest_113 : decode b_Mo_nearest 113 = .ok (.istore_n 3, 1) := by decide +kernel
theorem d_Mo_nearest_114 : decode b_Mo_nearest 114 = .ok (.lload 11, 2) := by decide +kernel
theorem d_Mo_nearest_116 : decode b_Mo_nearest 116 = .ok (.lstore 4, 2) := by decide +kernel
theorem d_Mo_nearest_118 : decode b_Mo_nearest 118 = .ok (.iinc 6 1, 3) := by decide +kernel
theorem d_Mo_nearest_121 : decode b_Mo_nearest 121 = .ok (.goto (-102), 3) := by decide +kernel
theorem d_Mo_nearest_124 : decode b_Mo_nearest 124 = .ok (.iload_n 3, 1) := by decide +kernel
theorem d_Mo_nearest_125 : decode b_Mo_nearest 125 = .ok (.ifCond .ge 7, 3) := by decide +kernel
theorem d_Mo_nearest_128 : decode b_Mo_nearest 128 = .ok (.iconst (-1), 1) := by decide +kernel
theorem d_Mo_nearest_129 : decode b_Mo_nearest 129 = .ok (.goto 9, 3) := by decide +kernel
theorem d_Mo_nearest_132 : decode b_Mo_nearest 132 = .ok (.aload_n 0, 1) := by decide +kernel
theorem d_Mo_nearest_133 : decode b_Mo_nearest 133 = .ok (.getfield 13, 3) := by decide +kernel
theorem d_Mo_nearest_136 : decode b_Mo_nearest 136 = .ok (.iload_n 3, 1) := by decide +kernel
theorem d_Mo_nearest_137 : decode b_Mo_nearest 137 = .ok (.iaload, 1) := by decide +kernel
theorem d_Mo_nearest_138 : decode b_Mo_nearest 138 = .ok (.ireturn, 1) := by decide +kernel
theorem d_Fr_init_0 : decode b_Fr_init 0 = .ok (.aload_n 0, 1) := by decide +kernel
theorem d_Fr_init_1 : decode b_Fr_init 1 = .ok (.invokespecial 1, 3) := by decide +kernel
theorem d_Fr_init_4 : decode b_Fr_init 4 = .ok (.aload_n 0, 1) := by decide +kernel
theorem d_Fr_init_5 : decode b_Fr_init 5 = .ok (.iload_n 1, 1) := by decide +kernel
theorem d_Fr_init_6 : decode b_Fr_init 6 = .ok (.putfield 7, 3) := by decide +kernel
theorem d_Fr_init_9 : decode b_Fr_init 9 = .ok (.aload_n 0, 1) := by decide +kernel
theorem d_Fr_init_10 : decode b_Fr_init 10 = .ok (.iload_n 2, 1) := by decide +kernel
theorem d_Fr_init_11 : decode b_Fr_init 11 = .ok (.putfield 13, 3) := by decide +kernel
theorem d_Fr_init_14 : decode b_Fr_init 14 = .ok (.aload_n 0, 1) := by decide +kernel
theorem d_Fr_init_15 : decode b_Fr_init 15 = .ok (.iload_n 3, 1) := by decide +kernel
theorem d_Fr_init_16 : decode b_Fr_init 16 = .ok (.putfield 16, 3) := by decide +kernel
theorem d_Fr_init_19 : decode b_Fr_init 19 = .ok (.aload_n 0, 1) := by decide +kernel
theorem d_Fr_init_20 : decode b_Fr_init 20 = .ok (.iload 4, 2) := by decide +kernel
theorem d_Fr_init_22 : decode b_Fr_init 22 = .ok (.putfield 19, 3) := by decide +kernel
theorem d_Fr_init_25 : decode b_Fr_init 25 = .ok (.return_, 1) := by decide +kernel
theorem d_Fr_holds_0 : decode b_Fr_holds 0 = .ok (.iload_n 1, 1) := by decide +kernel
theorem d_Fr_holds_1 : decode b_Fr_holds 1 = .ok (.aload_n 0, 1) := by decide +kernel
theorem d_Fr_holds_2 : decode b_Fr_holds 2 = .ok (.getfield 7, 3) := by decide +kernel
theorem d_Fr_holds_5 : decode b_Fr_holds 5 = .ok (.if_icmp .lt 31, 3) := by decide +kernel
theorem d_Fr_holds_8 : decode b_Fr_holds 8 = .ok (.iload_n 1, 1) := by decide +kernel
theorem d_Fr_holds_9 : decode b_Fr_holds 9 = .ok (.aload_n 0, 1) := by decide +kernel
theorem d_Fr_holds_10 : decode b_Fr_holds 10 = .ok (.getfield 16, 3) := by decide +kernel
theorem d_Fr_holds_13 : decode b_Fr_holds 13 = .ok (.if_icmp .gt 23, 3) := by decide +kernel
theorem d_Fr_holds_16 : decode b_Fr_holds 16 = .ok (.iload_n 2, 1) := by decide +kernel
theorem d_Fr_holds_17 : decode b_Fr_holds 17 = .ok (.aload_n 0, 1) := by decide +kernel
theorem d_Fr_holds_18 : decode b_Fr_holds 18 = .ok (.getfield 13, 3) := by decide +kernel
theorem d_Fr_holds_21 : decode b_Fr_holds 21 = .ok (.if_icmp .lt 15, 3) := by decide +kernel
theorem d_Fr_holds_24 : decode b_Fr_holds 24 = .ok (.iload_n 2, 1) := by decide +kernel
theorem d_Fr_holds_25 : decode b_Fr_holds 25 = .ok (.aload_n 0, 1) := by decide +kernel
theorem d_Fr_holds_26 : decode b_Fr_holds 26 = .ok (.getfield 19, 3) := by decide +kernel
theorem d_Fr_holds_29 : decode b_Fr_holds 29 = .ok (.if_icmp .gt 7, 3) := by decide +kernel
theorem d_Fr_holds_32 : decode b_Fr_holds 32 = .ok (.iconst 1, 1) := by decide +kernel
theorem d_Fr_holds_33 : decode b_Fr_holds 33 = .ok (.goto 4, 3) := by decide +kernel
theorem d_Fr_holds_36 : decode b_Fr_holds 36 = .ok (.iconst 0, 1) := by decide +kernel
theorem d_Fr_holds_37 : decode b_Fr_holds 37 = .ok (.ireturn, 1) := by decide +kernel
theorem d_Fr_holdsSquare_0 : decode b_Fr_holdsSquare 0 = .ok (.aload_n 0, 1) := by decide +kernel
theorem d_Fr_holdsSquare_1 : decode b_Fr_holdsSquare 1 = .ok (.iload_n 1, 1) := by decide +kernel
theorem d_Fr_holdsSquare_2 : decode b_Fr_holdsSquare 2 = .ok (.iload_n 2, 1) := by decide +kernel
theorem d_Fr_holdsSquare_3 : decode b_Fr_holdsSquare 3 = .ok (.invokevirtual 22, 3) := by decide +kernel
theorem d_Fr_holdsSquare_6 : decode b_Fr_holdsSquare 6 = .ok (.ifCond .eq 24, 3) := by decide +kernel
theorem d_Fr_holdsSquare_9 : decode b_Fr_holdsSquare 9 = .ok (.aload_n 0, 1) := by decide +kernel
theorem d_Fr_holdsSquare_10 : decode b_Fr_holdsSquare 10 = .ok (.iload_n 1, 1) := by decide +kernel
theorem d_Fr_holdsSquare_11 : decode b_Fr_holdsSquare 11 = .ok (.iload_n 3, 1) := by decide +kernel
theorem d_Fr_holdsSquare_12 : decode b_Fr_holdsSquare 12 = .ok (.iadd, 1) := by decide +kernel
theorem d_Fr_holdsSquare_13 : decode b_Fr_holdsSquare 13 = .ok (.iconst 1, 1) := by decide +kernel
theorem d_Fr_holdsSquare_14 : decode b_Fr_holdsSquare 14 = .ok (.isub, 1) := by decide +kernel
theorem d_Fr_holdsSquare_15 : decode b_Fr_holdsSquare 15 = .ok (.iload_n 2, 1) := by decide +kernel
theorem d_Fr_holdsSquare_16 : decode b_Fr_holdsSquare 16 = .ok (.iload_n 3, 1) := by decide +kernel
theorem d_Fr_holdsSquare_17 : decode b_Fr_holdsSquare 17 = .ok (.iadd, 1) := by decide +kernel
theorem d_Fr_holdsSquare_18 : decode b_Fr_holdsSquare 18 = .ok (.iconst 1, 1) := by decide +kernel
theorem d_Fr_holdsSquare_19 : decode b_Fr_holdsSquare 19 = .ok (.isub, 1) := by decide +kernel
theorem d_Fr_holdsSquare_20 : decode b_Fr_holdsSquare 20 = .ok (.invokevirtual 22, 3) := by decide +kernel
theorem d_Fr_holdsSquare_23 : decode b_Fr_holdsSquare 23 = .ok (.ifCond .eq 7, 3) := by decide +kernel
theorem d_Fr_holdsSquare_26 : decode b_Fr_holdsSquare 26 = .ok (.iconst 1, 1) := by decide +kernel
theorem d_Fr_holdsSquare_27 : decode b_Fr_holdsSquare 27 = .ok (.goto 4, 3) := by decide +kernel
theorem d_Fr_holdsSquare_30 : decode b_Fr_holdsSquare 30 = .ok (.iconst 0, 1) := by decide +kernel
theorem d_Fr_holdsSquare_31 : decode b_Fr_holdsSquare 31 = .ok (.ireturn, 1) := by decide +kernel
theorem d_Fr_missesSquare_0 : decode b_Fr_missesSquare 0 = .ok (.iload_n 1, 1) := by decide +kernel
theorem d_Fr_missesSquare_1 : decode b_Fr_missesSquare 1 = .ok (.aload_n 0, 1) := by decide +kernel
theorem d_Fr_missesSquare_2 : decode b_Fr_missesSquare 2 = .ok (.getfield 16, 3) := by decide +kernel
theorem d_Fr_missesSquare_5 : decode b_Fr_missesSquare 5 = .ok (.if_icmp .gt 31, 3) := by decide +kernel
theorem d_Fr_missesSquare_8 : decode b_Fr_missesSquare 8 = .ok (.iload_n 1, 1) := by decide +kernel
theorem d_Fr_missesSquare_9 : decode b_Fr_missesSquare 9 = .ok (.iload_n 3, 1) := by decide +kernel
theorem d_Fr_missesSquare_10 : decode b_Fr_missesSquare 10 = .ok (.iadd, 1) := by decide +kernel
theorem d_Fr_missesSquare_11 : decode b_Fr_missesSquare 11 = .ok (.aload_n 0, 1) := by decide +kernel
theorem d_Fr_missesSquare_12 : decode b_Fr_missesSquare 12 = .ok (.getfield 7, 3) := by decide +kernel
theorem d_Fr_missesSquare_15 : decode b_Fr_missesSquare 15 = .ok (.if_icmp .le 21, 3) := by decide +kernel
theorem d_Fr_missesSquare_18 : decode b_Fr_missesSquare 18 = .ok (.iload_n 2, 1) := by decide +kernel
theorem d_Fr_missesSquare_19 : decode b_Fr_missesSquare 19 = .ok (.aload_n 0, 1) := by decide +kernel
theorem d_Fr_missesSquare_20 : decode b_Fr_missesSquare 20 = .ok (.getfield 19, 3) := by decide +kernel
theorem d_Fr_missesSquare_23 : decode b_Fr_missesSquare 23 = .ok (.if_icmp .gt 13, 3) := by decide +kernel
theorem d_Fr_missesSquare_26 : decode b_Fr_missesSquare 26 = .ok (.iload_n 2, 1) := by decide +kernel
theorem d_Fr_missesSquare_27 : decode b_Fr_missesSquare 27 = .ok (.iload_n 3, 1) := by decide +kernel
theorem d_Fr_missesSquare_28 : decode b_Fr_missesSquare 28 = .ok (.iadd, 1) := by decide +kernel
theorem d_Fr_missesSquare_29 : decode b_Fr_missesSquare 29 = .ok (.aload_n 0, 1) := by decide +kernel
theorem d_Fr_missesSquare_30 : decode b_Fr_missesSquare 30 = .ok (.getfield 13, 3) := by decide +kernel
theorem d_Fr_missesSquare_33 : decode b_Fr_missesSquare 33 = .ok (.if_icmp .gt 7, 3) := by decide +kernel
theorem d_Fr_missesSquare_36 : decode b_Fr_missesSquare 36 = .ok (.iconst 1, 1) := by decide +kernel
theorem d_Fr_missesSquare_37 : decode b_Fr_missesSquare 37 = .ok (.goto 4, 3) := by decide +kernel
theorem d_Fr_missesSquare_40 : decode b_Fr_missesSquare 40 = .ok (.iconst 0, 1) := by decide +kernel
theorem d_Fr_missesSquare_41 : decode b_Fr_missesSquare 41 = .ok (.ireturn, 1) := by decide +kernel
theorem d_Fr_cellCount_0 : decode b_Fr_cellCount 0 = .ok (.aload_n 0, 1) := by decide +kernel
theorem d_Fr_cellCount_1 : decode b_Fr_cellCount 1 = .ok (.getfield 16, 3) := by decide +kernel
theorem d_Fr_cellCount_4 : decode b_Fr_cellCount 4 = .ok (.aload_n 0, 1) := by decide +kernel
theorem d_Fr_cellCount_5 : decode b_Fr_cellCount 5 = .ok (.getfield 7, 3) := by decide +kernel
theorem d_Fr_cellCount_8 : decode b_Fr_cellCount 8 = .ok (.isub, 1) := by decide +kernel
theorem d_Fr_cellCount_9 : decode b_Fr_cellCount 9 = .ok (.iconst 1, 1) := by decide +kernel
theorem d_Fr_cellCount_10 : decode b_Fr_cellCount 10 = .ok (.iadd, 1) := by decide +kernel
theorem d_Fr_cellCount_11 : decode b_Fr_cellCount 11 = .ok (.aload_n 0, 1) := by decide +kernel
theorem d_Fr_cellCount_12 : decode b_Fr_cellCount 12 = .ok (.getfield 19, 3) := by decide +kernel
theorem d_Fr_cellCount_15 : decode b_Fr_cellCount 15 = .ok (.aload_n 0, 1) := by decide +kernel
theorem d_Fr_cellCount_16 : decode b_Fr_cellCount 16 = .ok (.getfield 13, 3) := by decide +kernel
theorem d_Fr_cellCount_19 : decode b_Fr_cellCount 19 = .ok (.isub, 1) := by decide +kernel
theorem d_Fr_cellCount_20 : decode b_Fr_cellCount 20 = .ok (.iconst 1, 1) := by decide +kernel
theorem d_Fr_cellCount_21 : decode b_Fr_cellCount 21 = .ok (.iadd, 1) := by decide +kernel
theorem d_Fr_cellCount_22 : decode b_Fr_cellCount 22 = .ok (.imul, 1) := by decide +kernel
theorem d_Fr_cellCount_23 : decode b_Fr_cellCount 23 = .ok (.ireturn, 1) := by decide +kernel
theorem d_Row_init_0 : decode b_Row_init 0 = .ok (.aload_n 0, 1) := by decide +kernel
theorem d_Row_init_1 : decode b_Row_init 1 = .ok (.invokespecial 3, 3) := by decide +kernel
theorem d_Row_init_4 : decode b_Row_init 4 = .ok (.aload_n 0, 1) := by decide +kernel
theorem d_Row_init_5 : decode b_Row_init 5 = .ok (.sipush 500, 3) := by decide +kernel
theorem d_Row_init_8 : decode b_Row_init 8 = .ok (.newarray .int, 2) := by decide +kernel
theorem d_Row_init_10 : decode b_Row_init 10 = .ok (.putfield 9, 3) := by decide +kernel
theorem d_Row_init_13 : decode b_Row_init 13 = .ok (.aload_n 0, 1) := by decide +kernel
theorem d_Row_init_14 : decode b_Row_init 14 = .ok (.sipush 500, 3) := by decide +kernel
theorem d_Row_init_17 : decode b_Row_init 17 = .ok (.newarray .int, 2) := by decide +kernel
theorem d_Row_init_19 : decode b_Row_init 19 = .ok (.putfield 15, 3) := by decide +kernel
theorem d_Row_init_22 : decode b_Row_init 22 = .ok (.aload_n 0, 1) := by decide +kernel
theorem d_Row_init_23 : decode b_Row_init 23 = .ok (.sipush 500, 3) := by decide +kernel
theorem d_Row_init_26 : decode b_Row_init 26 = .ok (.newarray .int, 2) := by decide +kernel
theorem d_Row_init_28 : decode b_Row_init 28 = .ok (.putfield 18, 3) := by decide +kernel
theorem d_Row_init_31 : decode b_Row_init 31 = .ok (.aload_n 0, 1) := by decide +kernel
theorem d_Row_init_32 : decode b_Row_init 32 = .ok (.iconst 0, 1) := by decide +kernel
theorem d_Row_init_33 : decode b_Row_init 33 = .ok (.putfield 21, 3) := by decide +kernel
theorem d_Row_init_36 : decode b_Row_init 36 = .ok (.return_, 1) := by decide +kernel
theorem d_Row_clear_0 : decode b_Row_clear 0 = .ok (.aload_n 0, 1) := by decide +kernel
theorem d_Row_clear_1 : decode b_Row_clear 1 = .ok (.iconst 0, 1) := by decide +kernel
theorem d_Row_clear_2 : decode b_Row_clear 2 = .ok (.putfield 21, 3) := by decide +kernel
theorem d_Row_clear_5 : decode b_Row_clear 5 = .ok (.return_, 1) := by decide +kernel
theorem d_Row_isFull_0 : decode b_Row_isFull 0 = .ok (.aload_n 0, 1) := by decide +kernel
theorem d_Row_isFull_1 : decode b_Row_isFull 1 = .ok (.getfield 21, 3) := by decide +kernel
theorem d_Row_isFull_4 : decode b_Row_isFull 4 = .ok (.sipush 500, 3) := by decide +kernel
theorem d_Row_isFull_7 : decode b_Row_isFull 7 = .ok (.if_icmp .lt 7, 3) := by decide +kernel
theorem d_Row_isFull_10 : decode b_Row_isFull 10 = .ok (.iconst 1, 1) := by decide +kernel
theorem d_Row_isFull_11 : decode b_Row_isFull 11 = .ok (.goto 4, 3) := by decide +kernel
theorem d_Row_isFull_14 : decode b_Row_isFull 14 = .ok (.iconst 0, 1) := by decide +kernel
theorem d_Row_isFull_15 : decode b_Row_isFull 15 = .ok (.ireturn, 1) := by decide +kernel
theorem d_Row_placeOf_0 : decode b_Row_placeOf 0 = .ok (.iconst 0, 1) := by decide +kernel
theorem d_Row_placeOf_1 : decode b_Row_placeOf 1 = .ok (.istore_n 2, 1) := by decide +kernel
theorem d_Row_placeOf_2 : decode b_Row_placeOf 2 = .ok (.iload_n 2, 1) := by decide +kernel
theorem d_Row_placeOf_3 : decode b_Row_placeOf 3 = .ok (.aload_n 0, 1) := by decide +kernel
theorem d_Row_placeOf_4 : decode b_Row_placeOf 4 = .ok (.getfield 21, 3) := by decide +kernel
theorem d_Row_placeOf_7 : decode b_Row_placeOf 7 = .ok (.if_icmp .ge 19, 3) := by decide +kernel
theorem d_Row_placeOf_10 : decode b_Row_placeOf 10 = .ok (.aload_n 0, 1) := by decide +kernel
theorem d_Row_placeOf_11 : decode b_Row_placeOf 11 = .ok (.getfield 9, 3) := by decide +kernel
theorem d_Row_placeOf_14 : decode b_Row_placeOf 14 = .ok (.iload_n 2, 1) := by decide +kernel
theorem d_Row_placeOf_15 : decode b_Row_placeOf 15 = .ok (.iaload, 1) := by decide +kernel
theorem d_Row_placeOf_16 : decode b_Row_placeOf 16 = .ok (.iload_n 1, 1) := by decide +kernel
theorem d_Row_placeOf_17 : decode b_Row_placeOf 17 = .ok (.if_icmp .ge 9, 3) := by decide +kernel
theorem d_Row_placeOf_20 : decode b_Row_placeOf 20 = .ok (.iinc 2 1, 3) := by decide +kernel
theorem d_Row_placeOf_23 : decode b_Row_placeOf 23 = .ok (.goto (-21), 3) := by decide +kernel
theorem d_Row_placeOf_26 : decode b_Row_placeOf 26 = .ok (.iload_n 2, 1) := by decide +kernel
theorem d_Row_placeOf_27 : decode b_Row_placeOf 27 = .ok (.ireturn, 1) := by decide +kernel
theorem d_Row_isKeyAt_0 : decode b_Row_isKeyAt 0 = .ok (.iload_n 1, 1) := by decide +kernel
theorem d_Row_isKeyAt_1 : decode b_Row_isKeyAt 1 = .ok (.aload_n 0, 1) := by decide +kernel
theorem d_Row_isKeyAt_2 : decode b_Row_isKeyAt 2 = .ok (.getfield 21, 3) := by decide +kernel
theorem d_Row_isKeyAt_5 : decode b_Row_isKeyAt 5 = .ok (.if_icmp .ge 17, 3) := by decide +kernel
theorem d_Row_isKeyAt_8 : decode b_Row_isKeyAt 8 = .ok (.aload_n 0, 1) := by decide +kernel
theorem d_Row_isKeyAt_9 : decode b_Row_isKeyAt 9 = .ok (.getfield 9, 3) := by decide +kernel
theorem d_Row_isKeyAt_12 : decode b_Row_isKeyAt 12 = .ok (.iload_n 1, 1) := by decide +kernel
theorem d_Row_isKeyAt_13 : decode b_Row_isKeyAt 13 = .ok (.iaload, 1) := by decide +kernel
theorem d_Row_isKeyAt_14 : decode b_Row_isKeyAt 14 = .ok (.iload_n 2, 1) := by decide +kernel
theorem d_Row_isKeyAt_15 : decode b_Row_isKeyAt 15 = .ok (.if_icmp .ne 7, 3) := by decide +kernel
theorem d_Row_isKeyAt_18 : decode b_Row_isKeyAt 18 = .ok (.iconst 1, 1) := by decide +kernel
theorem d_Row_isKeyAt_19 : decode b_Row_isKeyAt 19 = .ok (.goto 4, 3) := by decide +kernel
theorem d_Row_isKeyAt_22 : decode b_Row_isKeyAt 22 = .ok (.iconst 0, 1) := by decide +kernel
theorem d_Row_isKeyAt_23 : decode b_Row_isKeyAt 23 = .ok (.ireturn, 1) := by decide +kernel
theorem d_Row_weightOf_0 : decode b_Row_weightOf 0 = .ok (.aload_n 0, 1) := by decide +kernel
theorem d_Row_weightOf_1 : decode b_Row_weightOf 1 = .ok (.iload_n 1, 1) := by decide +kernel
theorem d_Row_weightOf_2 : decode b_Row_weightOf 2 = .ok (.invokevirtual 25, 3) := by decide +kernel
theorem d_Row_weightOf_5 : decode b_Row_weightOf 5 = .ok (.istore_n 2, 1) := by decide +kernel
theorem d_Row_weightOf_6 : decode b_Row_weightOf 6 = .ok (.aload_n 0, 1) := by decide +kernel
theorem d_Row_weightOf_7 : decode b_Row_weightOf 7 = .ok (.iload_n 2, 1) := by decide +kernel
theorem d_Row_weightOf_8 : decode b_Row_weightOf 8 = .ok (.iload_n 1, 1) := by decide +kernel
theorem d_Row_weightOf_9 : decode b_Row_weightOf 9 = .ok (.invokevirtual 29, 3) := by decide +kernel
theorem d_Row_weightOf_12 : decode b_Row_weightOf 12 = .ok (.ifCond .eq 12, 3) := by decide +kernel
theorem d_Row_weightOf_15 : decode b_Row_weightOf 15 = .ok (.aload_n 0, 1) := by decide +kernel
theorem d_Row_weightOf_16 : decode b_Row_weightOf 16 = .ok (.getfield 18, 3) := by decide +kernel
theorem d_Row_weightOf_19 : decode b_Row_weightOf 19 = .ok (.iload_n 2, 1) := by decide +kernel
theorem d_Row_weightOf_20 : decode b_Row_weightOf 20 = .ok (.iaload, 1) := by decide +kernel
theorem d_Row_weightOf_21 : decode b_Row_weightOf 21 = .ok (.goto 4, 3) := by decide +kernel
theorem d_Row_weightOf_24 : decode b_Row_weightOf 24 = .ok (.iconst 0, 1) := by decide +kernel
theorem d_Row_weightOf_25 : decode b_Row_weightOf 25 = .ok (.ireturn, 1) := by decide +kernel
theorem d_Row_keep_0 : decode b_Row_keep 0 = .ok (.aload_n 0, 1) := by decide +kernel
theorem d_Row_keep_1 : decode b_Row_keep 1 = .ok (.iload_n 1, 1) := by decide +kernel
theorem d_Row_keep_2 : decode b_Row_keep 2 = .ok (.invokevirtual 25, 3) := by decide +kernel
theorem d_Row_keep_5 : decode b_Row_keep 5 = .ok (.istore 4, 2) := by decide +kernel
theorem d_Row_keep_7 : decode b_Row_keep 7 = .ok (.aload_n 0, 1) := by decide +kernel
theorem d_Row_keep_8 : decode b_Row_keep 8 = .ok (.iload 4, 2) := by decide +kernel
theorem d_Row_keep_10 : decode b_Row_keep 10 = .ok (.iload_n 1, 1) := by decide +kernel
theorem d_Row_keep_11 : decode b_Row_keep 11 = .ok (.invokevirtual 29, 3) := by decide +kernel
theorem d_Row_keep_14 : decode b_Row_keep 14 = .ok (.ifCond .ne 31, 3) := by decide +kernel
theorem d_Row_keep_17 : decode b_Row_keep 17 = .ok (.aload_n 0, 1) := by decide +kernel
theorem d_Row_keep_18 : decode b_Row_keep 18 = .ok (.invokevirtual 33, 3) := by decide +kernel
theorem d_Row_keep_21 : decode b_Row_keep 21 = .ok (.ifCond .eq 4, 3) := by decide +kernel
theorem d_Row_keep_24 : decode b_Row_keep 24 = .ok (.return_, 1) := by decide +kernel
theorem d_Row_keep_25 : decode b_Row_keep 25 = .ok (.aload_n 0, 1) := by decide +kernel
theorem d_Row_keep_26 : decode b_Row_keep 26 = .ok (.iload 4, 2) := by decide +kernel
theorem d_Row_keep_28 : decode b_Row_keep 28 = .ok (.iload 4, 2) := by decide +kernel
theorem d_Row_keep_30 : decode b_Row_keep 30 = .ok (.iconst 1, 1) := by decide +kernel
theorem d_Row_keep_31 : decode b_Row_keep 31 = .ok (.iadd, 1) := by decide +kernel
theorem d_Row_keep_32 : decode b_Row_keep 32 = .ok (.invokevirtual 37, 3) := by decide +kernel
theorem d_Row_keep_35 : decode b_Row_keep 35 = .ok (.aload_n 0, 1) := by decide +kernel
theorem d_Row_keep_36 : decode b_Row_keep 36 = .ok (.dup, 1) := by decide +kernel
theorem d_Row_keep_37 : decode b_Row_keep 37 = .ok (.getfield 21, 3) := by decide +kernel
theorem d_Row_keep_40 : decode b_Row_keep 40 = .ok (.iconst 1, 1) := by decide +kernel
theorem d_Row_keep_41 : decode b_Row_keep 41 = .ok (.iadd, 1) := by decide +kernel
theorem d_Row_keep_42 : decode b_Row_keep 42 = .ok (.putfield 21, 3) := by decide +kernel
theorem d_Row_keep_45 : decode b_Row_keep 45 = .ok (.aload_n 0, 1) := by decide +kernel
theorem d_Row_keep_46 : decode b_Row_keep 46 = .ok (.getfield 9, 3) := by decide +kernel
theorem d_Row_keep_49 : decode b_Row_keep 49 = .ok (.iload 4, 2) := by decide +kernel
theorem d_Row_keep_51 : decode b_Row_keep 51 = .ok (.iload_n 1, 1) := by decide +kernel
theorem d_Row_keep_52 : decode b_Row_keep 52 = .ok (.iastore, 1) := by decide +kernel
theorem d_Row_keep_53 : decode b_Row_keep 53 = .ok (.aload_n 0, 1) := by decide +kernel
theorem d_Row_keep_54 : decode b_Row_keep 54 = .ok (.getfield 15, 3) := by decide +kernel
theorem d_Row_keep_57 : decode b_Row_keep 57 = .ok (.iload 4, 2) := by decide +kernel
theorem d_Row_keep_59 : decode b_Row_keep 59 = .ok (.iload_n 2, 1) := by decide +kernel
theorem d_Row_keep_60 : decode b_Row_keep 60 = .ok (.iastore, 1) := by decide +kernel
theorem d_Row_keep_61 : decode b_Row_keep 61 = .ok (.aload_n 0, 1) := by decide +kernel
theorem d_Row_keep_62 : decode b_Row_keep 62 = .ok (.getfield 18, 3) := by decide +kernel
theorem d_Row_keep_65 : decode b_Row_keep 65 = .ok (.iload 4, 2) := by decide +kernel
theorem d_Row_keep_67 : decode b_Row_keep 67 = .ok (.iload_n 3, 1) := by decide +kernel
theorem d_Row_keep_68 : decode b_Row_keep 68 = .ok (.iastore, 1) := by decide +kernel
theorem d_Row_keep_69 : decode b_Row_keep 69 = .ok (.return_, 1) := by decide +kernel
theorem d_Row_drop_0 : decode b_Row_drop 0 = .ok (.aload_n 0, 1) := by decide +kernel
theorem d_Row_drop_1 : decode b_Row_drop 1 = .ok (.iload_n 1, 1) := by decide +kernel
theorem d_Row_drop_2 : decode b_Row_drop 2 = .ok (.invokevirtual 25, 3) := by decide +kernel
theorem d_Row_drop_5 : decode b_Row_drop 5 = .ok (.istore_n 2, 1) := by decide +kernel
theorem d_Row_drop_6 : decode b_Row_drop 6 = .ok (.aload_n 0, 1) := by decide +kernel
theorem d_Row_drop_7 : decode b_Row_drop 7 = .ok (.iload_n 2, 1) := by decide +kernel
theorem d_Row_drop_8 : decode b_Row_drop 8 = .ok (.iload_n 1, 1) := by decide +kernel
theorem d_Row_drop_9 : decode b_Row_drop 9 = .ok (.invokevirtual 29, 3) := by decide +kernel
theorem d_Row_drop_12 : decode b_Row_drop 12 = .ok (.ifCond .eq 21, 3) := by decide +kernel
theorem d_Row_drop_15 : decode b_Row_drop 15 = .ok (.aload_n 0, 1) := by decide +kernel
theorem d_Row_drop_16 : decode b_Row_drop 16 = .ok (.iload_n 2, 1) := by decide +kernel
theorem d_Row_drop_17 : decode b_Row_drop 17 = .ok (.iconst 1, 1) := by decide +kernel
theorem d_Row_drop_18 : decode b_Row_drop 18 = .ok (.iadd, 1) := by decide +kernel
theorem d_Row_drop_19 : decode b_Row_drop 19 = .ok (.iload_n 2, 1) := by decide +kernel
theorem d_Row_drop_20 : decode b_Row_drop 20 = .ok (.invokevirtual 37, 3) := by decide +kernel
theorem d_Row_drop_23 : decode b_Row_drop 23 = .ok (.aload_n 0, 1) := by decide +kernel
theorem d_Row_drop_24 : decode b_Row_drop 24 = .ok (.dup, 1) := by decide +kernel
theorem d_Row_drop_25 : decode b_Row_drop 25 = .ok (.getfield 21, 3) := by decide +kernel
theorem d_Row_drop_28 : decode b_Row_drop 28 = .ok (.iconst 1, 1) := by decide +kernel
theorem d_Row_drop_29 : decode b_Row_drop 29 = .ok (.isub, 1) := by decide +kernel
theorem d_Row_drop_30 : decode b_Row_drop 30 = .ok (.putfield 21, 3) := by decide +kernel
theorem d_Row_drop_33 : decode b_Row_drop 33 = .ok (.return_, 1) := by decide +kernel
theorem d_Row_moveTail_0 : decode b_Row_moveTail 0 = .ok (.aload_n 0, 1) := by decide +kernel
theorem d_Row_moveTail_1 : decode b_Row_moveTail 1 = .ok (.getfield 21, 3) := by decide +kernel
theorem d_Row_moveTail_4 : decode b_Row_moveTail 4 = .ok (.iload_n 1, 1) := by decide +kernel
theorem d_Row_moveTail_5 : decode b_Row_moveTail 5 = .ok (.isub, 1) := by decide +kernel
theorem d_Row_moveTail_6 : decode b_Row_moveTail 6 = .ok (.istore_n 3, 1) := by decide +kernel
theorem d_Row_moveTail_7 : decode b_Row_moveTail 7 = .ok (.aload_n 0, 1) := by decide +kernel
theorem d_Row_moveTail_8 : decode b_Row_moveTail 8 = .ok (.getfield 9, 3) := by decide +kernel
theorem d_Row_moveTail_11 : decode b_Row_moveTail 11 = .ok (.iload_n 1, 1) := by decide +kernel
theorem d_Row_moveTail_12 : decode b_Row_moveTail 12 = .ok (.aload_n 0, 1) := by decide +kernel
theorem d_Row_moveTail_13 : decode b_Row_moveTail 13 = .ok (.getfield 9, 3) := by decide +kernel
theorem d_Row_moveTail_16 : decode b_Row_moveTail 16 = .ok (.iload_n 2, 1) := by decide +kernel
theorem d_Row_moveTail_17 : decode b_Row_moveTail 17 = .ok (.iload_n 3, 1) := by decide +kernel
theorem d_Row_moveTail_18 : decode b_Row_moveTail 18 = .ok (.invokestatic 41, 3) := by decide +kernel
theorem d_Row_moveTail_21 : decode b_Row_moveTail 21 = .ok (.aload_n 0, 1) := by decide +kernel
theorem d_Row_moveTail_22 : decode b_Row_moveTail 22 = .ok (.getfield 15, 3) := by decide +kernel
theorem d_Row_moveTail_25 : decode b_Row_moveTail 25 = .ok (.iload_n 1, 1) := by decide +kernel
theorem d_Row_moveTail_26 : decode b_Row_moveTail 26 = .ok (.aload_n 0, 1) := by decide +kernel
theorem d_Row_moveTail_27 : decode b_Row_moveTail 27 = .ok (.getfield 15, 3) := by decide +kernel
theorem d_Row_moveTail_30 : decode b_Row_moveTail 30 = .ok (.iload_n 2, 1) := by decide +kernel
theorem d_Row_moveTail_31 : decode b_Row_moveTail 31 = .ok (.iload_n 3, 1) := by decide +kernel
theorem d_Row_moveTail_32 : decode b_Row_moveTail 32 = .ok (.invokestatic 41, 3) := by decide +kernel
theorem d_Row_moveTail_35 : decode b_Row_moveTail 35 = .ok (.aload_n 0, 1) := by decide +kernel
theorem d_Row_moveTail_36 : decode b_Row_moveTail 36 = .ok (.getfield 18, 3) := by decide +kernel
theorem d_Row_moveTail_39 : decode b_Row_moveTail 39 = .ok (.iload_n 1, 1) := by decide +kernel
theorem d_Row_moveTail_40 : decode b_Row_moveTail 40 = .ok (.aload_n 0, 1) := by decide +kernel
theorem d_Row_moveTail_41 : decode b_Row_moveTail 41 = .ok (.getfield 18, 3) := by decide +kernel
theorem d_Row_moveTail_44 : decode b_Row_moveTail 44 = .ok (.iload_n 2, 1) := by decide +kernel
theorem d_Row_moveTail_45 : decode b_Row_moveTail 45 = .ok (.iload_n 3, 1) := by decide +kernel
theorem d_Row_moveTail_46 : decode b_Row_moveTail 46 = .ok (.invokestatic 41, 3) := by decide +kernel
theorem d_Row_moveTail_49 : decode b_Row_moveTail 49 = .ok (.return_, 1) := by decide +kernel
theorem d_RW_init_0 : decode b_RW_init 0 = .ok (.aload_n 0, 1) := by decide +kernel
theorem d_RW_init_1 : decode b_RW_init 1 = .ok (.invokespecial 3, 3) := by decide +kernel
theorem d_RW_init_4 : decode b_RW_init 4 = .ok (.aload_n 0, 1) := by decide +kernel
theorem d_RW_init_5 : decode b_RW_init 5 = .ok (.iconst 0, 1) := by decide +kernel
theorem d_RW_init_6 : decode b_RW_init 6 = .ok (.putfield 9, 3) := by decide +kernel
theorem d_RW_init_9 : decode b_RW_init 9 = .ok (.aload_n 0, 1) := by decide +kernel
theorem d_RW_init_10 : decode b_RW_init 10 = .ok (.iconst (-1), 1) := by decide +kernel
theorem d_RW_init_11 : decode b_RW_init 11 = .ok (.putfield 15, 3) := by decide +kernel
theorem d_RW_init_14 : decode b_RW_init 14 = .ok (.aload_n 0, 1) := by decide +kernel
theorem d_RW_init_15 : decode b_RW_init 15 = .ok (.iconst (-1), 1) := by decide +kernel
theorem d_RW_init_16 : decode b_RW_init 16 = .ok (.putfield 18, 3) := by decide +kernel
theorem d_RW_init_19 : decode b_RW_init 19 = .ok (.aload_n 0, 1) := by decide +kernel
theorem d_RW_init_20 : decode b_RW_init 20 = .ok (.iconst (-1), 1) := by decide +kernel
theorem d_RW_init_21 : decode b_RW_init 21 = .ok (.putfield 21, 3) := by decide +kernel
theorem d_RW_init_24 : decode b_RW_init 24 = .ok (.aload_n 0, 1) := by decide +kernel
theorem d_RW_init_25 : decode b_RW_init 25 = .ok (.aload_n 1, 1) := by decide +kernel
theorem d_RW_init_26 : decode b_RW_init 26 = .ok (.putfield 24, 3) := by decide +kernel
theorem d_RW_init_29 : decode b_RW_init 29 = .ok (.aload_n 0, 1) := by decide +kernel
theorem d_RW_init_30 : decode b_RW_init 30 = .ok (.iload_n 2, 1) := by decide +kernel
theorem d_RW_init_31 : decode b_RW_init 31 = .ok (.putfield 28, 3) := by decide +kernel
theorem d_RW_init_34 : decode b_RW_init 34 = .ok (.return_, 1) := by decide +kernel
theorem d_RW_visit_0 : decode b_RW_visit 0 = .ok (.iload_n 1, 1) := by decide +kernel
theorem d_RW_visit_1 : decode b_RW_visit 1 = .ok (.ifCond .lt 19, 3) := by decide +kernel
theorem d_RW_visit_4 : decode b_RW_visit 4 = .ok (.aload_n 0, 1) := by decide +kernel
theorem d_RW_visit_5 : decode b_RW_visit 5 = .ok (.getfield 24, 3) := by decide +kernel
theorem d_RW_visit_8 : decode b_RW_visit 8 = .ok (.iload_n 3, 1) := by decide +kernel
theorem d_RW_visit_9 : decode b_RW_visit 9 = .ok (.iload 4, 2) := by decide +kernel
theorem d_RW_visit_11 : decode b_RW_visit 11 = .ok (.iconst 1, 1) := by decide +kernel
theorem d_RW_visit_12 : decode b_RW_visit 12 = .ok (.iload_n 1, 1) := by decide +kernel
theorem d_RW_visit_13 : decode b_RW_visit 13 = .ok (.ishl, 1) := by decide +kernel
theorem d_RW_visit_14 : decode b_RW_visit 14 = .ok (.invokevirtual 31, 3) := by decide +kernel
theorem d_RW_visit_17 : decode b_RW_visit 17 = .ok (.ifCond .eq 4, 3) := by decide +kernel
theorem d_RW_visit_20 : decode b_RW_visit 20 = .ok (.return_, 1) := by decide +kernel
theorem d_RW_visit_21 : decode b_RW_visit 21 = .ok (.aload_n 0, 1) := by decide +kernel
theorem d_RW_visit_22 : decode b_RW_visit 22 = .ok (.getfield 24, 3) := by decide +kernel
theorem d_RW_visit_25 : decode b_RW_visit 25 = .ok (.iload_n 3, 1) := by decide +kernel
theorem d_RW_visit_26 : decode b_RW_visit 26 = .ok (.iload 4, 2) := by decide +kernel
theorem d_RW_visit_28 : decode b_RW_visit 28 = .ok (.iconst 1, 1) := by decide +kernel
theorem d_RW_visit_29 : decode b_RW_visit 29 = .ok (.iload_n 1, 1) := by decide +kernel
theorem d_RW_visit_30 : decode b_RW_visit 30 = .ok (.ishl, 1) := by decide +kernel
theorem d_RW_visit_31 : decode b_RW_visit 31 = .ok (.invokevirtual 37, 3) := by decide +kernel
theorem d_RW_visit_34 : decode b_RW_visit 34 = .ok (.ifCond .eq 20, 3) := by decide +kernel
theorem d_RW_visit_37 : decode b_RW_visit 37 = .ok (.aload_n 0, 1) := by decide +kernel
theorem d_RW_visit_38 : decode b_RW_visit 38 = .ok (.iload 5, 2) := by decide +kernel
theorem d_RW_visit_40 : decode b_RW_visit 40 = .ok (.iload 5, 2) := by decide +kernel
theorem d_RW_visit_42 : decode b_RW_visit 42 = .ok (.iconst 1, 1) := by decide +kernel
theorem d_RW_visit_43 : decode b_RW_visit 43 = .ok (.iconst 2, 1) := by decide +kernel
theorem d_RW_visit_44 : decode b_RW_visit 44 = .ok (.iload_n 1, 1) := by decide +kernel
theorem d_RW_visit_45 : decode b_RW_visit 45 = .ok (.imul, 1) := by decide +kernel
theorem d_RW_visit_46 : decode b_RW_visit 46 = .ok (.ishl, 1) := by decide +kernel
theorem d_RW_visit_47 : decode b_RW_visit 47 = .ok (.iadd, 1) := by decide +kernel
theorem d_RW_visit_48 : decode b_RW_visit 48 = .ok (.iconst 1, 1) := by decide +kernel
theorem d_RW_visit_49 : decode b_RW_visit 49 = .ok (.isub, 1) := by decide +kernel
theorem d_RW_visit_50 : decode b_RW_visit 50 = .ok (.invokevirtual 40, 3) := by decide +kernel
theorem d_RW_visit_53 : decode b_RW_visit 53 = .ok (.return_, 1) := by decide +kernel
theorem d_RW_visit_54 : decode b_RW_visit 54 = .ok (.iload_n 1, 1) := by decide +kernel
theorem d_RW_visit_55 : decode b_RW_visit 55 = .ok (.iconst 1, 1) := by decide +kernel
theorem d_RW_visit_56 : decode b_RW_visit 56 = .ok (.isub, 1) := by decide +kernel
theorem d_RW_visit_57 : decode b_RW_visit 57 = .ok (.istore 6, 2) := by decide +kernel
theorem d_RW_visit_59 : decode b_RW_visit 59 = .ok (.iconst 0, 1) := by decide +kernel
theorem d_RW_visit_60 : decode b_RW_visit 60 = .ok (.istore 7, 2) := by decide +kernel
theorem d_RW_visit_62 : decode b_RW_visit 62 = .ok (.iload 7, 2) := by decide +kernel
theorem d_RW_visit_64 : decode b_RW_visit 64 = .ok (.iconst 4, 1) := by decide +kernel
theorem d_RW_visit_65 : decode b_RW_visit 65 = .ok (.if_icmp .ge 66, 3) := by decide +kernel
theorem d_RW_visit_68 : decode b_RW_visit 68 = .ok (.getstatic 44, 3) := by decide +kernel
theorem d_RW_visit_71 : decode b_RW_visit 71 = .ok (.iconst 4, 1) := by decide +kernel
theorem d_RW_visit_72 : decode b_RW_visit 72 = .ok (.iload_n 2, 1) := by decide +kernel
theorem d_RW_visit_73 : decode b_RW_visit 73 = .ok (.imul, 1) := by decide +kernel
theorem d_RW_visit_74 : decode b_RW_visit 74 = .ok (.iload 7, 2) := by decide +kernel
theorem d_RW_visit_76 : decode b_RW_visit 76 = .ok (.iadd, 1) := by decide +kernel
theorem d_RW_visit_77 : decode b_RW_visit 77 = .ok (.iaload, 1) := by decide +kernel
theorem d_RW_visit_78 : decode b_RW_visit 78 = .ok (.istore 8, 2) := by decide +kernel
theorem d_RW_visit_80 : decode b_RW_visit 80 = .ok (.aload_n 0, 1) := by decide +kernel
theorem d_RW_visit_81 : decode b_RW_visit 81 = .ok (.iload 6, 2) := by decide +kernel
theorem d_RW_visit_83 : decode b_RW_visit 83 = .ok (.getstatic 48, 3) := by decide +kernel
theorem d_RW_visit_86 : decode b_RW_visit 86 = .ok (.iconst 4, 1) := by decide +kernel
theorem d_RW_visit_87 : decode b_RW_visit 87 = .ok (.iload_n 2, 1) := by decide +kernel
theorem d_RW_visit_88 : decode b_RW_visit 88 = .ok (.imul, 1) := by decide +kernel
theorem d_RW_visit_89 : decode b_RW_visit 89 = .ok (.iload 7, 2) := by decide +kernel
theorem d_RW_visit_91 : decode b_RW_visit 91 = .ok (.iadd, 1) := by decide +kernel
theorem d_RW_visit_92 : decode b_RW_visit 92 = .ok (.iaload, 1) := by decide +kernel
theorem d_RW_visit_93 : decode b_RW_visit 93 = .ok (.iload_n 3, 1) := by decide +kernel
theorem d_RW_visit_94 : decode b_RW_visit 94 = .ok (.iload 8, 2) := by decide +kernel
theorem d_RW_visit_96 : decode b_RW_visit 96 = .ok (.iconst 1, 1) := by decide +kernel
theorem d_RW_visit_97 : decode b_RW_visit 97 = .ok (.ishr, 1) := by decide +kernel
theorem d_RW_visit_98 : decode b_RW_visit 98 = .ok (.iload 6, 2) := by decide +kernel
theorem d_RW_visit_100 : decode b_RW_visit 100 = .ok (.ishl, 1) := by decide +kernel
theorem d_RW_visit_101 : decode b_RW_visit 101 = .ok (.iadd, 1) := by decide +kernel
theorem d_RW_visit_102 : decode b_RW_visit 102 = .ok (.iload 4, 2) := by decide +kernel
theorem d_RW_visit_104 : decode b_RW_visit 104 = .ok (.iload 8, 2) := by decide +kernel
theorem d_RW_visit_106 : decode b_RW_visit 106 = .ok (.iconst 1, 1) := by decide +kernel
theorem d_RW_visit_107 : decode b_RW_visit 107 = .ok (.iand, 1) := by decide +kernel
theorem d_RW_visit_108 : decode b_RW_visit 108 = .ok (.iload 6, 2) := by decide +kernel
theorem d_RW_visit_110 : decode b_RW_visit 110 = .ok (.ishl, 1) := by decide +kernel
theorem d_RW_visit_111 : decode b_RW_visit 111 = .ok (.iadd, 1) := by decide +kernel
theorem d_RW_visit_112 : decode b_RW_visit 112 = .ok (.iload 5, 2) := by decide +kernel
theorem d_RW_visit_114 : decode b_RW_visit 114 = .ok (.iload 7, 2) := by decide +kernel
theorem d_RW_visit_116 : decode b_RW_visit 116 = .ok (.iconst 2, 1) := by decide +kernel
theorem d_RW_visit_117 : decode b_RW_visit 117 = .ok (.iload 6, 2) := by decide +kernel
theorem d_RW_visit_119 : decode b_RW_visit 119 = .ok (.imul, 1) := by decide +kernel
theorem d_RW_visit_120 : decode b_RW_visit 120 = .ok (.ishl, 1) := by decide +kernel
theorem d_RW_visit_121 : decode b_RW_visit 121 = .ok (.iadd, 1) := by decide +kernel
theorem d_RW_visit_122 : decode b_RW_visit 122 = .ok (.invokestatic 51, 3) := by decide +kernel
theorem d_RW_visit_125 : decode b_RW_visit 125 = .ok (.iinc 7 1, 3) := by decide +kernel
theorem d_RW_visit_128 : decode b_RW_visit 128 = .ok (.goto (-66), 3) := by decide +kernel
theorem d_RW_visit_131 : decode b_RW_visit 131 = .ok (.return_, 1) := by decide +kernel
theorem d_RW_join_0 : decode b_RW_join 0 = .ok (.aload_n 0, 1) := by decide +kernel
theorem d_RW_join_1 : decode b_RW_join 1 = .ok (.getfield 9, 3) := by decide +kernel
theorem d_RW_join_4 : decode b_RW_join 4 = .ok (.ifCond .eq 13, 3) := by decide +kernel
theorem d_RW_join_7 : decode b_RW_join 7 = .ok (.iload_n 1, 1) := by decide +kernel
theorem d_RW_join_8 : decode b_RW_join 8 = .ok (.aload_n 0, 1) := by decide +kernel
theorem d_RW_join_9 : decode b_RW_join 9 = .ok (.getfield 15, 3) := by decide +kernel
theorem d_RW_join_12 : decode b_RW_join 12 = .ok (.iconst 1, 1) := by decide +kernel
theorem d_RW_join_13 : decode b_RW_join 13 = .ok (.iadd, 1) := by decide +kernel
theorem d_RW_join_14 : decode b_RW_join 14 = .ok (.if_icmp .eq 31, 3) := by decide +kernel
theorem d_RW_join_17 : decode b_RW_join 17 = .ok (.aload_n 0, 1) := by decide +kernel
theorem d_RW_join_18 : decode b_RW_join 18 = .ok (.dup, 1) := by decide +kernel
theorem d_RW_join_19 : decode b_RW_join 19 = .ok (.getfield 9, 3) := by decide +kernel
theorem d_RW_join_22 : decode b_RW_join 22 = .ok (.iconst 1, 1) := by decide +kernel
theorem d_RW_join_23 : decode b_RW_join 23 = .ok (.iadd, 1) := by decide +kernel
theorem d_RW_join_24 : decode b_RW_join 24 = .ok (.putfield 9, 3) := by decide +kernel
theorem d_RW_join_27 : decode b_RW_join 27 = .ok (.aload_n 0, 1) := by decide +kernel
theorem d_RW_join_28 : decode b_RW_join 28 = .ok (.getfield 9, 3) := by decide +kernel
theorem d_RW_join_31 : decode b_RW_join 31 = .ok (.iconst 1, 1) := by decide +kernel
theorem d_RW_join_32 : decode b_RW_join 32 = .ok (.isub, 1) := by decide +kernel
theorem d_RW_join_33 : decode b_RW_join 33 = .ok (.aload_n 0, 1) := by decide +kernel
theorem d_RW_join_34 : decode b_RW_join 34 = .ok (.getfield 28, 3) := by decide +kernel
theorem d_RW_join_37 : decode b_RW_join 37 = .ok (.if_icmp .ne 8, 3) := by decide +kernel
theorem d_RW_join_40 : decode b_RW_join 40 = .ok (.aload_n 0, 1) := by decide +kernel
theorem d_RW_join_41 : decode b_RW_join 41 = .ok (.iload_n 1, 1) := by decide +kernel
theorem d_RW_join_42 : decode b_RW_join 42 = .ok (.putfield 18, 3) := by decide +kernel
theorem d_RW_join_45 : decode b_RW_join 45 = .ok (.aload_n 0, 1) := by decide +kernel
theorem d_RW_join_46 : decode b_RW_join 46 = .ok (.getfield 9, 3) := by decide +kernel
theorem d_RW_join_49 : decode b_RW_join 49 = .ok (.iconst 1, 1) := by decide +kernel
theorem d_RW_join_50 : decode b_RW_join 50 = .ok (.isub, 1) := by decide +kernel
theorem d_RW_join_51 : decode b_RW_join 51 = .ok (.aload_n 0, 1) := by decide +kernel
theorem d_RW_join_52 : decode b_RW_join 52 = .ok (.getfield 28, 3) := by decide +kernel
theorem d_RW_join_55 : decode b_RW_join 55 = .ok (.if_icmp .ne 8, 3) := by decide +kernel
theorem d_RW_join_58 : decode b_RW_join 58 = .ok (.aload_n 0, 1) := by decide +kernel
theorem d_RW_join_59 : decode b_RW_join 59 = .ok (.iload_n 2, 1) := by decide +kernel
theorem d_RW_join_60 : decode b_RW_join 60 = .ok (.putfield 21, 3) := by decide +kernel
theorem d_RW_join_63 : decode b_RW_join 63 = .ok (.aload_n 0, 1) := by decide +kernel
theorem d_RW_join_64 : decode b_RW_join 64 = .ok (.iload_n 2, 1) := by decide +kernel
theorem d_RW_join_65 : decode b_RW_join 65 = .ok (.putfield 15, 3) := by decide +kernel
theorem d_RW_join_68 : decode b_RW_join 68 = .ok (.return_, 1) := by decide +kernel
