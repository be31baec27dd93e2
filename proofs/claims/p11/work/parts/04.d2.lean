theorem dX12_count_105 : decode cX12_count 105 = .ok (.iaload, 1) := dec_0 oX12_count (of46 _) rfl
theorem dX12_count_106 : decode cX12_count 106 = .ok (.ireturn, 1) := dec_0 oX12_count (of172 _) rfl
theorem dX12_count_107 : decode cX12_count 107 = .ok (.aload_n 0, 1) := dec_0 oX12_count (of42 _) rfl
theorem dX12_count_108 : decode cX12_count 108 = .ok (.getfield 70, 3) := dec_2 oX12_count (of180 _) 0 70 rfl rfl
theorem dX12_count_111 : decode cX12_count 111 = .ok (.sipush 162, 3) := dec_s2 oX12_count (of17 _) 0 162 rfl (sg16p rfl) rfl
theorem dX12_count_114 : decode cX12_count 114 = .ok (.iaload, 1) := dec_0 oX12_count (of46 _) rfl
theorem dX12_count_115 : decode cX12_count 115 = .ok (.ireturn, 1) := dec_0 oX12_count (of172 _) rfl
theorem dX12_count_116 : decode cX12_count 116 = .ok (.aload_n 0, 1) := dec_0 oX12_count (of42 _) rfl
theorem dX12_count_117 : decode cX12_count 117 = .ok (.getfield 70, 3) := dec_2 oX12_count (of180 _) 0 70 rfl rfl
theorem dX12_count_120 : decode cX12_count 120 = .ok (.sipush 163, 3) := dec_s2 oX12_count (of17 _) 0 163 rfl (sg16p rfl) rfl
theorem dX12_count_123 : decode cX12_count 123 = .ok (.iaload, 1) := dec_0 oX12_count (of46 _) rfl
theorem dX12_count_124 : decode cX12_count 124 = .ok (.ireturn, 1) := dec_0 oX12_count (of172 _) rfl
theorem dX12_count_125 : decode cX12_count 125 = .ok (.aload_n 0, 1) := dec_0 oX12_count (of42 _) rfl
theorem dX12_count_126 : decode cX12_count 126 = .ok (.getfield 70, 3) := dec_2 oX12_count (of180 _) 0 70 rfl rfl
theorem dX12_count_129 : decode cX12_count 129 = .ok (.sipush 164, 3) := dec_s2 oX12_count (of17 _) 0 164 rfl (sg16p rfl) rfl
theorem dX12_count_132 : decode cX12_count 132 = .ok (.iaload, 1) := dec_0 oX12_count (of46 _) rfl
theorem dX12_count_133 : decode cX12_count 133 = .ok (.ireturn, 1) := dec_0 oX12_count (of172 _) rfl
theorem dX12_count_134 : decode cX12_count 134 = .ok (.aload_n 0, 1) := dec_0 oX12_count (of42 _) rfl
theorem dX12_count_135 : decode cX12_count 135 = .ok (.aload_n 0, 1) := dec_0 oX12_count (of42 _) rfl
theorem dX12_count_136 : decode cX12_count 136 = .ok (.getfield 70, 3) := dec_2 oX12_count (of180 _) 0 70 rfl rfl
theorem dX12_count_139 : decode cX12_count 139 = .ok (.iconst 0, 1) := dec_0 oX12_count (of3 _) rfl
theorem dX12_count_140 : decode cX12_count 140 = .ok (.iaload, 1) := dec_0 oX12_count (of46 _) rfl
theorem dX12_count_141 : decode cX12_count 141 = .ok (.iconst 1, 1) := dec_0 oX12_count (of4 _) rfl
theorem dX12_count_142 : decode cX12_count 142 = .ok (.isub, 1) := dec_0 oX12_count (of100 _) rfl
theorem dX12_count_143 : decode cX12_count 143 = .ok (.iload_n 2, 1) := dec_0 oX12_count (of28 _) rfl
theorem dX12_count_144 : decode cX12_count 144 = .ok (.isub, 1) := dec_0 oX12_count (of100 _) rfl
theorem dX12_count_145 : decode cX12_count 145 = .ok (.invokevirtual 320, 3) := dec_2 oX12_count (of182 _) 1 64 rfl rfl
theorem dX12_count_148 : decode cX12_count 148 = .ok (.ifCond .eq 9, 3) := dec_s2 oX12_count (of153 _) 0 9 rfl (sg16p rfl) rfl
theorem dX12_count_157 : decode cX12_count 157 = .ok (.iload_n 2, 1) := dec_0 oX12_count (of28 _) rfl
theorem dX12_count_158 : decode cX12_count 158 = .ok (.ireturn, 1) := dec_0 oX12_count (of172 _) rfl
theorem dX12_count_159 : decode cX12_count 159 = .ok (.aload_n 0, 1) := dec_0 oX12_count (of42 _) rfl
theorem dX12_count_160 : decode cX12_count 160 = .ok (.getfield 124, 3) := dec_2 oX12_count (of180 _) 0 124 rfl rfl
theorem dX12_count_163 : decode cX12_count 163 = .ok (.ireturn, 1) := dec_0 oX12_count (of172 _) rfl
theorem dX12_count_164 : decode cX12_count 164 = .ok (.aload_n 0, 1) := dec_0 oX12_count (of42 _) rfl
theorem dX12_count_165 : decode cX12_count 165 = .ok (.getfield 209, 3) := dec_2 oX12_count (of180 _) 0 209 rfl rfl
theorem dX12_count_168 : decode cX12_count 168 = .ok (.ireturn, 1) := dec_0 oX12_count (of172 _) rfl
theorem dX12_count_169 : decode cX12_count 169 = .ok (.iconst 0, 1) := dec_0 oX12_count (of3 _) rfl
theorem dX12_count_170 : decode cX12_count 170 = .ok (.istore_n 3, 1) := dec_0 oX12_count (of62 _) rfl
theorem dX12_count_171 : decode cX12_count 171 = .ok (.iload_n 3, 1) := dec_0 oX12_count (of29 _) rfl
theorem dX12_count_172 : decode cX12_count 172 = .ok (.aload_n 0, 1) := dec_0 oX12_count (of42 _) rfl
theorem dX12_count_173 : decode cX12_count 173 = .ok (.getfield 70, 3) := dec_2 oX12_count (of180 _) 0 70 rfl rfl
theorem dX12_count_176 : decode cX12_count 176 = .ok (.iconst 0, 1) := dec_0 oX12_count (of3 _) rfl
theorem dX12_count_177 : decode cX12_count 177 = .ok (.iaload, 1) := dec_0 oX12_count (of46 _) rfl
theorem dX12_count_178 : decode cX12_count 178 = .ok (.if_icmp .ge 28, 3) := dec_s2 oX12_count (of162 _) 0 28 rfl (sg16p rfl) rfl
theorem dX12_count_2 : decode cX12_count 2 = .ok (.iload_n 1, 1) := dec_0 oX12_count (of27 _) rfl
theorem dX12_count_206 : decode cX12_count 206 = .ok (.iload_n 2, 1) := dec_0 oX12_count (of28 _) rfl
theorem dX12_count_207 : decode cX12_count 207 = .ok (.ireturn, 1) := dec_0 oX12_count (of172 _) rfl
theorem dX12_count_208 : decode cX12_count 208 = .ok (.aload_n 0, 1) := dec_0 oX12_count (of42 _) rfl
theorem dX12_count_209 : decode cX12_count 209 = .ok (.getfield 100, 3) := dec_2 oX12_count (of180 _) 0 100 rfl rfl
theorem dX12_count_212 : decode cX12_count 212 = .ok (.iconst 0, 1) := dec_0 oX12_count (of3 _) rfl
theorem dX12_count_213 : decode cX12_count 213 = .ok (.baload, 1) := dec_0 oX12_count (of51 _) rfl
theorem dX12_count_214 : decode cX12_count 214 = .ok (.ifCond .eq 7, 3) := dec_s2 oX12_count (of153 _) 0 7 rfl (sg16p rfl) rfl
theorem dX12_count_221 : decode cX12_count 221 = .ok (.iconst 0, 1) := dec_0 oX12_count (of3 _) rfl
theorem dX12_count_222 : decode cX12_count 222 = .ok (.aload_n 0, 1) := dec_0 oX12_count (of42 _) rfl
theorem dX12_count_223 : decode cX12_count 223 = .ok (.getfield 100, 3) := dec_2 oX12_count (of180 _) 0 100 rfl rfl
theorem dX12_count_226 : decode cX12_count 226 = .ok (.iconst 1, 1) := dec_0 oX12_count (of4 _) rfl
theorem dX12_count_227 : decode cX12_count 227 = .ok (.baload, 1) := dec_0 oX12_count (of51 _) rfl
theorem dX12_count_228 : decode cX12_count 228 = .ok (.ifCond .eq 7, 3) := dec_s2 oX12_count (of153 _) 0 7 rfl (sg16p rfl) rfl
theorem dX12_count_235 : decode cX12_count 235 = .ok (.iconst 0, 1) := dec_0 oX12_count (of3 _) rfl
theorem dX12_count_236 : decode cX12_count 236 = .ok (.iadd, 1) := dec_0 oX12_count (of96 _) rfl
theorem dX12_count_237 : decode cX12_count 237 = .ok (.aload_n 0, 1) := dec_0 oX12_count (of42 _) rfl
theorem dX12_count_238 : decode cX12_count 238 = .ok (.getfield 100, 3) := dec_2 oX12_count (of180 _) 0 100 rfl rfl
theorem dX12_count_241 : decode cX12_count 241 = .ok (.iconst 2, 1) := dec_0 oX12_count (of5 _) rfl
theorem dX12_count_242 : decode cX12_count 242 = .ok (.baload, 1) := dec_0 oX12_count (of51 _) rfl
theorem dX12_count_243 : decode cX12_count 243 = .ok (.ifCond .eq 7, 3) := dec_s2 oX12_count (of153 _) 0 7 rfl (sg16p rfl) rfl
theorem dX12_count_250 : decode cX12_count 250 = .ok (.iconst 0, 1) := dec_0 oX12_count (of3 _) rfl
theorem dX12_count_251 : decode cX12_count 251 = .ok (.iadd, 1) := dec_0 oX12_count (of96 _) rfl
theorem dX12_count_252 : decode cX12_count 252 = .ok (.ireturn, 1) := dec_0 oX12_count (of172 _) rfl
theorem dX12_count_253 : decode cX12_count 253 = .ok (.sipush (-1000), 3) := dec_s2 oX12_count (of17 _) 252 24 rfl (sg16n (k := 1000) rfl) rfl
theorem dX12_count_256 : decode cX12_count 256 = .ok (.istore_n 2, 1) := dec_0 oX12_count (of61 _) rfl
theorem dX12_count_257 : decode cX12_count 257 = .ok (.iconst 0, 1) := dec_0 oX12_count (of3 _) rfl
theorem dX12_count_258 : decode cX12_count 258 = .ok (.istore_n 3, 1) := dec_0 oX12_count (of62 _) rfl
theorem dX12_count_259 : decode cX12_count 259 = .ok (.iload_n 3, 1) := dec_0 oX12_count (of29 _) rfl
theorem dX12_count_260 : decode cX12_count 260 = .ok (.aload_n 0, 1) := dec_0 oX12_count (of42 _) rfl
theorem dX12_count_261 : decode cX12_count 261 = .ok (.getfield 70, 3) := dec_2 oX12_count (of180 _) 0 70 rfl rfl
theorem dX12_count_264 : decode cX12_count 264 = .ok (.iconst 0, 1) := dec_0 oX12_count (of3 _) rfl
theorem dX12_count_265 : decode cX12_count 265 = .ok (.iaload, 1) := dec_0 oX12_count (of46 _) rfl
theorem dX12_count_266 : decode cX12_count 266 = .ok (.if_icmp .ge 38, 3) := dec_s2 oX12_count (of162 _) 0 38 rfl (sg16p rfl) rfl
theorem dX12_count_3 : decode cX12_count 3 = .ok (.tableswitch 375 0 14 #[73, 80, 85, 95, 104, 113, 122, 131, 156, 161, 166, 205, 250, 303, 359], 73) := by decide +kernel
theorem dX12_count_304 : decode cX12_count 304 = .ok (.iload_n 2, 1) := dec_0 oX12_count (of28 _) rfl
theorem dX12_count_305 : decode cX12_count 305 = .ok (.ireturn, 1) := dec_0 oX12_count (of172 _) rfl
theorem dX12_count_306 : decode cX12_count 306 = .ok (.ldc 239, 2) := dec_1 oX12_count (of18 _) 239 rfl rfl
theorem dX12_count_308 : decode cX12_count 308 = .ok (.istore_n 2, 1) := dec_0 oX12_count (of61 _) rfl
theorem dX12_count_309 : decode cX12_count 309 = .ok (.iconst 0, 1) := dec_0 oX12_count (of3 _) rfl
theorem dX12_count_310 : decode cX12_count 310 = .ok (.istore_n 3, 1) := dec_0 oX12_count (of62 _) rfl
theorem dX12_count_311 : decode cX12_count 311 = .ok (.iload_n 3, 1) := dec_0 oX12_count (of29 _) rfl
theorem dX12_count_312 : decode cX12_count 312 = .ok (.aload_n 0, 1) := dec_0 oX12_count (of42 _) rfl
theorem dX12_count_313 : decode cX12_count 313 = .ok (.getfield 70, 3) := dec_2 oX12_count (of180 _) 0 70 rfl rfl
theorem dX12_count_316 : decode cX12_count 316 = .ok (.iconst 0, 1) := dec_0 oX12_count (of3 _) rfl
theorem dX12_count_317 : decode cX12_count 317 = .ok (.iaload, 1) := dec_0 oX12_count (of46 _) rfl
theorem dX12_count_318 : decode cX12_count 318 = .ok (.if_icmp .ge 30, 3) := dec_s2 oX12_count (of162 _) 0 30 rfl (sg16p rfl) rfl
theorem dX12_count_348 : decode cX12_count 348 = .ok (.iload_n 2, 1) := dec_0 oX12_count (of28 _) rfl
theorem dX12_count_349 : decode cX12_count 349 = .ok (.ldc 239, 2) := dec_1 oX12_count (of18 _) 239 rfl rfl
theorem dX12_count_351 : decode cX12_count 351 = .ok (.if_icmp .ne 9, 3) := dec_s2 oX12_count (of160 _) 0 9 rfl (sg16p rfl) rfl
theorem dX12_count_354 : decode cX12_count 354 = .ok (.sipush (-1000), 3) := dec_s2 oX12_count (of17 _) 252 24 rfl (sg16n (k := 1000) rfl) rfl
theorem dX12_count_357 : decode cX12_count 357 = .ok (.goto 4, 3) := dec_s2 oX12_count (of167 _) 0 4 rfl (sg16p rfl) rfl
theorem dX12_count_361 : decode cX12_count 361 = .ok (.ireturn, 1) := dec_0 oX12_count (of172 _) rfl
theorem dX12_count_362 : decode cX12_count 362 = .ok (.aload_n 0, 1) := dec_0 oX12_count (of42 _) rfl
theorem dX12_count_363 : decode cX12_count 363 = .ok (.iload_n 2, 1) := dec_0 oX12_count (of28 _) rfl
theorem dX12_count_364 : decode cX12_count 364 = .ok (.invokevirtual 320, 3) := dec_2 oX12_count (of182 _) 1 64 rfl rfl
theorem dX12_count_367 : decode cX12_count 367 = .ok (.ifCond .eq 9, 3) := dec_s2 oX12_count (of153 _) 0 9 rfl (sg16p rfl) rfl
theorem dX12_count_376 : decode cX12_count 376 = .ok (.iload_n 2, 1) := dec_0 oX12_count (of28 _) rfl
theorem dX12_count_377 : decode cX12_count 377 = .ok (.ireturn, 1) := dec_0 oX12_count (of172 _) rfl
theorem dX12_count_378 : decode cX12_count 378 = .ok (.iconst (-1), 1) := dec_0 oX12_count (of2 _) rfl
theorem dX12_count_379 : decode cX12_count 379 = .ok (.ireturn, 1) := dec_0 oX12_count (of172 _) rfl
theorem dX12_count_76 : decode cX12_count 76 = .ok (.aload_n 0, 1) := dec_0 oX12_count (of42 _) rfl
theorem dX12_count_77 : decode cX12_count 77 = .ok (.getfield 70, 3) := dec_2 oX12_count (of180 _) 0 70 rfl rfl
theorem dX12_count_80 : decode cX12_count 80 = .ok (.iconst 0, 1) := dec_0 oX12_count (of3 _) rfl
theorem dX12_count_81 : decode cX12_count 81 = .ok (.iaload, 1) := dec_0 oX12_count (of46 _) rfl
theorem dX12_count_82 : decode cX12_count 82 = .ok (.ireturn, 1) := dec_0 oX12_count (of172 _) rfl
theorem dX12_count_83 : decode cX12_count 83 = .ok (.aload_n 0, 1) := dec_0 oX12_count (of42 _) rfl
theorem dX12_count_84 : decode cX12_count 84 = .ok (.invokevirtual 391, 3) := dec_2 oX12_count (of182 _) 1 135 rfl rfl
theorem dX12_count_87 : decode cX12_count 87 = .ok (.ireturn, 1) := dec_0 oX12_count (of172 _) rfl
theorem dX12_count_88 : decode cX12_count 88 = .ok (.aload_n 0, 1) := dec_0 oX12_count (of42 _) rfl
theorem dX12_count_89 : decode cX12_count 89 = .ok (.getfield 49, 3) := dec_2 oX12_count (of180 _) 0 49 rfl rfl
theorem dX12_count_92 : decode cX12_count 92 = .ok (.aload_n 0, 1) := dec_0 oX12_count (of42 _) rfl
theorem dX12_count_93 : decode cX12_count 93 = .ok (.getfield 197, 3) := dec_2 oX12_count (of180 _) 0 197 rfl rfl
theorem dX12_count_96 : decode cX12_count 96 = .ok (.iaload, 1) := dec_0 oX12_count (of46 _) rfl
theorem dX12_count_97 : decode cX12_count 97 = .ok (.ireturn, 1) := dec_0 oX12_count (of172 _) rfl
theorem dX12_count_98 : decode cX12_count 98 = .ok (.aload_n 0, 1) := dec_0 oX12_count (of42 _) rfl
theorem dX12_count_99 : decode cX12_count 99 = .ok (.getfield 70, 3) := dec_2 oX12_count (of180 _) 0 70 rfl rfl
theorem dX12_cover_0 : decode cX12_cover 0 = .ok (.aload_n 0, 1) := dec_0 oX12_cover (of42 _) rfl
theorem dX12_cover_1 : decode cX12_cover 1 = .ok (.iload_n 1, 1) := dec_0 oX12_cover (of27 _) rfl
theorem dX12_cover_12 : decode cX12_cover 12 = .ok (.iconst (-1), 1) := dec_0 oX12_cover (of2 _) rfl
theorem dX12_cover_13 : decode cX12_cover 13 = .ok (.ireturn, 1) := dec_0 oX12_cover (of172 _) rfl
theorem dX12_cover_2 : decode cX12_cover 2 = .ok (.invokevirtual 251, 3) := dec_2 oX12_cover (of182 _) 0 251 rfl rfl
theorem dX12_cover_5 : decode cX12_cover 5 = .ok (.ifCond .eq 7, 3) := dec_s2 oX12_cover (of153 _) 0 7 rfl (sg16p rfl) rfl
theorem dX12_cut_0 : decode cX12_cut 0 = .ok (.aload_n 0, 1) := dec_0 oX12_cut (of42 _) rfl
theorem dX12_cut_1 : decode cX12_cut 1 = .ok (.iconst 0, 1) := dec_0 oX12_cut (of3 _) rfl
theorem dX12_cut_11 : decode cX12_cut 11 = .ok (.sipush 400, 3) := dec_s2 oX12_cut (of17 _) 1 144 rfl (sg16p rfl) rfl
theorem dX12_cut_14 : decode cX12_cut 14 = .ok (.if_icmp .gt 280, 3) := dec_s2 oX12_cut (of163 _) 1 24 rfl (sg16p rfl) rfl
theorem dX12_cut_17 : decode cX12_cut 17 = .ok (.aload_n 0, 1) := dec_0 oX12_cut (of42 _) rfl
theorem dX12_cut_18 : decode cX12_cut 18 = .ok (.iload_n 1, 1) := dec_0 oX12_cut (of27 _) rfl
theorem dX12_cut_19 : decode cX12_cut 19 = .ok (.invokevirtual 142, 3) := dec_2 oX12_cut (of182 _) 0 142 rfl rfl
theorem dX12_cut_2 : decode cX12_cut 2 = .ok (.putfield 139, 3) := dec_2 oX12_cut (of181 _) 0 139 rfl rfl
theorem dX12_cut_22 : decode cX12_cut 22 = .ok (.istore_n 2, 1) := dec_0 oX12_cut (of61 _) rfl
theorem dX12_cut_23 : decode cX12_cut 23 = .ok (.iload_n 1, 1) := dec_0 oX12_cut (of27 _) rfl
theorem dX12_cut_24 : decode cX12_cut 24 = .ok (.aload_n 0, 1) := dec_0 oX12_cut (of42 _) rfl
theorem dX12_cut_25 : decode cX12_cut 25 = .ok (.getfield 130, 3) := dec_2 oX12_cut (of180 _) 0 130 rfl rfl
theorem dX12_cut_28 : decode cX12_cut 28 = .ok (.if_icmp .lt 15, 3) := dec_s2 oX12_cut (of161 _) 0 15 rfl (sg16p rfl) rfl
theorem dX12_cut_31 : decode cX12_cut 31 = .ok (.aload_n 0, 1) := dec_0 oX12_cut (of42 _) rfl
theorem dX12_cut_32 : decode cX12_cut 32 = .ok (.iconst 0, 1) := dec_0 oX12_cut (of3 _) rfl
theorem dX12_cut_33 : decode cX12_cut 33 = .ok (.aload_n 0, 1) := dec_0 oX12_cut (of42 _) rfl
theorem dX12_cut_34 : decode cX12_cut 34 = .ok (.getfield 130, 3) := dec_2 oX12_cut (of180 _) 0 130 rfl rfl
theorem dX12_cut_37 : decode cX12_cut 37 = .ok (.iconst 0, 1) := dec_0 oX12_cut (of3 _) rfl
theorem dX12_cut_38 : decode cX12_cut 38 = .ok (.lconst 0, 1) := dec_0 oX12_cut (of9 _) rfl
theorem dX12_cut_39 : decode cX12_cut 39 = .ok (.invokevirtual 146, 3) := dec_2 oX12_cut (of182 _) 0 146 rfl rfl
theorem dX12_cut_42 : decode cX12_cut 42 = .ok (.return_, 1) := dec_0 oX12_cut (of177 _) rfl
theorem dX12_cut_5 : decode cX12_cut 5 = .ok (.iconst 0, 1) := dec_0 oX12_cut (of3 _) rfl
theorem dX12_cut_6 : decode cX12_cut 6 = .ok (.istore_n 1, 1) := dec_0 oX12_cut (of60 _) rfl
theorem dX12_cut_7 : decode cX12_cut 7 = .ok (.aload_n 0, 1) := dec_0 oX12_cut (of42 _) rfl
theorem dX12_cut_8 : decode cX12_cut 8 = .ok (.getfield 139, 3) := dec_2 oX12_cut (of180 _) 0 139 rfl rfl
theorem dX12_distance_0 : decode cX12_distance 0 = .ok (.aload_n 0, 1) := dec_0 oX12_distance (of42 _) rfl
theorem dX12_distance_1 : decode cX12_distance 1 = .ok (.iload_n 1, 1) := dec_0 oX12_distance (of27 _) rfl
theorem dX12_distance_10 : decode cX12_distance 10 = .ok (.ireturn, 1) := dec_0 oX12_distance (of172 _) rfl
theorem dX12_distance_2 : decode cX12_distance 2 = .ok (.iload_n 2, 1) := dec_0 oX12_distance (of28 _) rfl
theorem dX12_distance_3 : decode cX12_distance 3 = .ok (.invokevirtual 342, 3) := dec_2 oX12_distance (of182 _) 1 86 rfl rfl
theorem dX12_distance_6 : decode cX12_distance 6 = .ok (.ifCond .ne 5, 3) := dec_s2 oX12_distance (of154 _) 0 5 rfl (sg16p rfl) rfl
theorem dX12_distance_9 : decode cX12_distance 9 = .ok (.iconst (-1), 1) := dec_0 oX12_distance (of2 _) rfl
theorem dX12_drop_0 : decode cX12_drop 0 = .ok (.iload_n 1, 1) := dec_0 oX12_drop (of27 _) rfl
theorem dX12_drop_1 : decode cX12_drop 1 = .ok (.iconst 1, 1) := dec_0 oX12_drop (of4 _) rfl
theorem dX12_drop_11 : decode cX12_drop 11 = .ok (.ifCond .ne 5, 3) := dec_s2 oX12_drop (of154 _) 0 5 rfl (sg16p rfl) rfl
theorem dX12_drop_14 : decode cX12_drop 14 = .ok (.iconst 0, 1) := dec_0 oX12_drop (of3 _) rfl
theorem dX12_drop_15 : decode cX12_drop 15 = .ok (.ireturn, 1) := dec_0 oX12_drop (of172 _) rfl
theorem dX12_drop_2 : decode cX12_drop 2 = .ok (.aload_n 0, 1) := dec_0 oX12_drop (of42 _) rfl
theorem dX12_drop_3 : decode cX12_drop 3 = .ok (.getfield 70, 3) := dec_2 oX12_drop (of180 _) 0 70 rfl rfl
theorem dX12_drop_6 : decode cX12_drop 6 = .ok (.iconst 0, 1) := dec_0 oX12_drop (of3 _) rfl
theorem dX12_drop_7 : decode cX12_drop 7 = .ok (.iaload, 1) := dec_0 oX12_drop (of46 _) rfl
theorem dX12_drop_8 : decode cX12_drop 8 = .ok (.invokestatic 244, 3) := dec_2 oX12_drop (of184 _) 0 244 rfl rfl
theorem dX12_feed_0 : decode cX12_feed 0 = .ok (.aload_n 0, 1) := dec_0 oX12_feed (of42 _) rfl
theorem dX12_feed_1 : decode cX12_feed 1 = .ok (.getfield 124, 3) := dec_2 oX12_feed (of180 _) 0 124 rfl rfl
theorem dX12_feed_10 : decode cX12_feed 10 = .ok (.if_icmp .le 5, 3) := dec_s2 oX12_feed (of164 _) 0 5 rfl (sg16p rfl) rfl
theorem dX12_feed_15 : decode cX12_feed 15 = .ok (.aload_n 0, 1) := dec_0 oX12_feed (of42 _) rfl
theorem dX12_feed_16 : decode cX12_feed 16 = .ok (.iload_n 1, 1) := dec_0 oX12_feed (of27 _) rfl
theorem dX12_feed_17 : decode cX12_feed 17 = .ok (.invokevirtual 127, 3) := dec_2 oX12_feed (of182 _) 0 127 rfl rfl
theorem dX12_feed_20 : decode cX12_feed 20 = .ok (.aload_n 0, 1) := dec_0 oX12_feed (of42 _) rfl
theorem dX12_feed_21 : decode cX12_feed 21 = .ok (.iload_n 2, 1) := dec_0 oX12_feed (of28 _) rfl
theorem dX12_feed_22 : decode cX12_feed 22 = .ok (.invokevirtual 127, 3) := dec_2 oX12_feed (of182 _) 0 127 rfl rfl
theorem dX12_feed_25 : decode cX12_feed 25 = .ok (.aload_n 0, 1) := dec_0 oX12_feed (of42 _) rfl
theorem dX12_feed_26 : decode cX12_feed 26 = .ok (.iload_n 3, 1) := dec_0 oX12_feed (of29 _) rfl
theorem dX12_feed_27 : decode cX12_feed 27 = .ok (.invokevirtual 127, 3) := dec_2 oX12_feed (of182 _) 0 127 rfl rfl
theorem dX12_feed_30 : decode cX12_feed 30 = .ok (.aload_n 0, 1) := dec_0 oX12_feed (of42 _) rfl
theorem dX12_feed_31 : decode cX12_feed 31 = .ok (.iload 4, 2) := dec_1 oX12_feed (of21 _) 4 rfl rfl
theorem dX12_feed_33 : decode cX12_feed 33 = .ok (.invokevirtual 127, 3) := dec_2 oX12_feed (of182 _) 0 127 rfl rfl
theorem dX12_feed_36 : decode cX12_feed 36 = .ok (.aload_n 0, 1) := dec_0 oX12_feed (of42 _) rfl
theorem dX12_feed_37 : decode cX12_feed 37 = .ok (.iload 5, 2) := dec_1 oX12_feed (of21 _) 5 rfl rfl
theorem dX12_feed_39 : decode cX12_feed 39 = .ok (.invokevirtual 127, 3) := dec_2 oX12_feed (of182 _) 0 127 rfl rfl
theorem dX12_feed_4 : decode cX12_feed 4 = .ok (.bipush 20, 2) := dec_s1 oX12_feed (of16 _) 20 rfl (sg8p rfl) rfl
theorem dX12_feed_42 : decode cX12_feed 42 = .ok (.aload_n 0, 1) := dec_0 oX12_feed (of42 _) rfl
theorem dX12_feed_43 : decode cX12_feed 43 = .ok (.getfield 124, 3) := dec_2 oX12_feed (of180 _) 0 124 rfl rfl
theorem dX12_feed_46 : decode cX12_feed 46 = .ok (.ireturn, 1) := dec_0 oX12_feed (of172 _) rfl
theorem dX12_feed_6 : decode cX12_feed 6 = .ok (.iadd, 1) := dec_0 oX12_feed (of96 _) rfl
theorem dX12_feed_7 : decode cX12_feed 7 = .ok (.sipush 2000, 3) := dec_s2 oX12_feed (of17 _) 7 208 rfl (sg16p rfl) rfl
theorem dX12_fired_0 : decode cX12_fired 0 = .ok (.iload_n 1, 1) := dec_0 oX12_fired (of27 _) rfl
theorem dX12_fired_1 : decode cX12_fired 1 = .ok (.ifCond .ge 5, 3) := dec_s2 oX12_fired (of156 _) 0 5 rfl (sg16p rfl) rfl
theorem dX12_fired_10 : decode cX12_fired 10 = .ok (.iconst 0, 1) := dec_0 oX12_fired (of3 _) rfl
theorem dX12_fired_11 : decode cX12_fired 11 = .ok (.istore_n 2, 1) := dec_0 oX12_fired (of61 _) rfl
theorem dX12_fired_12 : decode cX12_fired 12 = .ok (.iconst 0, 1) := dec_0 oX12_fired (of3 _) rfl
theorem dX12_fired_13 : decode cX12_fired 13 = .ok (.istore_n 3, 1) := dec_0 oX12_fired (of62 _) rfl
theorem dX12_fired_14 : decode cX12_fired 14 = .ok (.iload_n 3, 1) := dec_0 oX12_fired (of29 _) rfl
theorem dX12_fired_15 : decode cX12_fired 15 = .ok (.aload_n 0, 1) := dec_0 oX12_fired (of42 _) rfl
theorem dX12_fired_16 : decode cX12_fired 16 = .ok (.getfield 49, 3) := dec_2 oX12_fired (of180 _) 0 49 rfl rfl
theorem dX12_fired_19 : decode cX12_fired 19 = .ok (.aload_n 0, 1) := dec_0 oX12_fired (of42 _) rfl
theorem dX12_fired_20 : decode cX12_fired 20 = .ok (.getfield 197, 3) := dec_2 oX12_fired (of180 _) 0 197 rfl rfl
theorem dX12_fired_23 : decode cX12_fired 23 = .ok (.iaload, 1) := dec_0 oX12_fired (of46 _) rfl
theorem dX12_fired_24 : decode cX12_fired 24 = .ok (.if_icmp .ge 50, 3) := dec_s2 oX12_fired (of162 _) 0 50 rfl (sg16p rfl) rfl
theorem dX12_fired_4 : decode cX12_fired 4 = .ok (.iconst (-1), 1) := dec_0 oX12_fired (of2 _) rfl
theorem dX12_fired_5 : decode cX12_fired 5 = .ok (.ireturn, 1) := dec_0 oX12_fired (of172 _) rfl
theorem dX12_fired_6 : decode cX12_fired 6 = .ok (.aload_n 0, 1) := dec_0 oX12_fired (of42 _) rfl
theorem dX12_fired_7 : decode cX12_fired 7 = .ok (.invokevirtual 323, 3) := dec_2 oX12_fired (of182 _) 1 67 rfl rfl
theorem dX12_fired_74 : decode cX12_fired 74 = .ok (.iload_n 2, 1) := dec_0 oX12_fired (of28 _) rfl
theorem dX12_fired_75 : decode cX12_fired 75 = .ok (.ireturn, 1) := dec_0 oX12_fired (of172 _) rfl
theorem dX12_flat_0 : decode cX12_flat 0 = .ok (.iload_n 1, 1) := dec_0 oX12_flat (of27 _) rfl
theorem dX12_flat_1 : decode cX12_flat 1 = .ok (.iconst 1, 1) := dec_0 oX12_flat (of4 _) rfl
theorem dX12_flat_11 : decode cX12_flat 11 = .ok (.iconst (-1), 1) := dec_0 oX12_flat (of2 _) rfl
theorem dX12_flat_12 : decode cX12_flat 12 = .ok (.ireturn, 1) := dec_0 oX12_flat (of172 _) rfl
theorem dX12_flat_13 : decode cX12_flat 13 = .ok (.iconst 0, 1) := dec_0 oX12_flat (of3 _) rfl
theorem dX12_flat_14 : decode cX12_flat 14 = .ok (.istore_n 2, 1) := dec_0 oX12_flat (of61 _) rfl
theorem dX12_flat_15 : decode cX12_flat 15 = .ok (.iconst 0, 1) := dec_0 oX12_flat (of3 _) rfl
theorem dX12_flat_16 : decode cX12_flat 16 = .ok (.istore_n 3, 1) := dec_0 oX12_flat (of62 _) rfl
theorem dX12_flat_17 : decode cX12_flat 17 = .ok (.iload_n 3, 1) := dec_0 oX12_flat (of29 _) rfl
theorem dX12_flat_18 : decode cX12_flat 18 = .ok (.aload_n 0, 1) := dec_0 oX12_flat (of42 _) rfl
theorem dX12_flat_19 : decode cX12_flat 19 = .ok (.getfield 70, 3) := dec_2 oX12_flat (of180 _) 0 70 rfl rfl
theorem dX12_flat_2 : decode cX12_flat 2 = .ok (.sipush 160, 3) := dec_s2 oX12_flat (of17 _) 0 160 rfl (sg16p rfl) rfl
theorem dX12_flat_22 : decode cX12_flat 22 = .ok (.iconst 0, 1) := dec_0 oX12_flat (of3 _) rfl
theorem dX12_flat_23 : decode cX12_flat 23 = .ok (.iaload, 1) := dec_0 oX12_flat (of46 _) rfl
theorem dX12_flat_24 : decode cX12_flat 24 = .ok (.if_icmp .ge 36, 3) := dec_s2 oX12_flat (of162 _) 0 36 rfl (sg16p rfl) rfl
theorem dX12_flat_5 : decode cX12_flat 5 = .ok (.invokestatic 244, 3) := dec_2 oX12_flat (of184 _) 0 244 rfl rfl
theorem dX12_flat_60 : decode cX12_flat 60 = .ok (.iload_n 2, 1) := dec_0 oX12_flat (of28 _) rfl
theorem dX12_flat_61 : decode cX12_flat 61 = .ok (.ireturn, 1) := dec_0 oX12_flat (of172 _) rfl
theorem dX12_flat_8 : decode cX12_flat 8 = .ok (.ifCond .ne 5, 3) := dec_s2 oX12_flat (of154 _) 0 5 rfl (sg16p rfl) rfl
theorem dX12_gap_0 : decode cX12_gap 0 = .ok (.aload_n 0, 1) := dec_0 oX12_gap (of42 _) rfl
theorem dX12_gap_1 : decode cX12_gap 1 = .ok (.ldc 239, 2) := dec_1 oX12_gap (of18 _) 239 rfl rfl
theorem dX12_gap_3 : decode cX12_gap 3 = .ok (.invokevirtual 329, 3) := dec_2 oX12_gap (of182 _) 1 73 rfl rfl
theorem dX12_gap_6 : decode cX12_gap 6 = .ok (.ireturn, 1) := dec_0 oX12_gap (of172 _) rfl
theorem dX12_gaps_0 : decode cX12_gaps 0 = .ok (.iconst 0, 1) := dec_0 oX12_gaps (of3 _) rfl
theorem dX12_gaps_1 : decode cX12_gaps 1 = .ok (.istore_n 1, 1) := dec_0 oX12_gaps (of60 _) rfl
theorem dX12_gaps_10 : decode cX12_gaps 10 = .ok (.iaload, 1) := dec_0 oX12_gaps (of46 _) rfl
theorem dX12_gaps_11 : decode cX12_gaps 11 = .ok (.if_icmp .ge 20, 3) := dec_s2 oX12_gaps (of162 _) 0 20 rfl (sg16p rfl) rfl
theorem dX12_gaps_2 : decode cX12_gaps 2 = .ok (.iconst 0, 1) := dec_0 oX12_gaps (of3 _) rfl
theorem dX12_gaps_3 : decode cX12_gaps 3 = .ok (.istore_n 2, 1) := dec_0 oX12_gaps (of61 _) rfl
theorem dX12_gaps_31 : decode cX12_gaps 31 = .ok (.iload_n 1, 1) := dec_0 oX12_gaps (of27 _) rfl
theorem dX12_gaps_32 : decode cX12_gaps 32 = .ok (.ireturn, 1) := dec_0 oX12_gaps (of172 _) rfl
theorem dX12_gaps_4 : decode cX12_gaps 4 = .ok (.iload_n 2, 1) := dec_0 oX12_gaps (of28 _) rfl
theorem dX12_gaps_5 : decode cX12_gaps 5 = .ok (.aload_n 0, 1) := dec_0 oX12_gaps (of42 _) rfl
theorem dX12_gaps_6 : decode cX12_gaps 6 = .ok (.getfield 70, 3) := dec_2 oX12_gaps (of180 _) 0 70 rfl rfl
theorem dX12_gaps_9 : decode cX12_gaps 9 = .ok (.iconst 0, 1) := dec_0 oX12_gaps (of3 _) rfl
theorem dX12_hold_0 : decode cX12_hold 0 = .ok (.iload_n 1, 1) := dec_0 oX12_hold (of27 _) rfl
theorem dX12_hold_1 : decode cX12_hold 1 = .ok (.iconst 0, 1) := dec_0 oX12_hold (of3 _) rfl
theorem dX12_hold_10 : decode cX12_hold 10 = .ok (.ireturn, 1) := dec_0 oX12_hold (of172 _) rfl
theorem dX12_hold_11 : decode cX12_hold 11 = .ok (.aload_n 0, 1) := dec_0 oX12_hold (of42 _) rfl
theorem dX12_hold_12 : decode cX12_hold 12 = .ok (.getfield 100, 3) := dec_2 oX12_hold (of180 _) 0 100 rfl rfl
theorem dX12_hold_15 : decode cX12_hold 15 = .ok (.iload_n 1, 1) := dec_0 oX12_hold (of27 _) rfl
theorem dX12_hold_16 : decode cX12_hold 16 = .ok (.iconst 1, 1) := dec_0 oX12_hold (of4 _) rfl
theorem dX12_hold_17 : decode cX12_hold 17 = .ok (.bastore, 1) := dec_0 oX12_hold (of84 _) rfl
theorem dX12_hold_18 : decode cX12_hold 18 = .ok (.iconst 0, 1) := dec_0 oX12_hold (of3 _) rfl
theorem dX12_hold_19 : decode cX12_hold 19 = .ok (.istore_n 2, 1) := dec_0 oX12_hold (of61 _) rfl
theorem dX12_hold_2 : decode cX12_hold 2 = .ok (.iconst 2, 1) := dec_0 oX12_hold (of5 _) rfl
theorem dX12_hold_20 : decode cX12_hold 20 = .ok (.iload_n 2, 1) := dec_0 oX12_hold (of28 _) rfl
theorem dX12_hold_21 : decode cX12_hold 21 = .ok (.sipush 165, 3) := dec_s2 oX12_hold (of17 _) 0 165 rfl (sg16p rfl) rfl
theorem dX12_hold_24 : decode cX12_hold 24 = .ok (.if_icmp .ge 27, 3) := dec_s2 oX12_hold (of162 _) 0 27 rfl (sg16p rfl) rfl
theorem dX12_hold_27 : decode cX12_hold 27 = .ok (.aload_n 0, 1) := dec_0 oX12_hold (of42 _) rfl
theorem dX12_hold_28 : decode cX12_hold 28 = .ok (.getfield 104, 3) := dec_2 oX12_hold (of180 _) 0 104 rfl rfl
theorem dX12_hold_3 : decode cX12_hold 3 = .ok (.invokestatic 244, 3) := dec_2 oX12_hold (of184 _) 0 244 rfl rfl
theorem dX12_hold_31 : decode cX12_hold 31 = .ok (.sipush 165, 3) := dec_s2 oX12_hold (of17 _) 0 165 rfl (sg16p rfl) rfl
theorem dX12_hold_34 : decode cX12_hold 34 = .ok (.iload_n 1, 1) := dec_0 oX12_hold (of27 _) rfl
theorem dX12_hold_35 : decode cX12_hold 35 = .ok (.imul, 1) := dec_0 oX12_hold (of104 _) rfl
theorem dX12_hold_36 : decode cX12_hold 36 = .ok (.iload_n 2, 1) := dec_0 oX12_hold (of28 _) rfl
theorem dX12_hold_37 : decode cX12_hold 37 = .ok (.iadd, 1) := dec_0 oX12_hold (of96 _) rfl
theorem dX12_hold_38 : decode cX12_hold 38 = .ok (.aload_n 0, 1) := dec_0 oX12_hold (of42 _) rfl
theorem dX12_hold_39 : decode cX12_hold 39 = .ok (.getfield 70, 3) := dec_2 oX12_hold (of180 _) 0 70 rfl rfl
theorem dX12_hold_42 : decode cX12_hold 42 = .ok (.iload_n 2, 1) := dec_0 oX12_hold (of28 _) rfl
theorem dX12_hold_43 : decode cX12_hold 43 = .ok (.iaload, 1) := dec_0 oX12_hold (of46 _) rfl
theorem dX12_hold_44 : decode cX12_hold 44 = .ok (.iastore, 1) := dec_0 oX12_hold (of79 _) rfl
theorem dX12_hold_45 : decode cX12_hold 45 = .ok (.iinc 2 1, 3) := dec_ii oX12_hold (of132 _) 2 1 rfl (sg8p rfl) rfl
theorem dX12_hold_48 : decode cX12_hold 48 = .ok (.goto (-28), 3) := dec_s2 oX12_hold (of167 _) 255 228 rfl (sg16n (k := 28) rfl) rfl
theorem dX12_hold_51 : decode cX12_hold 51 = .ok (.iconst 1, 1) := dec_0 oX12_hold (of4 _) rfl
theorem dX12_hold_52 : decode cX12_hold 52 = .ok (.ireturn, 1) := dec_0 oX12_hold (of172 _) rfl
theorem dX12_hold_6 : decode cX12_hold 6 = .ok (.ifCond .ne 5, 3) := dec_s2 oX12_hold (of154 _) 0 5 rfl (sg16p rfl) rfl
theorem dX12_hold_9 : decode cX12_hold 9 = .ok (.iconst 0, 1) := dec_0 oX12_hold (of3 _) rfl
theorem dX12_in_0 : decode cX12_in 0 = .ok (.iload_n 0, 1) := dec_0 oX12_in (of26 _) rfl
theorem dX12_in_1 : decode cX12_in 1 = .ok (.iload_n 1, 1) := dec_0 oX12_in (of27 _) rfl
theorem dX12_in_10 : decode cX12_in 10 = .ok (.iconst 1, 1) := dec_0 oX12_in (of4 _) rfl
theorem dX12_in_11 : decode cX12_in 11 = .ok (.goto 4, 3) := dec_s2 oX12_in (of167 _) 0 4 rfl (sg16p rfl) rfl
theorem dX12_in_14 : decode cX12_in 14 = .ok (.iconst 0, 1) := dec_0 oX12_in (of3 _) rfl
theorem dX12_in_15 : decode cX12_in 15 = .ok (.ireturn, 1) := dec_0 oX12_in (of172 _) rfl
theorem dX12_in_2 : decode cX12_in 2 = .ok (.if_icmp .lt 12, 3) := dec_s2 oX12_in (of161 _) 0 12 rfl (sg16p rfl) rfl
theorem dX12_in_5 : decode cX12_in 5 = .ok (.iload_n 0, 1) := dec_0 oX12_in (of26 _) rfl
theorem dX12_in_6 : decode cX12_in 6 = .ok (.iload_n 2, 1) := dec_0 oX12_in (of28 _) rfl
theorem dX12_in_7 : decode cX12_in 7 = .ok (.if_icmp .gt 7, 3) := dec_s2 oX12_in (of163 _) 0 7 rfl (sg16p rfl) rfl
theorem dX12_init_0 : decode cX12_init 0 = .ok (.aload_n 0, 1) := dec_0 oX12_init (of42 _) rfl
theorem dX12_init_1 : decode cX12_init 1 = .ok (.invokespecial 7, 3) := dec_2 oX12_init (of183 _) 0 7 rfl rfl
theorem dX12_init_10 : decode cX12_init 10 = .ok (.putfield 13, 3) := dec_2 oX12_init (of181 _) 0 13 rfl rfl
theorem dX12_init_101 : decode cX12_init 101 = .ok (.aload_n 0, 1) := dec_0 oX12_init (of42 _) rfl
theorem dX12_init_102 : decode cX12_init 102 = .ok (.bipush 10, 2) := dec_s1 oX12_init (of16 _) 10 rfl (sg8p rfl) rfl
theorem dX12_init_104 : decode cX12_init 104 = .ok (.newarray .int, 2) := by decide +kernel
theorem dX12_init_106 : decode cX12_init 106 = .ok (.putfield 52, 3) := dec_2 oX12_init (of181 _) 0 52 rfl rfl
theorem dX12_init_109 : decode cX12_init 109 = .ok (.aload_n 0, 1) := dec_0 oX12_init (of42 _) rfl
theorem dX12_init_110 : decode cX12_init 110 = .ok (.sipush 160, 3) := dec_s2 oX12_init (of17 _) 0 160 rfl (sg16p rfl) rfl
theorem dX12_init_113 : decode cX12_init 113 = .ok (.newarray .int, 2) := by decide +kernel
theorem dX12_init_115 : decode cX12_init 115 = .ok (.putfield 55, 3) := dec_2 oX12_init (of181 _) 0 55 rfl rfl
theorem dX12_init_118 : decode cX12_init 118 = .ok (.aload_n 0, 1) := dec_0 oX12_init (of42 _) rfl
theorem dX12_init_119 : decode cX12_init 119 = .ok (.iconst 2, 1) := dec_0 oX12_init (of5 _) rfl
theorem dX12_init_120 : decode cX12_init 120 = .ok (.newarray .int, 2) := by decide +kernel
theorem dX12_init_122 : decode cX12_init 122 = .ok (.putfield 58, 3) := dec_2 oX12_init (of181 _) 0 58 rfl rfl
theorem dX12_init_125 : decode cX12_init 125 = .ok (.aload_n 0, 1) := dec_0 oX12_init (of42 _) rfl
theorem dX12_init_126 : decode cX12_init 126 = .ok (.iconst 2, 1) := dec_0 oX12_init (of5 _) rfl
theorem dX12_init_127 : decode cX12_init 127 = .ok (.newarray .int, 2) := by decide +kernel
theorem dX12_init_129 : decode cX12_init 129 = .ok (.putfield 61, 3) := dec_2 oX12_init (of181 _) 0 61 rfl rfl
theorem dX12_init_13 : decode cX12_init 13 = .ok (.aload_n 0, 1) := dec_0 oX12_init (of42 _) rfl
theorem dX12_init_132 : decode cX12_init 132 = .ok (.aload_n 0, 1) := dec_0 oX12_init (of42 _) rfl
theorem dX12_init_133 : decode cX12_init 133 = .ok (.iconst 2, 1) := dec_0 oX12_init (of5 _) rfl
theorem dX12_init_134 : decode cX12_init 134 = .ok (.newarray .int, 2) := by decide +kernel
theorem dX12_init_136 : decode cX12_init 136 = .ok (.putfield 64, 3) := dec_2 oX12_init (of181 _) 0 64 rfl rfl
theorem dX12_init_139 : decode cX12_init 139 = .ok (.aload_n 0, 1) := dec_0 oX12_init (of42 _) rfl
theorem dX12_init_14 : decode cX12_init 14 = .ok (.sipush 2000, 3) := dec_s2 oX12_init (of17 _) 7 208 rfl (sg16p rfl) rfl
theorem dX12_init_140 : decode cX12_init 140 = .ok (.iconst 2, 1) := dec_0 oX12_init (of5 _) rfl
theorem dX12_init_141 : decode cX12_init 141 = .ok (.newarray .int, 2) := by decide +kernel
theorem dX12_init_143 : decode cX12_init 143 = .ok (.putfield 67, 3) := dec_2 oX12_init (of181 _) 0 67 rfl rfl
theorem dX12_init_146 : decode cX12_init 146 = .ok (.aload_n 0, 1) := dec_0 oX12_init (of42 _) rfl
theorem dX12_init_147 : decode cX12_init 147 = .ok (.sipush 165, 3) := dec_s2 oX12_init (of17 _) 0 165 rfl (sg16p rfl) rfl
theorem dX12_init_150 : decode cX12_init 150 = .ok (.newarray .int, 2) := by decide +kernel
theorem dX12_init_152 : decode cX12_init 152 = .ok (.putfield 70, 3) := dec_2 oX12_init (of181 _) 0 70 rfl rfl
theorem dX12_init_155 : decode cX12_init 155 = .ok (.aload_n 0, 1) := dec_0 oX12_init (of42 _) rfl
theorem dX12_init_156 : decode cX12_init 156 = .ok (.sipush 165, 3) := dec_s2 oX12_init (of17 _) 0 165 rfl (sg16p rfl) rfl
theorem dX12_init_159 : decode cX12_init 159 = .ok (.newarray .int, 2) := by decide +kernel
theorem dX12_init_161 : decode cX12_init 161 = .ok (.putfield 73, 3) := dec_2 oX12_init (of181 _) 0 73 rfl rfl
theorem dX12_init_164 : decode cX12_init 164 = .ok (.aload_n 0, 1) := dec_0 oX12_init (of42 _) rfl
theorem dX12_init_165 : decode cX12_init 165 = .ok (.bipush 16, 2) := dec_s1 oX12_init (of16 _) 16 rfl (sg8p rfl) rfl
theorem dX12_init_167 : decode cX12_init 167 = .ok (.newarray .int, 2) := by decide +kernel
theorem dX12_init_169 : decode cX12_init 169 = .ok (.putfield 76, 3) := dec_2 oX12_init (of181 _) 0 76 rfl rfl
theorem dX12_init_17 : decode cX12_init 17 = .ok (.newarray .byte, 2) := by decide +kernel
theorem dX12_init_172 : decode cX12_init 172 = .ok (.aload_n 0, 1) := dec_0 oX12_init (of42 _) rfl
theorem dX12_init_173 : decode cX12_init 173 = .ok (.bipush 16, 2) := dec_s1 oX12_init (of16 _) 16 rfl (sg8p rfl) rfl
theorem dX12_init_175 : decode cX12_init 175 = .ok (.newarray .int, 2) := by decide +kernel
theorem dX12_init_177 : decode cX12_init 177 = .ok (.putfield 79, 3) := dec_2 oX12_init (of181 _) 0 79 rfl rfl
theorem dX12_init_180 : decode cX12_init 180 = .ok (.aload_n 0, 1) := dec_0 oX12_init (of42 _) rfl
theorem dX12_init_181 : decode cX12_init 181 = .ok (.sipush 256, 3) := dec_s2 oX12_init (of17 _) 1 0 rfl (sg16p rfl) rfl
theorem dX12_init_184 : decode cX12_init 184 = .ok (.newarray .int, 2) := by decide +kernel
theorem dX12_init_186 : decode cX12_init 186 = .ok (.putfield 82, 3) := dec_2 oX12_init (of181 _) 0 82 rfl rfl
theorem dX12_init_189 : decode cX12_init 189 = .ok (.aload_n 0, 1) := dec_0 oX12_init (of42 _) rfl
theorem dX12_init_19 : decode cX12_init 19 = .ok (.putfield 17, 3) := dec_2 oX12_init (of181 _) 0 17 rfl rfl
theorem dX12_init_190 : decode cX12_init 190 = .ok (.sipush 6600, 3) := dec_s2 oX12_init (of17 _) 25 200 rfl (sg16p rfl) rfl
theorem dX12_init_193 : decode cX12_init 193 = .ok (.newarray .int, 2) := by decide +kernel
theorem dX12_init_195 : decode cX12_init 195 = .ok (.putfield 85, 3) := dec_2 oX12_init (of181 _) 0 85 rfl rfl
theorem dX12_init_198 : decode cX12_init 198 = .ok (.aload_n 0, 1) := dec_0 oX12_init (of42 _) rfl
theorem dX12_init_199 : decode cX12_init 199 = .ok (.bipush 40, 2) := dec_s1 oX12_init (of16 _) 40 rfl (sg8p rfl) rfl
theorem dX12_init_201 : decode cX12_init 201 = .ok (.newarray .int, 2) := by decide +kernel
theorem dX12_init_203 : decode cX12_init 203 = .ok (.putfield 88, 3) := dec_2 oX12_init (of181 _) 0 88 rfl rfl
theorem dX12_init_206 : decode cX12_init 206 = .ok (.aload_n 0, 1) := dec_0 oX12_init (of42 _) rfl
theorem dX12_init_207 : decode cX12_init 207 = .ok (.sipush 160, 3) := dec_s2 oX12_init (of17 _) 0 160 rfl (sg16p rfl) rfl
theorem dX12_init_210 : decode cX12_init 210 = .ok (.newarray .int, 2) := by decide +kernel
theorem dX12_init_212 : decode cX12_init 212 = .ok (.putfield 91, 3) := dec_2 oX12_init (of181 _) 0 91 rfl rfl
theorem dX12_init_215 : decode cX12_init 215 = .ok (.aload_n 0, 1) := dec_0 oX12_init (of42 _) rfl
theorem dX12_init_216 : decode cX12_init 216 = .ok (.bipush 9, 2) := dec_s1 oX12_init (of16 _) 9 rfl (sg8p rfl) rfl
theorem dX12_init_218 : decode cX12_init 218 = .ok (.newarray .int, 2) := by decide +kernel
theorem dX12_init_22 : decode cX12_init 22 = .ok (.aload_n 0, 1) := dec_0 oX12_init (of42 _) rfl
theorem dX12_init_220 : decode cX12_init 220 = .ok (.putfield 94, 3) := dec_2 oX12_init (of181 _) 0 94 rfl rfl
theorem dX12_init_223 : decode cX12_init 223 = .ok (.aload_n 0, 1) := dec_0 oX12_init (of42 _) rfl
theorem dX12_init_224 : decode cX12_init 224 = .ok (.sipush 160, 3) := dec_s2 oX12_init (of17 _) 0 160 rfl (sg16p rfl) rfl
theorem dX12_init_227 : decode cX12_init 227 = .ok (.newarray .int, 2) := by decide +kernel
theorem dX12_init_229 : decode cX12_init 229 = .ok (.putfield 97, 3) := dec_2 oX12_init (of181 _) 0 97 rfl rfl
theorem dX12_init_23 : decode cX12_init 23 = .ok (.sipush 403, 3) := dec_s2 oX12_init (of17 _) 1 147 rfl (sg16p rfl) rfl
theorem dX12_init_232 : decode cX12_init 232 = .ok (.aload_n 0, 1) := dec_0 oX12_init (of42 _) rfl
theorem dX12_init_233 : decode cX12_init 233 = .ok (.iconst 3, 1) := dec_0 oX12_init (of6 _) rfl
theorem dX12_init_234 : decode cX12_init 234 = .ok (.newarray .boolean, 2) := by decide +kernel
theorem dX12_init_236 : decode cX12_init 236 = .ok (.putfield 100, 3) := dec_2 oX12_init (of181 _) 0 100 rfl rfl
theorem dX12_init_239 : decode cX12_init 239 = .ok (.aload_n 0, 1) := dec_0 oX12_init (of42 _) rfl
theorem dX12_init_240 : decode cX12_init 240 = .ok (.sipush 495, 3) := dec_s2 oX12_init (of17 _) 1 239 rfl (sg16p rfl) rfl
theorem dX12_init_243 : decode cX12_init 243 = .ok (.newarray .int, 2) := by decide +kernel
theorem dX12_init_245 : decode cX12_init 245 = .ok (.putfield 104, 3) := dec_2 oX12_init (of181 _) 0 104 rfl rfl
theorem dX12_init_248 : decode cX12_init 248 = .ok (.aload_n 0, 1) := dec_0 oX12_init (of42 _) rfl
theorem dX12_init_249 : decode cX12_init 249 = .ok (.iconst 0, 1) := dec_0 oX12_init (of3 _) rfl
theorem dX12_init_250 : decode cX12_init 250 = .ok (.invokevirtual 107, 3) := dec_2 oX12_init (of182 _) 0 107 rfl rfl
theorem dX12_init_253 : decode cX12_init 253 = .ok (.aload_n 0, 1) := dec_0 oX12_init (of42 _) rfl
theorem dX12_init_254 : decode cX12_init 254 = .ok (.iconst 1, 1) := dec_0 oX12_init (of4 _) rfl
theorem dX12_init_255 : decode cX12_init 255 = .ok (.invokevirtual 107, 3) := dec_2 oX12_init (of182 _) 0 107 rfl rfl
theorem dX12_init_258 : decode cX12_init 258 = .ok (.aload_n 0, 1) := dec_0 oX12_init (of42 _) rfl
theorem dX12_init_259 : decode cX12_init 259 = .ok (.iconst (-1), 1) := dec_0 oX12_init (of2 _) rfl
theorem dX12_init_26 : decode cX12_init 26 = .ok (.newarray .int, 2) := by decide +kernel
theorem dX12_init_260 : decode cX12_init 260 = .ok (.putfield 111, 3) := dec_2 oX12_init (of181 _) 0 111 rfl rfl
theorem dX12_init_263 : decode cX12_init 263 = .ok (.aload_n 0, 1) := dec_0 oX12_init (of42 _) rfl
theorem dX12_init_264 : decode cX12_init 264 = .ok (.getfield 34, 3) := dec_2 oX12_init (of180 _) 0 34 rfl rfl
theorem dX12_init_267 : decode cX12_init 267 = .ok (.iconst 0, 1) := dec_0 oX12_init (of3 _) rfl
theorem dX12_init_268 : decode cX12_init 268 = .ok (.bipush 115, 2) := dec_s1 oX12_init (of16 _) 115 rfl (sg8p rfl) rfl
theorem dX12_init_270 : decode cX12_init 270 = .ok (.bipush 101, 2) := dec_s1 oX12_init (of16 _) 101 rfl (sg8p rfl) rfl
theorem dX12_init_272 : decode cX12_init 272 = .ok (.bipush 114, 2) := dec_s1 oX12_init (of16 _) 114 rfl (sg8p rfl) rfl
theorem dX12_init_274 : decode cX12_init 274 = .ok (.bipush 105, 2) := dec_s1 oX12_init (of16 _) 105 rfl (sg8p rfl) rfl
theorem dX12_init_276 : decode cX12_init 276 = .ok (.bipush 101, 2) := dec_s1 oX12_init (of16 _) 101 rfl (sg8p rfl) rfl
theorem dX12_init_278 : decode cX12_init 278 = .ok (.bipush 115, 2) := dec_s1 oX12_init (of16 _) 115 rfl (sg8p rfl) rfl
theorem dX12_init_28 : decode cX12_init 28 = .ok (.putfield 20, 3) := dec_2 oX12_init (of181 _) 0 20 rfl rfl
theorem dX12_init_280 : decode cX12_init 280 = .ok (.iconst 0, 1) := dec_0 oX12_init (of3 _) rfl
theorem dX12_init_281 : decode cX12_init 281 = .ok (.invokestatic 114, 3) := dec_2 oX12_init (of184 _) 0 114 rfl rfl
theorem dX12_init_284 : decode cX12_init 284 = .ok (.lastore, 1) := dec_0 oX12_init (of80 _) rfl
theorem dX12_init_285 : decode cX12_init 285 = .ok (.aload_n 0, 1) := dec_0 oX12_init (of42 _) rfl
theorem dX12_init_286 : decode cX12_init 286 = .ok (.getfield 34, 3) := dec_2 oX12_init (of180 _) 0 34 rfl rfl
theorem dX12_init_289 : decode cX12_init 289 = .ok (.iconst 1, 1) := dec_0 oX12_init (of4 _) rfl
theorem dX12_init_290 : decode cX12_init 290 = .ok (.bipush 113, 2) := dec_s1 oX12_init (of16 _) 113 rfl (sg8p rfl) rfl
theorem dX12_init_292 : decode cX12_init 292 = .ok (.bipush 117, 2) := dec_s1 oX12_init (of16 _) 117 rfl (sg8p rfl) rfl
theorem dX12_init_294 : decode cX12_init 294 = .ok (.bipush 101, 2) := dec_s1 oX12_init (of16 _) 101 rfl (sg8p rfl) rfl
theorem dX12_init_296 : decode cX12_init 296 = .ok (.bipush 114, 2) := dec_s1 oX12_init (of16 _) 114 rfl (sg8p rfl) rfl
theorem dX12_init_298 : decode cX12_init 298 = .ok (.bipush 121, 2) := dec_s1 oX12_init (of16 _) 121 rfl (sg8p rfl) rfl
theorem dX12_init_300 : decode cX12_init 300 = .ok (.iconst 0, 1) := dec_0 oX12_init (of3 _) rfl
theorem dX12_init_301 : decode cX12_init 301 = .ok (.iconst 0, 1) := dec_0 oX12_init (of3 _) rfl
theorem dX12_init_302 : decode cX12_init 302 = .ok (.invokestatic 114, 3) := dec_2 oX12_init (of184 _) 0 114 rfl rfl
theorem dX12_init_305 : decode cX12_init 305 = .ok (.lastore, 1) := dec_0 oX12_init (of80 _) rfl
theorem dX12_init_306 : decode cX12_init 306 = .ok (.aload_n 0, 1) := dec_0 oX12_init (of42 _) rfl
theorem dX12_init_307 : decode cX12_init 307 = .ok (.getfield 34, 3) := dec_2 oX12_init (of180 _) 0 34 rfl rfl
theorem dX12_init_31 : decode cX12_init 31 = .ok (.aload_n 0, 1) := dec_0 oX12_init (of42 _) rfl
theorem dX12_init_310 : decode cX12_init 310 = .ok (.iconst 2, 1) := dec_0 oX12_init (of5 _) rfl
theorem dX12_init_311 : decode cX12_init 311 = .ok (.bipush 98, 2) := dec_s1 oX12_init (of16 _) 98 rfl (sg8p rfl) rfl
theorem dX12_init_313 : decode cX12_init 313 = .ok (.bipush 97, 2) := dec_s1 oX12_init (of16 _) 97 rfl (sg8p rfl) rfl
theorem dX12_init_315 : decode cX12_init 315 = .ok (.bipush 110, 2) := dec_s1 oX12_init (of16 _) 110 rfl (sg8p rfl) rfl
theorem dX12_init_317 : decode cX12_init 317 = .ok (.bipush 100, 2) := dec_s1 oX12_init (of16 _) 100 rfl (sg8p rfl) rfl
theorem dX12_init_319 : decode cX12_init 319 = .ok (.iconst 0, 1) := dec_0 oX12_init (of3 _) rfl
theorem dX12_init_32 : decode cX12_init 32 = .ok (.sipush 403, 3) := dec_s2 oX12_init (of17 _) 1 147 rfl (sg16p rfl) rfl
theorem dX12_init_320 : decode cX12_init 320 = .ok (.iconst 0, 1) := dec_0 oX12_init (of3 _) rfl
theorem dX12_init_321 : decode cX12_init 321 = .ok (.iconst 0, 1) := dec_0 oX12_init (of3 _) rfl
theorem dX12_init_322 : decode cX12_init 322 = .ok (.invokestatic 114, 3) := dec_2 oX12_init (of184 _) 0 114 rfl rfl
theorem dX12_init_325 : decode cX12_init 325 = .ok (.lastore, 1) := dec_0 oX12_init (of80 _) rfl
theorem dX12_init_326 : decode cX12_init 326 = .ok (.aload_n 0, 1) := dec_0 oX12_init (of42 _) rfl
theorem dX12_init_327 : decode cX12_init 327 = .ok (.getfield 34, 3) := dec_2 oX12_init (of180 _) 0 34 rfl rfl
theorem dX12_init_330 : decode cX12_init 330 = .ok (.iconst 3, 1) := dec_0 oX12_init (of6 _) rfl
theorem dX12_init_331 : decode cX12_init 331 = .ok (.bipush 108, 2) := dec_s1 oX12_init (of16 _) 108 rfl (sg8p rfl) rfl
theorem dX12_init_333 : decode cX12_init 333 = .ok (.bipush 101, 2) := dec_s1 oX12_init (of16 _) 101 rfl (sg8p rfl) rfl
theorem dX12_init_335 : decode cX12_init 335 = .ok (.bipush 118, 2) := dec_s1 oX12_init (of16 _) 118 rfl (sg8p rfl) rfl
theorem dX12_init_337 : decode cX12_init 337 = .ok (.bipush 101, 2) := dec_s1 oX12_init (of16 _) 101 rfl (sg8p rfl) rfl
theorem dX12_init_339 : decode cX12_init 339 = .ok (.bipush 108, 2) := dec_s1 oX12_init (of16 _) 108 rfl (sg8p rfl) rfl
theorem dX12_init_341 : decode cX12_init 341 = .ok (.iconst 0, 1) := dec_0 oX12_init (of3 _) rfl
theorem dX12_init_342 : decode cX12_init 342 = .ok (.iconst 0, 1) := dec_0 oX12_init (of3 _) rfl
theorem dX12_init_343 : decode cX12_init 343 = .ok (.invokestatic 114, 3) := dec_2 oX12_init (of184 _) 0 114 rfl rfl
theorem dX12_init_346 : decode cX12_init 346 = .ok (.lastore, 1) := dec_0 oX12_init (of80 _) rfl
theorem dX12_init_347 : decode cX12_init 347 = .ok (.aload_n 0, 1) := dec_0 oX12_init (of42 _) rfl
theorem dX12_init_348 : decode cX12_init 348 = .ok (.getfield 34, 3) := dec_2 oX12_init (of180 _) 0 34 rfl rfl
theorem dX12_init_35 : decode cX12_init 35 = .ok (.newarray .int, 2) := by decide +kernel
theorem dX12_init_351 : decode cX12_init 351 = .ok (.iconst 4, 1) := dec_0 oX12_init (of7 _) rfl
theorem dX12_init_352 : decode cX12_init 352 = .ok (.bipush 99, 2) := dec_s1 oX12_init (of16 _) 99 rfl (sg8p rfl) rfl
theorem dX12_init_354 : decode cX12_init 354 = .ok (.bipush 111, 2) := dec_s1 oX12_init (of16 _) 111 rfl (sg8p rfl) rfl
theorem dX12_init_356 : decode cX12_init 356 = .ok (.bipush 115, 2) := dec_s1 oX12_init (of16 _) 115 rfl (sg8p rfl) rfl
theorem dX12_init_358 : decode cX12_init 358 = .ok (.bipush 116, 2) := dec_s1 oX12_init (of16 _) 116 rfl (sg8p rfl) rfl
theorem dX12_init_360 : decode cX12_init 360 = .ok (.iconst 0, 1) := dec_0 oX12_init (of3 _) rfl
theorem dX12_init_361 : decode cX12_init 361 = .ok (.iconst 0, 1) := dec_0 oX12_init (of3 _) rfl
theorem dX12_init_362 : decode cX12_init 362 = .ok (.iconst 0, 1) := dec_0 oX12_init (of3 _) rfl
theorem dX12_init_363 : decode cX12_init 363 = .ok (.invokestatic 114, 3) := dec_2 oX12_init (of184 _) 0 114 rfl rfl
theorem dX12_init_366 : decode cX12_init 366 = .ok (.lastore, 1) := dec_0 oX12_init (of80 _) rfl
theorem dX12_init_367 : decode cX12_init 367 = .ok (.aload_n 0, 1) := dec_0 oX12_init (of42 _) rfl
theorem dX12_init_368 : decode cX12_init 368 = .ok (.getfield 34, 3) := dec_2 oX12_init (of180 _) 0 34 rfl rfl
theorem dX12_init_37 : decode cX12_init 37 = .ok (.putfield 24, 3) := dec_2 oX12_init (of181 _) 0 24 rfl rfl
theorem dX12_init_371 : decode cX12_init 371 = .ok (.iconst 5, 1) := dec_0 oX12_init (of8 _) rfl
theorem dX12_init_372 : decode cX12_init 372 = .ok (.bipush 97, 2) := dec_s1 oX12_init (of16 _) 97 rfl (sg8p rfl) rfl
theorem dX12_init_374 : decode cX12_init 374 = .ok (.bipush 112, 2) := dec_s1 oX12_init (of16 _) 112 rfl (sg8p rfl) rfl
theorem dX12_init_376 : decode cX12_init 376 = .ok (.bipush 97, 2) := dec_s1 oX12_init (of16 _) 97 rfl (sg8p rfl) rfl
theorem dX12_init_378 : decode cX12_init 378 = .ok (.bipush 114, 2) := dec_s1 oX12_init (of16 _) 114 rfl (sg8p rfl) rfl
theorem dX12_init_380 : decode cX12_init 380 = .ok (.bipush 116, 2) := dec_s1 oX12_init (of16 _) 116 rfl (sg8p rfl) rfl
theorem dX12_init_382 : decode cX12_init 382 = .ok (.iconst 0, 1) := dec_0 oX12_init (of3 _) rfl
theorem dX12_init_383 : decode cX12_init 383 = .ok (.iconst 0, 1) := dec_0 oX12_init (of3 _) rfl
theorem dX12_init_384 : decode cX12_init 384 = .ok (.invokestatic 114, 3) := dec_2 oX12_init (of184 _) 0 114 rfl rfl
theorem dX12_init_387 : decode cX12_init 387 = .ok (.lastore, 1) := dec_0 oX12_init (of80 _) rfl
theorem dX12_init_388 : decode cX12_init 388 = .ok (.aload_n 0, 1) := dec_0 oX12_init (of42 _) rfl
theorem dX12_init_389 : decode cX12_init 389 = .ok (.getfield 34, 3) := dec_2 oX12_init (of180 _) 0 34 rfl rfl
theorem dX12_init_392 : decode cX12_init 392 = .ok (.bipush 6, 2) := dec_s1 oX12_init (of16 _) 6 rfl (sg8p rfl) rfl
theorem dX12_init_394 : decode cX12_init 394 = .ok (.bipush 103, 2) := dec_s1 oX12_init (of16 _) 103 rfl (sg8p rfl) rfl
theorem dX12_init_396 : decode cX12_init 396 = .ok (.bipush 97, 2) := dec_s1 oX12_init (of16 _) 97 rfl (sg8p rfl) rfl
theorem dX12_init_398 : decode cX12_init 398 = .ok (.bipush 112, 2) := dec_s1 oX12_init (of16 _) 112 rfl (sg8p rfl) rfl
theorem dX12_init_4 : decode cX12_init 4 = .ok (.aload_n 0, 1) := dec_0 oX12_init (of42 _) rfl
theorem dX12_init_40 : decode cX12_init 40 = .ok (.aload_n 0, 1) := dec_0 oX12_init (of42 _) rfl
theorem dX12_init_400 : decode cX12_init 400 = .ok (.iconst 0, 1) := dec_0 oX12_init (of3 _) rfl
theorem dX12_init_401 : decode cX12_init 401 = .ok (.iconst 0, 1) := dec_0 oX12_init (of3 _) rfl
theorem dX12_init_402 : decode cX12_init 402 = .ok (.iconst 0, 1) := dec_0 oX12_init (of3 _) rfl
theorem dX12_init_403 : decode cX12_init 403 = .ok (.iconst 0, 1) := dec_0 oX12_init (of3 _) rfl
theorem dX12_init_404 : decode cX12_init 404 = .ok (.invokestatic 114, 3) := dec_2 oX12_init (of184 _) 0 114 rfl rfl
theorem dX12_init_407 : decode cX12_init 407 = .ok (.lastore, 1) := dec_0 oX12_init (of80 _) rfl
theorem dX12_init_408 : decode cX12_init 408 = .ok (.aload_n 0, 1) := dec_0 oX12_init (of42 _) rfl
theorem dX12_init_409 : decode cX12_init 409 = .ok (.getfield 34, 3) := dec_2 oX12_init (of180 _) 0 34 rfl rfl
theorem dX12_init_41 : decode cX12_init 41 = .ok (.sipush 403, 3) := dec_s2 oX12_init (of17 _) 1 147 rfl (sg16p rfl) rfl
theorem dX12_init_412 : decode cX12_init 412 = .ok (.bipush 7, 2) := dec_s1 oX12_init (of16 _) 7 rfl (sg8p rfl) rfl
theorem dX12_init_414 : decode cX12_init 414 = .ok (.bipush 110, 2) := dec_s1 oX12_init (of16 _) 110 rfl (sg8p rfl) rfl
theorem dX12_init_416 : decode cX12_init 416 = .ok (.bipush 111, 2) := dec_s1 oX12_init (of16 _) 111 rfl (sg8p rfl) rfl
theorem dX12_init_418 : decode cX12_init 418 = .ok (.bipush 110, 2) := dec_s1 oX12_init (of16 _) 110 rfl (sg8p rfl) rfl
theorem dX12_init_420 : decode cX12_init 420 = .ok (.bipush 101, 2) := dec_s1 oX12_init (of16 _) 101 rfl (sg8p rfl) rfl
theorem dX12_init_422 : decode cX12_init 422 = .ok (.iconst 0, 1) := dec_0 oX12_init (of3 _) rfl
theorem dX12_init_423 : decode cX12_init 423 = .ok (.iconst 0, 1) := dec_0 oX12_init (of3 _) rfl
theorem dX12_init_424 : decode cX12_init 424 = .ok (.iconst 0, 1) := dec_0 oX12_init (of3 _) rfl
theorem dX12_init_425 : decode cX12_init 425 = .ok (.invokestatic 114, 3) := dec_2 oX12_init (of184 _) 0 114 rfl rfl
theorem dX12_init_428 : decode cX12_init 428 = .ok (.lastore, 1) := dec_0 oX12_init (of80 _) rfl
theorem dX12_init_429 : decode cX12_init 429 = .ok (.aload_n 0, 1) := dec_0 oX12_init (of42 _) rfl
theorem dX12_init_430 : decode cX12_init 430 = .ok (.getfield 34, 3) := dec_2 oX12_init (of180 _) 0 34 rfl rfl
theorem dX12_init_433 : decode cX12_init 433 = .ok (.bipush 8, 2) := dec_s1 oX12_init (of16 _) 8 rfl (sg8p rfl) rfl
theorem dX12_init_435 : decode cX12_init 435 = .ok (.bipush 109, 2) := dec_s1 oX12_init (of16 _) 109 rfl (sg8p rfl) rfl
theorem dX12_init_437 : decode cX12_init 437 = .ok (.bipush 101, 2) := dec_s1 oX12_init (of16 _) 101 rfl (sg8p rfl) rfl
theorem dX12_init_439 : decode cX12_init 439 = .ok (.bipush 97, 2) := dec_s1 oX12_init (of16 _) 97 rfl (sg8p rfl) rfl
theorem dX12_init_44 : decode cX12_init 44 = .ok (.newarray .int, 2) := by decide +kernel
theorem dX12_init_441 : decode cX12_init 441 = .ok (.bipush 110, 2) := dec_s1 oX12_init (of16 _) 110 rfl (sg8p rfl) rfl
theorem dX12_init_443 : decode cX12_init 443 = .ok (.iconst 0, 1) := dec_0 oX12_init (of3 _) rfl
theorem dX12_init_444 : decode cX12_init 444 = .ok (.iconst 0, 1) := dec_0 oX12_init (of3 _) rfl
theorem dX12_init_445 : decode cX12_init 445 = .ok (.iconst 0, 1) := dec_0 oX12_init (of3 _) rfl
theorem dX12_init_446 : decode cX12_init 446 = .ok (.invokestatic 114, 3) := dec_2 oX12_init (of184 _) 0 114 rfl rfl
theorem dX12_init_449 : decode cX12_init 449 = .ok (.lastore, 1) := dec_0 oX12_init (of80 _) rfl
theorem dX12_init_450 : decode cX12_init 450 = .ok (.aload_n 0, 1) := dec_0 oX12_init (of42 _) rfl
theorem dX12_init_451 : decode cX12_init 451 = .ok (.getfield 34, 3) := dec_2 oX12_init (of180 _) 0 34 rfl rfl
theorem dX12_init_454 : decode cX12_init 454 = .ok (.bipush 9, 2) := dec_s1 oX12_init (of16 _) 9 rfl (sg8p rfl) rfl
theorem dX12_init_456 : decode cX12_init 456 = .ok (.bipush 102, 2) := dec_s1 oX12_init (of16 _) 102 rfl (sg8p rfl) rfl
theorem dX12_init_458 : decode cX12_init 458 = .ok (.bipush 105, 2) := dec_s1 oX12_init (of16 _) 105 rfl (sg8p rfl) rfl
theorem dX12_init_46 : decode cX12_init 46 = .ok (.putfield 27, 3) := dec_2 oX12_init (of181 _) 0 27 rfl rfl
theorem dX12_init_460 : decode cX12_init 460 = .ok (.bipush 114, 2) := dec_s1 oX12_init (of16 _) 114 rfl (sg8p rfl) rfl
theorem dX12_init_462 : decode cX12_init 462 = .ok (.bipush 115, 2) := dec_s1 oX12_init (of16 _) 115 rfl (sg8p rfl) rfl
theorem dX12_init_464 : decode cX12_init 464 = .ok (.bipush 116, 2) := dec_s1 oX12_init (of16 _) 116 rfl (sg8p rfl) rfl
theorem dX12_init_466 : decode cX12_init 466 = .ok (.iconst 0, 1) := dec_0 oX12_init (of3 _) rfl
theorem dX12_init_467 : decode cX12_init 467 = .ok (.iconst 0, 1) := dec_0 oX12_init (of3 _) rfl
theorem dX12_init_468 : decode cX12_init 468 = .ok (.invokestatic 114, 3) := dec_2 oX12_init (of184 _) 0 114 rfl rfl
theorem dX12_init_471 : decode cX12_init 471 = .ok (.lastore, 1) := dec_0 oX12_init (of80 _) rfl
theorem dX12_init_472 : decode cX12_init 472 = .ok (.aload_n 0, 1) := dec_0 oX12_init (of42 _) rfl
theorem dX12_init_473 : decode cX12_init 473 = .ok (.getfield 34, 3) := dec_2 oX12_init (of180 _) 0 34 rfl rfl
theorem dX12_init_476 : decode cX12_init 476 = .ok (.bipush 10, 2) := dec_s1 oX12_init (of16 _) 10 rfl (sg8p rfl) rfl
theorem dX12_init_478 : decode cX12_init 478 = .ok (.bipush 114, 2) := dec_s1 oX12_init (of16 _) 114 rfl (sg8p rfl) rfl
theorem dX12_init_480 : decode cX12_init 480 = .ok (.bipush 97, 2) := dec_s1 oX12_init (of16 _) 97 rfl (sg8p rfl) rfl
theorem dX12_init_482 : decode cX12_init 482 = .ok (.bipush 110, 2) := dec_s1 oX12_init (of16 _) 110 rfl (sg8p rfl) rfl
theorem dX12_init_484 : decode cX12_init 484 = .ok (.bipush 103, 2) := dec_s1 oX12_init (of16 _) 103 rfl (sg8p rfl) rfl
theorem dX12_init_486 : decode cX12_init 486 = .ok (.bipush 101, 2) := dec_s1 oX12_init (of16 _) 101 rfl (sg8p rfl) rfl
theorem dX12_init_488 : decode cX12_init 488 = .ok (.iconst 0, 1) := dec_0 oX12_init (of3 _) rfl
theorem dX12_init_489 : decode cX12_init 489 = .ok (.iconst 0, 1) := dec_0 oX12_init (of3 _) rfl
theorem dX12_init_49 : decode cX12_init 49 = .ok (.aload_n 0, 1) := dec_0 oX12_init (of42 _) rfl
theorem dX12_init_490 : decode cX12_init 490 = .ok (.invokestatic 114, 3) := dec_2 oX12_init (of184 _) 0 114 rfl rfl
theorem dX12_init_493 : decode cX12_init 493 = .ok (.lastore, 1) := dec_0 oX12_init (of80 _) rfl
theorem dX12_init_494 : decode cX12_init 494 = .ok (.aload_n 0, 1) := dec_0 oX12_init (of42 _) rfl
theorem dX12_init_495 : decode cX12_init 495 = .ok (.getfield 34, 3) := dec_2 oX12_init (of180 _) 0 34 rfl rfl
theorem dX12_init_498 : decode cX12_init 498 = .ok (.bipush 11, 2) := dec_s1 oX12_init (of16 _) 11 rfl (sg8p rfl) rfl
theorem dX12_init_5 : decode cX12_init 5 = .ok (.sipush 2000, 3) := dec_s2 oX12_init (of17 _) 7 208 rfl (sg16p rfl) rfl
theorem dX12_init_50 : decode cX12_init 50 = .ok (.sipush 403, 3) := dec_s2 oX12_init (of17 _) 1 147 rfl (sg16p rfl) rfl
theorem dX12_init_500 : decode cX12_init 500 = .ok (.bipush 112, 2) := dec_s1 oX12_init (of16 _) 112 rfl (sg8p rfl) rfl
theorem dX12_init_502 : decode cX12_init 502 = .ok (.bipush 108, 2) := dec_s1 oX12_init (of16 _) 108 rfl (sg8p rfl) rfl
theorem dX12_init_504 : decode cX12_init 504 = .ok (.bipush 97, 2) := dec_s1 oX12_init (of16 _) 97 rfl (sg8p rfl) rfl
theorem dX12_init_506 : decode cX12_init 506 = .ok (.bipush 105, 2) := dec_s1 oX12_init (of16 _) 105 rfl (sg8p rfl) rfl
theorem dX12_init_508 : decode cX12_init 508 = .ok (.bipush 110, 2) := dec_s1 oX12_init (of16 _) 110 rfl (sg8p rfl) rfl
theorem dX12_init_510 : decode cX12_init 510 = .ok (.iconst 0, 1) := dec_0 oX12_init (of3 _) rfl
theorem dX12_init_511 : decode cX12_init 511 = .ok (.iconst 0, 1) := dec_0 oX12_init (of3 _) rfl
theorem dX12_init_512 : decode cX12_init 512 = .ok (.invokestatic 114, 3) := dec_2 oX12_init (of184 _) 0 114 rfl rfl
theorem dX12_init_515 : decode cX12_init 515 = .ok (.lastore, 1) := dec_0 oX12_init (of80 _) rfl
theorem dX12_init_516 : decode cX12_init 516 = .ok (.aload_n 0, 1) := dec_0 oX12_init (of42 _) rfl
theorem dX12_init_517 : decode cX12_init 517 = .ok (.getfield 34, 3) := dec_2 oX12_init (of180 _) 0 34 rfl rfl
theorem dX12_init_520 : decode cX12_init 520 = .ok (.bipush 12, 2) := dec_s1 oX12_init (of16 _) 12 rfl (sg8p rfl) rfl
theorem dX12_init_522 : decode cX12_init 522 = .ok (.bipush 115, 2) := dec_s1 oX12_init (of16 _) 115 rfl (sg8p rfl) rfl
theorem dX12_init_524 : decode cX12_init 524 = .ok (.bipush 113, 2) := dec_s1 oX12_init (of16 _) 113 rfl (sg8p rfl) rfl
theorem dX12_init_526 : decode cX12_init 526 = .ok (.bipush 117, 2) := dec_s1 oX12_init (of16 _) 117 rfl (sg8p rfl) rfl
theorem dX12_init_528 : decode cX12_init 528 = .ok (.bipush 97, 2) := dec_s1 oX12_init (of16 _) 97 rfl (sg8p rfl) rfl
theorem dX12_init_53 : decode cX12_init 53 = .ok (.newarray .long, 2) := by decide +kernel
theorem dX12_init_530 : decode cX12_init 530 = .ok (.bipush 114, 2) := dec_s1 oX12_init (of16 _) 114 rfl (sg8p rfl) rfl
theorem dX12_init_532 : decode cX12_init 532 = .ok (.bipush 101, 2) := dec_s1 oX12_init (of16 _) 101 rfl (sg8p rfl) rfl
theorem dX12_init_534 : decode cX12_init 534 = .ok (.iconst 0, 1) := dec_0 oX12_init (of3 _) rfl
theorem dX12_init_535 : decode cX12_init 535 = .ok (.invokestatic 114, 3) := dec_2 oX12_init (of184 _) 0 114 rfl rfl
theorem dX12_init_538 : decode cX12_init 538 = .ok (.lastore, 1) := dec_0 oX12_init (of80 _) rfl
theorem dX12_init_539 : decode cX12_init 539 = .ok (.aload_n 0, 1) := dec_0 oX12_init (of42 _) rfl
theorem dX12_init_540 : decode cX12_init 540 = .ok (.invokevirtual 118, 3) := dec_2 oX12_init (of182 _) 0 118 rfl rfl
theorem dX12_init_543 : decode cX12_init 543 = .ok (.aload_n 0, 1) := dec_0 oX12_init (of42 _) rfl
theorem dX12_init_544 : decode cX12_init 544 = .ok (.invokevirtual 121, 3) := dec_2 oX12_init (of182 _) 0 121 rfl rfl
theorem dX12_init_547 : decode cX12_init 547 = .ok (.return_, 1) := dec_0 oX12_init (of177 _) rfl
theorem dX12_init_55 : decode cX12_init 55 = .ok (.putfield 30, 3) := dec_2 oX12_init (of181 _) 0 30 rfl rfl
theorem dX12_init_58 : decode cX12_init 58 = .ok (.aload_n 0, 1) := dec_0 oX12_init (of42 _) rfl
theorem dX12_init_59 : decode cX12_init 59 = .ok (.bipush 13, 2) := dec_s1 oX12_init (of16 _) 13 rfl (sg8p rfl) rfl
theorem dX12_init_61 : decode cX12_init 61 = .ok (.newarray .long, 2) := by decide +kernel
theorem dX12_init_63 : decode cX12_init 63 = .ok (.putfield 34, 3) := dec_2 oX12_init (of181 _) 0 34 rfl rfl
theorem dX12_init_66 : decode cX12_init 66 = .ok (.aload_n 0, 1) := dec_0 oX12_init (of42 _) rfl
theorem dX12_init_67 : decode cX12_init 67 = .ok (.iconst (-1), 1) := dec_0 oX12_init (of2 _) rfl
theorem dX12_init_68 : decode cX12_init 68 = .ok (.putfield 37, 3) := dec_2 oX12_init (of181 _) 0 37 rfl rfl
theorem dX12_init_71 : decode cX12_init 71 = .ok (.aload_n 0, 1) := dec_0 oX12_init (of42 _) rfl
theorem dX12_init_72 : decode cX12_init 72 = .ok (.iconst 5, 1) := dec_0 oX12_init (of8 _) rfl
theorem dX12_init_73 : decode cX12_init 73 = .ok (.newarray .long, 2) := by decide +kernel
theorem dX12_init_75 : decode cX12_init 75 = .ok (.putfield 40, 3) := dec_2 oX12_init (of181 _) 0 40 rfl rfl
theorem dX12_init_78 : decode cX12_init 78 = .ok (.aload_n 0, 1) := dec_0 oX12_init (of42 _) rfl
theorem dX12_init_79 : decode cX12_init 79 = .ok (.iconst 2, 1) := dec_0 oX12_init (of5 _) rfl
theorem dX12_init_8 : decode cX12_init 8 = .ok (.newarray .byte, 2) := by decide +kernel
theorem dX12_init_80 : decode cX12_init 80 = .ok (.newarray .int, 2) := by decide +kernel
theorem dX12_init_82 : decode cX12_init 82 = .ok (.putfield 43, 3) := dec_2 oX12_init (of181 _) 0 43 rfl rfl
theorem dX12_init_85 : decode cX12_init 85 = .ok (.aload_n 0, 1) := dec_0 oX12_init (of42 _) rfl
theorem dX12_init_86 : decode cX12_init 86 = .ok (.sipush 320, 3) := dec_s2 oX12_init (of17 _) 1 64 rfl (sg16p rfl) rfl
theorem dX12_init_89 : decode cX12_init 89 = .ok (.newarray .int, 2) := by decide +kernel
theorem dX12_init_91 : decode cX12_init 91 = .ok (.putfield 46, 3) := dec_2 oX12_init (of181 _) 0 46 rfl rfl
theorem dX12_init_94 : decode cX12_init 94 = .ok (.aload_n 0, 1) := dec_0 oX12_init (of42 _) rfl
theorem dX12_init_95 : decode cX12_init 95 = .ok (.iconst 2, 1) := dec_0 oX12_init (of5 _) rfl
theorem dX12_init_96 : decode cX12_init 96 = .ok (.newarray .int, 2) := by decide +kernel
theorem dX12_init_98 : decode cX12_init 98 = .ok (.putfield 49, 3) := dec_2 oX12_init (of181 _) 0 49 rfl rfl
theorem dX12_isOf_0 : decode cX12_isOf 0 = .ok (.aload_n 0, 1) := dec_0 oX12_isOf (of42 _) rfl
theorem dX12_isOf_1 : decode cX12_isOf 1 = .ok (.iload_n 1, 1) := dec_0 oX12_isOf (of27 _) rfl
theorem dX12_isOf_2 : decode cX12_isOf 2 = .ok (.invokevirtual 251, 3) := dec_2 oX12_isOf (of182 _) 0 251 rfl rfl
theorem dX12_isOf_25 : decode cX12_isOf 25 = .ok (.iconst 0, 1) := dec_0 oX12_isOf (of3 _) rfl
theorem dX12_isOf_26 : decode cX12_isOf 26 = .ok (.ireturn, 1) := dec_0 oX12_isOf (of172 _) rfl
theorem dX12_isOf_5 : decode cX12_isOf 5 = .ok (.ifCond .eq 20, 3) := dec_s2 oX12_isOf (of153 _) 0 20 rfl (sg16p rfl) rfl
theorem dX12_isPlace_0 : decode cX12_isPlace 0 = .ok (.iload_n 1, 1) := dec_0 oX12_isPlace (of27 _) rfl
theorem dX12_isPlace_1 : decode cX12_isPlace 1 = .ok (.iconst 0, 1) := dec_0 oX12_isPlace (of3 _) rfl
theorem dX12_isPlace_10 : decode cX12_isPlace 10 = .ok (.invokestatic 244, 3) := dec_2 oX12_isPlace (of184 _) 0 244 rfl rfl
theorem dX12_isPlace_13 : decode cX12_isPlace 13 = .ok (.ireturn, 1) := dec_0 oX12_isPlace (of172 _) rfl
theorem dX12_isPlace_2 : decode cX12_isPlace 2 = .ok (.aload_n 0, 1) := dec_0 oX12_isPlace (of42 _) rfl
theorem dX12_isPlace_3 : decode cX12_isPlace 3 = .ok (.getfield 70, 3) := dec_2 oX12_isPlace (of180 _) 0 70 rfl rfl
theorem dX12_isPlace_6 : decode cX12_isPlace 6 = .ok (.iconst 0, 1) := dec_0 oX12_isPlace (of3 _) rfl
theorem dX12_isPlace_7 : decode cX12_isPlace 7 = .ok (.iaload, 1) := dec_0 oX12_isPlace (of46 _) rfl
theorem dX12_isPlace_8 : decode cX12_isPlace 8 = .ok (.iconst 1, 1) := dec_0 oX12_isPlace (of4 _) rfl
theorem dX12_isPlace_9 : decode cX12_isPlace 9 = .ok (.isub, 1) := dec_0 oX12_isPlace (of100 _) rfl
theorem dX12_isQuery_0 : decode cX12_isQuery 0 = .ok (.iload_n 1, 1) := dec_0 oX12_isQuery (of27 _) rfl
theorem dX12_isQuery_1 : decode cX12_isQuery 1 = .ok (.iconst 0, 1) := dec_0 oX12_isQuery (of3 _) rfl
theorem dX12_isQuery_10 : decode cX12_isQuery 10 = .ok (.iaload, 1) := dec_0 oX12_isQuery (of46 _) rfl
theorem dX12_isQuery_11 : decode cX12_isQuery 11 = .ok (.iconst 1, 1) := dec_0 oX12_isQuery (of4 _) rfl
theorem dX12_isQuery_12 : decode cX12_isQuery 12 = .ok (.isub, 1) := dec_0 oX12_isQuery (of100 _) rfl
theorem dX12_isQuery_13 : decode cX12_isQuery 13 = .ok (.invokestatic 244, 3) := dec_2 oX12_isQuery (of184 _) 0 244 rfl rfl
theorem dX12_isQuery_16 : decode cX12_isQuery 16 = .ok (.ireturn, 1) := dec_0 oX12_isQuery (of172 _) rfl
theorem dX12_isQuery_2 : decode cX12_isQuery 2 = .ok (.aload_n 0, 1) := dec_0 oX12_isQuery (of42 _) rfl
theorem dX12_isQuery_3 : decode cX12_isQuery 3 = .ok (.getfield 49, 3) := dec_2 oX12_isQuery (of180 _) 0 49 rfl rfl
theorem dX12_isQuery_6 : decode cX12_isQuery 6 = .ok (.aload_n 0, 1) := dec_0 oX12_isQuery (of42 _) rfl
theorem dX12_isQuery_7 : decode cX12_isQuery 7 = .ok (.getfield 197, 3) := dec_2 oX12_isQuery (of180 _) 0 197 rfl rfl
theorem dX12_isThere_0 : decode cX12_isThere 0 = .ok (.aload_n 0, 1) := dec_0 oX12_isThere (of42 _) rfl
theorem dX12_isThere_1 : decode cX12_isThere 1 = .ok (.iload_n 1, 1) := dec_0 oX12_isThere (of27 _) rfl
theorem dX12_isThere_2 : decode cX12_isThere 2 = .ok (.invokevirtual 248, 3) := dec_2 oX12_isThere (of182 _) 0 248 rfl rfl
theorem dX12_isThere_25 : decode cX12_isThere 25 = .ok (.iconst 0, 1) := dec_0 oX12_isThere (of3 _) rfl
theorem dX12_isThere_26 : decode cX12_isThere 26 = .ok (.ireturn, 1) := dec_0 oX12_isThere (of172 _) rfl
theorem dX12_isThere_5 : decode cX12_isThere 5 = .ok (.ifCond .eq 20, 3) := dec_s2 oX12_isThere (of153 _) 0 20 rfl (sg16p rfl) rfl
theorem dX12_isWindow_0 : decode cX12_isWindow 0 = .ok (.iload_n 1, 1) := dec_0 oX12_isWindow (of27 _) rfl
theorem dX12_isWindow_1 : decode cX12_isWindow 1 = .ok (.ifCond .lt 20, 3) := dec_s2 oX12_isWindow (of155 _) 0 20 rfl (sg16p rfl) rfl
theorem dX12_isWindow_10 : decode cX12_isWindow 10 = .ok (.aload_n 0, 1) := dec_0 oX12_isWindow (of42 _) rfl
theorem dX12_isWindow_11 : decode cX12_isWindow 11 = .ok (.getfield 70, 3) := dec_2 oX12_isWindow (of180 _) 0 70 rfl rfl
theorem dX12_isWindow_14 : decode cX12_isWindow 14 = .ok (.iconst 0, 1) := dec_0 oX12_isWindow (of3 _) rfl
theorem dX12_isWindow_15 : decode cX12_isWindow 15 = .ok (.iaload, 1) := dec_0 oX12_isWindow (of46 _) rfl
theorem dX12_isWindow_16 : decode cX12_isWindow 16 = .ok (.iload_n 2, 1) := dec_0 oX12_isWindow (of28 _) rfl
theorem dX12_isWindow_17 : decode cX12_isWindow 17 = .ok (.isub, 1) := dec_0 oX12_isWindow (of100 _) rfl
theorem dX12_isWindow_18 : decode cX12_isWindow 18 = .ok (.if_icmp .le 5, 3) := dec_s2 oX12_isWindow (of164 _) 0 5 rfl (sg16p rfl) rfl
theorem dX12_isWindow_21 : decode cX12_isWindow 21 = .ok (.iconst 0, 1) := dec_0 oX12_isWindow (of3 _) rfl
theorem dX12_isWindow_22 : decode cX12_isWindow 22 = .ok (.ireturn, 1) := dec_0 oX12_isWindow (of172 _) rfl
theorem dX12_isWindow_4 : decode cX12_isWindow 4 = .ok (.iload_n 2, 1) := dec_0 oX12_isWindow (of28 _) rfl
theorem dX12_isWindow_5 : decode cX12_isWindow 5 = .ok (.iconst 1, 1) := dec_0 oX12_isWindow (of4 _) rfl
theorem dX12_isWindow_6 : decode cX12_isWindow 6 = .ok (.if_icmp .lt 15, 3) := dec_s2 oX12_isWindow (of161 _) 0 15 rfl (sg16p rfl) rfl
theorem dX12_isWindow_9 : decode cX12_isWindow 9 = .ok (.iload_n 1, 1) := dec_0 oX12_isWindow (of27 _) rfl
theorem dX12_is_0 : decode cX12_is 0 = .ok (.aload_n 0, 1) := dec_0 oX12_is (of42 _) rfl
theorem dX12_is_1 : decode cX12_is 1 = .ok (.getfield 161, 3) := dec_2 oX12_is (of180 _) 0 161 rfl rfl
theorem dX12_is_11 : decode cX12_is 11 = .ok (.aload_n 0, 1) := dec_0 oX12_is (of42 _) rfl
theorem dX12_is_12 : decode cX12_is 12 = .ok (.getfield 164, 3) := dec_2 oX12_is (of180 _) 0 164 rfl rfl
theorem dX12_is_15 : decode cX12_is 15 = .ok (.iaload, 1) := dec_0 oX12_is (of46 _) rfl
theorem dX12_is_16 : decode cX12_is 16 = .ok (.iload_n 1, 1) := dec_0 oX12_is (of27 _) rfl
theorem dX12_is_17 : decode cX12_is 17 = .ok (.if_icmp .ne 7, 3) := dec_s2 oX12_is (of160 _) 0 7 rfl (sg16p rfl) rfl
theorem dX12_is_20 : decode cX12_is 20 = .ok (.iconst 1, 1) := dec_0 oX12_is (of4 _) rfl
theorem dX12_is_21 : decode cX12_is 21 = .ok (.goto 4, 3) := dec_s2 oX12_is (of167 _) 0 4 rfl (sg16p rfl) rfl
theorem dX12_is_25 : decode cX12_is 25 = .ok (.ireturn, 1) := dec_0 oX12_is (of172 _) rfl
theorem dX12_is_4 : decode cX12_is 4 = .ok (.ifCond .ne 20, 3) := dec_s2 oX12_is (of154 _) 0 20 rfl (sg16p rfl) rfl
theorem dX12_is_7 : decode cX12_is 7 = .ok (.aload_n 0, 1) := dec_0 oX12_is (of42 _) rfl
theorem dX12_is_8 : decode cX12_is 8 = .ok (.getfield 20, 3) := dec_2 oX12_is (of180 _) 0 20 rfl rfl
theorem dX12_keepsRow_0 : decode cX12_keepsRow 0 = .ok (.iconst 0, 1) := dec_0 oX12_keepsRow (of3 _) rfl
theorem dX12_keepsRow_1 : decode cX12_keepsRow 1 = .ok (.istore_n 1, 1) := dec_0 oX12_keepsRow (of60 _) rfl
theorem dX12_keepsRow_10 : decode cX12_keepsRow 10 = .ok (.getfield 70, 3) := dec_2 oX12_keepsRow (of180 _) 0 70 rfl rfl
theorem dX12_keepsRow_13 : decode cX12_keepsRow 13 = .ok (.iload_n 1, 1) := dec_0 oX12_keepsRow (of27 _) rfl
theorem dX12_keepsRow_14 : decode cX12_keepsRow 14 = .ok (.aload_n 0, 1) := dec_0 oX12_keepsRow (of42 _) rfl
theorem dX12_keepsRow_15 : decode cX12_keepsRow 15 = .ok (.getfield 73, 3) := dec_2 oX12_keepsRow (of180 _) 0 73 rfl rfl
theorem dX12_keepsRow_18 : decode cX12_keepsRow 18 = .ok (.iload_n 1, 1) := dec_0 oX12_keepsRow (of27 _) rfl
theorem dX12_keepsRow_19 : decode cX12_keepsRow 19 = .ok (.iaload, 1) := dec_0 oX12_keepsRow (of46 _) rfl
theorem dX12_keepsRow_2 : decode cX12_keepsRow 2 = .ok (.iload_n 1, 1) := dec_0 oX12_keepsRow (of27 _) rfl
theorem dX12_keepsRow_20 : decode cX12_keepsRow 20 = .ok (.iastore, 1) := dec_0 oX12_keepsRow (of79 _) rfl
theorem dX12_keepsRow_21 : decode cX12_keepsRow 21 = .ok (.iinc 1 1, 3) := dec_ii oX12_keepsRow (of132 _) 1 1 rfl (sg8p rfl) rfl
theorem dX12_keepsRow_24 : decode cX12_keepsRow 24 = .ok (.goto (-22), 3) := dec_s2 oX12_keepsRow (of167 _) 255 234 rfl (sg16n (k := 22) rfl) rfl
theorem dX12_keepsRow_27 : decode cX12_keepsRow 27 = .ok (.return_, 1) := dec_0 oX12_keepsRow (of177 _) rfl
theorem dX12_keepsRow_3 : decode cX12_keepsRow 3 = .ok (.sipush 165, 3) := dec_s2 oX12_keepsRow (of17 _) 0 165 rfl (sg16p rfl) rfl
theorem dX12_keepsRow_6 : decode cX12_keepsRow 6 = .ok (.if_icmp .ge 21, 3) := dec_s2 oX12_keepsRow (of162 _) 0 21 rfl (sg16p rfl) rfl
theorem dX12_keepsRow_9 : decode cX12_keepsRow 9 = .ok (.aload_n 0, 1) := dec_0 oX12_keepsRow (of42 _) rfl
theorem dX12_kth_0 : decode cX12_kth 0 = .ok (.aload_n 0, 1) := dec_0 oX12_kth (of42 _) rfl
theorem dX12_kth_1 : decode cX12_kth 1 = .ok (.iload_n 1, 1) := dec_0 oX12_kth (of27 _) rfl
theorem dX12_kth_2 : decode cX12_kth 2 = .ok (.invokevirtual 251, 3) := dec_2 oX12_kth (of182 _) 0 251 rfl rfl
theorem dX12_kth_21 : decode cX12_kth 21 = .ok (.iconst (-1), 1) := dec_0 oX12_kth (of2 _) rfl
theorem dX12_kth_22 : decode cX12_kth 22 = .ok (.ireturn, 1) := dec_0 oX12_kth (of172 _) rfl
theorem dX12_kth_5 : decode cX12_kth 5 = .ok (.ifCond .eq 16, 3) := dec_s2 oX12_kth (of153 _) 0 16 rfl (sg16p rfl) rfl
theorem dX12_lays_0 : decode cX12_lays 0 = .ok (.bipush 24, 2) := dec_s1 oX12_lays (of16 _) 24 rfl (sg8p rfl) rfl
theorem dX12_lays_11 : decode cX12_lays 11 = .ok (.aload_n 0, 1) := dec_0 oX12_lays (of42 _) rfl
theorem dX12_lays_12 : decode cX12_lays 12 = .ok (.getfield 124, 3) := dec_2 oX12_lays (of180 _) 0 124 rfl rfl
theorem dX12_lays_15 : decode cX12_lays 15 = .ok (.iload_n 1, 1) := dec_0 oX12_lays (of27 _) rfl
theorem dX12_lays_16 : decode cX12_lays 16 = .ok (.iload_n 2, 1) := dec_0 oX12_lays (of28 _) rfl
theorem dX12_lays_17 : decode cX12_lays 17 = .ok (.ishr, 1) := dec_0 oX12_lays (of122 _) rfl
theorem dX12_lays_18 : decode cX12_lays 18 = .ok (.i2b, 1) := dec_0 oX12_lays (of145 _) rfl
theorem dX12_lays_19 : decode cX12_lays 19 = .ok (.bastore, 1) := dec_0 oX12_lays (of84 _) rfl
theorem dX12_lays_2 : decode cX12_lays 2 = .ok (.istore_n 2, 1) := dec_0 oX12_lays (of61 _) rfl
theorem dX12_lays_20 : decode cX12_lays 20 = .ok (.aload_n 0, 1) := dec_0 oX12_lays (of42 _) rfl
theorem dX12_lays_21 : decode cX12_lays 21 = .ok (.dup, 1) := dec_0 oX12_lays (of89 _) rfl
theorem dX12_lays_22 : decode cX12_lays 22 = .ok (.getfield 124, 3) := dec_2 oX12_lays (of180 _) 0 124 rfl rfl
theorem dX12_lays_25 : decode cX12_lays 25 = .ok (.iconst 1, 1) := dec_0 oX12_lays (of4 _) rfl
theorem dX12_lays_26 : decode cX12_lays 26 = .ok (.iadd, 1) := dec_0 oX12_lays (of96 _) rfl
theorem dX12_lays_27 : decode cX12_lays 27 = .ok (.putfield 124, 3) := dec_2 oX12_lays (of181 _) 0 124 rfl rfl
theorem dX12_lays_3 : decode cX12_lays 3 = .ok (.iload_n 2, 1) := dec_0 oX12_lays (of28 _) rfl
theorem dX12_lays_30 : decode cX12_lays 30 = .ok (.iinc 2 (-8), 3) := dec_ii oX12_lays (of132 _) 2 248 rfl (sg8n (k := 8) rfl) rfl
theorem dX12_lays_33 : decode cX12_lays 33 = .ok (.goto (-30), 3) := dec_s2 oX12_lays (of167 _) 255 226 rfl (sg16n (k := 30) rfl) rfl
theorem dX12_lays_36 : decode cX12_lays 36 = .ok (.return_, 1) := dec_0 oX12_lays (of177 _) rfl
theorem dX12_lays_4 : decode cX12_lays 4 = .ok (.ifCond .lt 32, 3) := dec_s2 oX12_lays (of155 _) 0 32 rfl (sg16p rfl) rfl
theorem dX12_lays_7 : decode cX12_lays 7 = .ok (.aload_n 0, 1) := dec_0 oX12_lays (of42 _) rfl
theorem dX12_lays_8 : decode cX12_lays 8 = .ok (.getfield 13, 3) := dec_2 oX12_lays (of180 _) 0 13 rfl rfl
theorem dX12_lean_0 : decode cX12_lean 0 = .ok (.aload_n 0, 1) := dec_0 oX12_lean (of42 _) rfl
theorem dX12_lean_1 : decode cX12_lean 1 = .ok (.iload_n 1, 1) := dec_0 oX12_lean (of27 _) rfl
theorem dX12_lean_18 : decode cX12_lean 18 = .ok (.iconst (-1), 1) := dec_0 oX12_lean (of2 _) rfl
theorem dX12_lean_19 : decode cX12_lean 19 = .ok (.ireturn, 1) := dec_0 oX12_lean (of172 _) rfl
theorem dX12_lean_2 : decode cX12_lean 2 = .ok (.iload_n 2, 1) := dec_0 oX12_lean (of28 _) rfl
theorem dX12_lean_3 : decode cX12_lean 3 = .ok (.invokevirtual 342, 3) := dec_2 oX12_lean (of182 _) 1 86 rfl rfl
theorem dX12_lean_6 : decode cX12_lean 6 = .ok (.ifCond .eq 12, 3) := dec_s2 oX12_lean (of153 _) 0 12 rfl (sg16p rfl) rfl
theorem dX12_letters_0 : decode cX12_letters 0 = .ok (.lconst 0, 1) := dec_0 oX12_letters (of9 _) rfl
theorem dX12_letters_1 : decode cX12_letters 1 = .ok (.iload_n 0, 1) := dec_0 oX12_letters (of26 _) rfl
theorem dX12_letters_10 : decode cX12_letters 10 = .ok (.invokestatic 135, 3) := dec_2 oX12_letters (of184 _) 0 135 rfl rfl
theorem dX12_letters_13 : decode cX12_letters 13 = .ok (.iload_n 3, 1) := dec_0 oX12_letters (of29 _) rfl
theorem dX12_letters_14 : decode cX12_letters 14 = .ok (.invokestatic 135, 3) := dec_2 oX12_letters (of184 _) 0 135 rfl rfl
theorem dX12_letters_17 : decode cX12_letters 17 = .ok (.iload 4, 2) := dec_1 oX12_letters (of21 _) 4 rfl rfl
theorem dX12_letters_19 : decode cX12_letters 19 = .ok (.invokestatic 135, 3) := dec_2 oX12_letters (of184 _) 0 135 rfl rfl
theorem dX12_letters_2 : decode cX12_letters 2 = .ok (.invokestatic 135, 3) := dec_2 oX12_letters (of184 _) 0 135 rfl rfl
theorem dX12_letters_22 : decode cX12_letters 22 = .ok (.iload 5, 2) := dec_1 oX12_letters (of21 _) 5 rfl rfl
theorem dX12_letters_24 : decode cX12_letters 24 = .ok (.invokestatic 135, 3) := dec_2 oX12_letters (of184 _) 0 135 rfl rfl
theorem dX12_letters_27 : decode cX12_letters 27 = .ok (.iload 6, 2) := dec_1 oX12_letters (of21 _) 6 rfl rfl
theorem dX12_letters_29 : decode cX12_letters 29 = .ok (.invokestatic 135, 3) := dec_2 oX12_letters (of184 _) 0 135 rfl rfl
theorem dX12_letters_32 : decode cX12_letters 32 = .ok (.lreturn, 1) := dec_0 oX12_letters (of173 _) rfl
theorem dX12_letters_5 : decode cX12_letters 5 = .ok (.iload_n 1, 1) := dec_0 oX12_letters (of27 _) rfl
theorem dX12_letters_6 : decode cX12_letters 6 = .ok (.invokestatic 135, 3) := dec_2 oX12_letters (of184 _) 0 135 rfl rfl
theorem dX12_letters_9 : decode cX12_letters 9 = .ok (.iload_n 2, 1) := dec_0 oX12_letters (of28 _) rfl
theorem dX12_level_0 : decode cX12_level 0 = .ok (.iload_n 2, 1) := dec_0 oX12_level (of28 _) rfl
theorem dX12_level_1 : decode cX12_level 1 = .ok (.iconst 2, 1) := dec_0 oX12_level (of5 _) rfl
theorem dX12_level_10 : decode cX12_level 10 = .ok (.aload_n 0, 1) := dec_0 oX12_level (of42 _) rfl
theorem dX12_level_11 : decode cX12_level 11 = .ok (.iload_n 1, 1) := dec_0 oX12_level (of27 _) rfl
theorem dX12_level_12 : decode cX12_level 12 = .ok (.iload_n 2, 1) := dec_0 oX12_level (of28 _) rfl
theorem dX12_level_13 : decode cX12_level 13 = .ok (.invokevirtual 257, 3) := dec_2 oX12_level (of182 _) 1 1 rfl rfl
theorem dX12_level_16 : decode cX12_level 16 = .ok (.ifCond .eq 14, 3) := dec_s2 oX12_level (of153 _) 0 14 rfl (sg16p rfl) rfl
theorem dX12_level_2 : decode cX12_level 2 = .ok (.bipush 16, 2) := dec_s1 oX12_level (of16 _) 16 rfl (sg8p rfl) rfl
theorem dX12_level_30 : decode cX12_level 30 = .ok (.ldc_w 332, 3) := dec_2 oX12_level (of19 _) 1 76 rfl rfl
theorem dX12_level_33 : decode cX12_level 33 = .ok (.ireturn, 1) := dec_0 oX12_level (of172 _) rfl
theorem dX12_level_4 : decode cX12_level 4 = .ok (.invokestatic 244, 3) := dec_2 oX12_level (of184 _) 0 244 rfl rfl
theorem dX12_level_7 : decode cX12_level 7 = .ok (.ifCond .eq 23, 3) := dec_s2 oX12_level (of153 _) 0 23 rfl (sg16p rfl) rfl
theorem dX12_look_0 : decode cX12_look 0 = .ok (.aload_n 0, 1) := dec_0 oX12_look (of42 _) rfl
theorem dX12_look_1 : decode cX12_look 1 = .ok (.iload_n 1, 1) := dec_0 oX12_look (of27 _) rfl
theorem dX12_look_2 : decode cX12_look 2 = .ok (.iload_n 2, 1) := dec_0 oX12_look (of28 _) rfl
theorem dX12_look_23 : decode cX12_look 23 = .ok (.iconst (-1), 1) := dec_0 oX12_look (of2 _) rfl
theorem dX12_look_24 : decode cX12_look 24 = .ok (.ireturn, 1) := dec_0 oX12_look (of172 _) rfl
theorem dX12_look_3 : decode cX12_look 3 = .ok (.invokevirtual 342, 3) := dec_2 oX12_look (of182 _) 1 86 rfl rfl
theorem dX12_look_6 : decode cX12_look 6 = .ok (.ifCond .eq 17, 3) := dec_s2 oX12_look (of153 _) 0 17 rfl (sg16p rfl) rfl
theorem dX12_match_0 : decode cX12_match 0 = .ok (.aload_n 0, 1) := dec_0 oX12_match (of42 _) rfl
theorem dX12_match_1 : decode cX12_match 1 = .ok (.iload_n 1, 1) := dec_0 oX12_match (of27 _) rfl
theorem dX12_match_2 : decode cX12_match 2 = .ok (.invokevirtual 251, 3) := dec_2 oX12_match (of182 _) 0 251 rfl rfl
theorem dX12_match_21 : decode cX12_match 21 = .ok (.iconst (-1), 1) := dec_0 oX12_match (of2 _) rfl
theorem dX12_match_22 : decode cX12_match 22 = .ok (.ireturn, 1) := dec_0 oX12_match (of172 _) rfl
theorem dX12_match_5 : decode cX12_match 5 = .ok (.ifCond .eq 16, 3) := dec_s2 oX12_match (of153 _) 0 16 rfl (sg16p rfl) rfl
theorem dX12_mend_0 : decode cX12_mend 0 = .ok (.aload_n 0, 1) := dec_0 oX12_mend (of42 _) rfl
theorem dX12_mend_1 : decode cX12_mend 1 = .ok (.iload_n 1, 1) := dec_0 oX12_mend (of27 _) rfl
theorem dX12_mend_2 : decode cX12_mend 2 = .ok (.invokevirtual 248, 3) := dec_2 oX12_mend (of182 _) 0 248 rfl rfl
theorem dX12_mend_36 : decode cX12_mend 36 = .ok (.sipush (-1000), 3) := dec_s2 oX12_mend (of17 _) 252 24 rfl (sg16n (k := 1000) rfl) rfl
theorem dX12_mend_39 : decode cX12_mend 39 = .ok (.ireturn, 1) := dec_0 oX12_mend (of172 _) rfl
theorem dX12_mend_5 : decode cX12_mend 5 = .ok (.ifCond .eq 31, 3) := dec_s2 oX12_mend (of153 _) 0 31 rfl (sg16p rfl) rfl
theorem dX12_near_0 : decode cX12_near 0 = .ok (.iload_n 2, 1) := dec_0 oX12_near (of28 _) rfl
theorem dX12_near_1 : decode cX12_near 1 = .ok (.iconst 2, 1) := dec_0 oX12_near (of5 _) rfl
theorem dX12_near_10 : decode cX12_near 10 = .ok (.aload_n 0, 1) := dec_0 oX12_near (of42 _) rfl
theorem dX12_near_11 : decode cX12_near 11 = .ok (.iload_n 1, 1) := dec_0 oX12_near (of27 _) rfl
theorem dX12_near_12 : decode cX12_near 12 = .ok (.iload_n 2, 1) := dec_0 oX12_near (of28 _) rfl
theorem dX12_near_13 : decode cX12_near 13 = .ok (.invokevirtual 257, 3) := dec_2 oX12_near (of182 _) 1 1 rfl rfl
theorem dX12_near_16 : decode cX12_near 16 = .ok (.ifCond .eq 12, 3) := dec_s2 oX12_near (of153 _) 0 12 rfl (sg16p rfl) rfl
theorem dX12_near_2 : decode cX12_near 2 = .ok (.bipush 16, 2) := dec_s1 oX12_near (of16 _) 16 rfl (sg8p rfl) rfl
theorem dX12_near_28 : decode cX12_near 28 = .ok (.iconst (-1), 1) := dec_0 oX12_near (of2 _) rfl
theorem dX12_near_29 : decode cX12_near 29 = .ok (.ireturn, 1) := dec_0 oX12_near (of172 _) rfl
theorem dX12_near_4 : decode cX12_near 4 = .ok (.invokestatic 244, 3) := dec_2 oX12_near (of184 _) 0 244 rfl rfl
theorem dX12_near_7 : decode cX12_near 7 = .ok (.ifCond .eq 21, 3) := dec_s2 oX12_near (of153 _) 0 21 rfl (sg16p rfl) rfl
theorem dX12_needs_0 : decode cX12_needs 0 = .ok (.aload_n 0, 1) := dec_0 oX12_needs (of42 _) rfl
theorem dX12_needs_1 : decode cX12_needs 1 = .ok (.iload_n 1, 1) := dec_0 oX12_needs (of27 _) rfl
theorem dX12_needs_10 : decode cX12_needs 10 = .ok (.ireturn, 1) := dec_0 oX12_needs (of172 _) rfl
theorem dX12_needs_2 : decode cX12_needs 2 = .ok (.iload_n 2, 1) := dec_0 oX12_needs (of28 _) rfl
theorem dX12_needs_3 : decode cX12_needs 3 = .ok (.invokevirtual 342, 3) := dec_2 oX12_needs (of182 _) 1 86 rfl rfl
theorem dX12_needs_6 : decode cX12_needs 6 = .ok (.ifCond .ne 5, 3) := dec_s2 oX12_needs (of154 _) 0 5 rfl (sg16p rfl) rfl
theorem dX12_needs_9 : decode cX12_needs 9 = .ok (.iconst (-1), 1) := dec_0 oX12_needs (of2 _) rfl
theorem dX12_odd_0 : decode cX12_odd 0 = .ok (.iload_n 1, 1) := dec_0 oX12_odd (of27 _) rfl
theorem dX12_odd_1 : decode cX12_odd 1 = .ok (.iconst 2, 1) := dec_0 oX12_odd (of5 _) rfl
theorem dX12_odd_10 : decode cX12_odd 10 = .ok (.iload_n 2, 1) := dec_0 oX12_odd (of28 _) rfl
theorem dX12_odd_101 : decode cX12_odd 101 = .ok (.iload 4, 2) := dec_1 oX12_odd (of21 _) 4 rfl rfl
theorem dX12_odd_103 : decode cX12_odd 103 = .ok (.ireturn, 1) := dec_0 oX12_odd (of172 _) rfl
theorem dX12_odd_11 : decode cX12_odd 11 = .ok (.iconst 0, 1) := dec_0 oX12_odd (of3 _) rfl
theorem dX12_odd_12 : decode cX12_odd 12 = .ok (.iconst 1, 1) := dec_0 oX12_odd (of4 _) rfl
theorem dX12_odd_13 : decode cX12_odd 13 = .ok (.invokestatic 244, 3) := dec_2 oX12_odd (of184 _) 0 244 rfl rfl
theorem dX12_odd_16 : decode cX12_odd 16 = .ok (.ifCond .ne 5, 3) := dec_s2 oX12_odd (of154 _) 0 5 rfl (sg16p rfl) rfl
theorem dX12_odd_19 : decode cX12_odd 19 = .ok (.iconst (-1), 1) := dec_0 oX12_odd (of2 _) rfl
theorem dX12_odd_2 : decode cX12_odd 2 = .ok (.bipush 16, 2) := dec_s1 oX12_odd (of16 _) 16 rfl (sg8p rfl) rfl
theorem dX12_odd_20 : decode cX12_odd 20 = .ok (.ireturn, 1) := dec_0 oX12_odd (of172 _) rfl
theorem dX12_odd_21 : decode cX12_odd 21 = .ok (.aload_n 0, 1) := dec_0 oX12_odd (of42 _) rfl
theorem dX12_odd_22 : decode cX12_odd 22 = .ok (.invokevirtual 323, 3) := dec_2 oX12_odd (of182 _) 1 67 rfl rfl
theorem dX12_odd_25 : decode cX12_odd 25 = .ok (.bipush (-2), 2) := dec_s1 oX12_odd (of16 _) 254 rfl (sg8n (k := 2) rfl) rfl
theorem dX12_odd_27 : decode cX12_odd 27 = .ok (.istore_n 3, 1) := dec_0 oX12_odd (of62 _) rfl
theorem dX12_odd_28 : decode cX12_odd 28 = .ok (.bipush (-2), 2) := dec_s1 oX12_odd (of16 _) 254 rfl (sg8n (k := 2) rfl) rfl
theorem dX12_odd_30 : decode cX12_odd 30 = .ok (.istore 4, 2) := dec_1 oX12_odd (of54 _) 4 rfl rfl
theorem dX12_odd_32 : decode cX12_odd 32 = .ok (.iconst 0, 1) := dec_0 oX12_odd (of3 _) rfl
theorem dX12_odd_33 : decode cX12_odd 33 = .ok (.istore 5, 2) := dec_1 oX12_odd (of54 _) 5 rfl rfl
theorem dX12_odd_35 : decode cX12_odd 35 = .ok (.iload 5, 2) := dec_1 oX12_odd (of21 _) 5 rfl rfl
theorem dX12_odd_37 : decode cX12_odd 37 = .ok (.aload_n 0, 1) := dec_0 oX12_odd (of42 _) rfl
theorem dX12_odd_38 : decode cX12_odd 38 = .ok (.getfield 70, 3) := dec_2 oX12_odd (of180 _) 0 70 rfl rfl
theorem dX12_odd_4 : decode cX12_odd 4 = .ok (.invokestatic 244, 3) := dec_2 oX12_odd (of184 _) 0 244 rfl rfl
theorem dX12_odd_41 : decode cX12_odd 41 = .ok (.iconst 0, 1) := dec_0 oX12_odd (of3 _) rfl
theorem dX12_odd_42 : decode cX12_odd 42 = .ok (.iaload, 1) := dec_0 oX12_odd (of46 _) rfl
theorem dX12_odd_43 : decode cX12_odd 43 = .ok (.if_icmp .ge 50, 3) := dec_s2 oX12_odd (of162 _) 0 50 rfl (sg16p rfl) rfl
theorem dX12_odd_7 : decode cX12_odd 7 = .ok (.ifCond .eq 12, 3) := dec_s2 oX12_odd (of153 _) 0 12 rfl (sg16p rfl) rfl
theorem dX12_odd_93 : decode cX12_odd 93 = .ok (.iload_n 2, 1) := dec_0 oX12_odd (of28 _) rfl
theorem dX12_odd_94 : decode cX12_odd 94 = .ok (.ifCond .ne 7, 3) := dec_s2 oX12_odd (of154 _) 0 7 rfl (sg16p rfl) rfl
theorem dX12_odd_97 : decode cX12_odd 97 = .ok (.iload_n 3, 1) := dec_0 oX12_odd (of29 _) rfl
theorem dX12_odd_98 : decode cX12_odd 98 = .ok (.goto 5, 3) := dec_s2 oX12_odd (of167 _) 0 5 rfl (sg16p rfl) rfl
theorem dX12_pair_0 : decode cX12_pair 0 = .ok (.iload_n 1, 1) := dec_0 oX12_pair (of27 _) rfl
theorem dX12_pair_1 : decode cX12_pair 1 = .ok (.iconst 2, 1) := dec_0 oX12_pair (of5 _) rfl
theorem dX12_pair_10 : decode cX12_pair 10 = .ok (.iload_n 2, 1) := dec_0 oX12_pair (of28 _) rfl
theorem dX12_pair_11 : decode cX12_pair 11 = .ok (.iconst 0, 1) := dec_0 oX12_pair (of3 _) rfl
theorem dX12_pair_12 : decode cX12_pair 12 = .ok (.iconst 2, 1) := dec_0 oX12_pair (of5 _) rfl
theorem dX12_pair_13 : decode cX12_pair 13 = .ok (.invokestatic 244, 3) := dec_2 oX12_pair (of184 _) 0 244 rfl rfl
theorem dX12_pair_148 : decode cX12_pair 148 = .ok (.iload_n 2, 1) := dec_0 oX12_pair (of28 _) rfl
theorem dX12_pair_149 : decode cX12_pair 149 = .ok (.ifCond .ne 7, 3) := dec_s2 oX12_pair (of154 _) 0 7 rfl (sg16p rfl) rfl
theorem dX12_pair_152 : decode cX12_pair 152 = .ok (.iload_n 3, 1) := dec_0 oX12_pair (of29 _) rfl
theorem dX12_pair_153 : decode cX12_pair 153 = .ok (.goto 15, 3) := dec_s2 oX12_pair (of167 _) 0 15 rfl (sg16p rfl) rfl
theorem dX12_pair_156 : decode cX12_pair 156 = .ok (.iload_n 2, 1) := dec_0 oX12_pair (of28 _) rfl
theorem dX12_pair_157 : decode cX12_pair 157 = .ok (.iconst 1, 1) := dec_0 oX12_pair (of4 _) rfl
theorem dX12_pair_158 : decode cX12_pair 158 = .ok (.if_icmp .ne 8, 3) := dec_s2 oX12_pair (of160 _) 0 8 rfl (sg16p rfl) rfl
theorem dX12_pair_16 : decode cX12_pair 16 = .ok (.ifCond .ne 5, 3) := dec_s2 oX12_pair (of154 _) 0 5 rfl (sg16p rfl) rfl
theorem dX12_pair_161 : decode cX12_pair 161 = .ok (.iload 4, 2) := dec_1 oX12_pair (of21 _) 4 rfl rfl
theorem dX12_pair_163 : decode cX12_pair 163 = .ok (.goto 5, 3) := dec_s2 oX12_pair (of167 _) 0 5 rfl (sg16p rfl) rfl
theorem dX12_pair_166 : decode cX12_pair 166 = .ok (.iload 5, 2) := dec_1 oX12_pair (of21 _) 5 rfl rfl
theorem dX12_pair_168 : decode cX12_pair 168 = .ok (.ireturn, 1) := dec_0 oX12_pair (of172 _) rfl
theorem dX12_pair_19 : decode cX12_pair 19 = .ok (.iconst (-1), 1) := dec_0 oX12_pair (of2 _) rfl
theorem dX12_pair_2 : decode cX12_pair 2 = .ok (.bipush 16, 2) := dec_s1 oX12_pair (of16 _) 16 rfl (sg8p rfl) rfl
theorem dX12_pair_20 : decode cX12_pair 20 = .ok (.ireturn, 1) := dec_0 oX12_pair (of172 _) rfl
theorem dX12_pair_21 : decode cX12_pair 21 = .ok (.aload_n 0, 1) := dec_0 oX12_pair (of42 _) rfl
theorem dX12_pair_22 : decode cX12_pair 22 = .ok (.invokevirtual 323, 3) := dec_2 oX12_pair (of182 _) 1 67 rfl rfl
theorem dX12_pair_25 : decode cX12_pair 25 = .ok (.bipush (-2), 2) := dec_s1 oX12_pair (of16 _) 254 rfl (sg8n (k := 2) rfl) rfl
theorem dX12_pair_27 : decode cX12_pair 27 = .ok (.istore_n 3, 1) := dec_0 oX12_pair (of62 _) rfl
theorem dX12_pair_28 : decode cX12_pair 28 = .ok (.bipush (-2), 2) := dec_s1 oX12_pair (of16 _) 254 rfl (sg8n (k := 2) rfl) rfl
theorem dX12_pair_30 : decode cX12_pair 30 = .ok (.istore 4, 2) := dec_1 oX12_pair (of54 _) 4 rfl rfl
theorem dX12_pair_32 : decode cX12_pair 32 = .ok (.bipush (-2), 2) := dec_s1 oX12_pair (of16 _) 254 rfl (sg8n (k := 2) rfl) rfl
theorem dX12_pair_34 : decode cX12_pair 34 = .ok (.istore 5, 2) := dec_1 oX12_pair (of54 _) 5 rfl rfl
theorem dX12_pair_36 : decode cX12_pair 36 = .ok (.iconst 0, 1) := dec_0 oX12_pair (of3 _) rfl
theorem dX12_pair_37 : decode cX12_pair 37 = .ok (.istore 6, 2) := dec_1 oX12_pair (of54 _) 6 rfl rfl
theorem dX12_pair_39 : decode cX12_pair 39 = .ok (.iload 6, 2) := dec_1 oX12_pair (of21 _) 6 rfl rfl
theorem dX12_pair_4 : decode cX12_pair 4 = .ok (.invokestatic 244, 3) := dec_2 oX12_pair (of184 _) 0 244 rfl rfl
theorem dX12_pair_41 : decode cX12_pair 41 = .ok (.aload_n 0, 1) := dec_0 oX12_pair (of42 _) rfl
theorem dX12_pair_42 : decode cX12_pair 42 = .ok (.getfield 70, 3) := dec_2 oX12_pair (of180 _) 0 70 rfl rfl
theorem dX12_pair_45 : decode cX12_pair 45 = .ok (.iconst 0, 1) := dec_0 oX12_pair (of3 _) rfl
theorem dX12_pair_46 : decode cX12_pair 46 = .ok (.iaload, 1) := dec_0 oX12_pair (of46 _) rfl
theorem dX12_pair_47 : decode cX12_pair 47 = .ok (.if_icmp .ge 101, 3) := dec_s2 oX12_pair (of162 _) 0 101 rfl (sg16p rfl) rfl
theorem dX12_pair_7 : decode cX12_pair 7 = .ok (.ifCond .eq 12, 3) := dec_s2 oX12_pair (of153 _) 0 12 rfl (sg16p rfl) rfl
theorem dX12_place_0 : decode cX12_place 0 = .ok (.aload_n 0, 1) := dec_0 oX12_place (of42 _) rfl
theorem dX12_place_1 : decode cX12_place 1 = .ok (.getfield 37, 3) := dec_2 oX12_place (of180 _) 0 37 rfl rfl
theorem dX12_place_4 : decode cX12_place 4 = .ok (.ireturn, 1) := dec_0 oX12_place (of172 _) rfl
theorem dX12_plain_0 : decode cX12_plain 0 = .ok (.aload_n 0, 1) := dec_0 oX12_plain (of42 _) rfl
theorem dX12_plain_1 : decode cX12_plain 1 = .ok (.getfield 43, 3) := dec_2 oX12_plain (of180 _) 0 43 rfl rfl
theorem dX12_plain_11 : decode cX12_plain 11 = .ok (.iload_n 1, 1) := dec_0 oX12_plain (of27 _) rfl
theorem dX12_plain_12 : decode cX12_plain 12 = .ok (.iconst 0, 1) := dec_0 oX12_plain (of3 _) rfl
theorem dX12_plain_13 : decode cX12_plain 13 = .ok (.iastore, 1) := dec_0 oX12_plain (of79 _) rfl
theorem dX12_plain_14 : decode cX12_plain 14 = .ok (.aload_n 0, 1) := dec_0 oX12_plain (of42 _) rfl
theorem dX12_plain_15 : decode cX12_plain 15 = .ok (.getfield 58, 3) := dec_2 oX12_plain (of180 _) 0 58 rfl rfl
theorem dX12_plain_18 : decode cX12_plain 18 = .ok (.iload_n 1, 1) := dec_0 oX12_plain (of27 _) rfl
theorem dX12_plain_19 : decode cX12_plain 19 = .ok (.iconst 2, 1) := dec_0 oX12_plain (of5 _) rfl
theorem dX12_plain_20 : decode cX12_plain 20 = .ok (.iastore, 1) := dec_0 oX12_plain (of79 _) rfl
theorem dX12_plain_21 : decode cX12_plain 21 = .ok (.aload_n 0, 1) := dec_0 oX12_plain (of42 _) rfl
theorem dX12_plain_22 : decode cX12_plain 22 = .ok (.getfield 61, 3) := dec_2 oX12_plain (of180 _) 0 61 rfl rfl
theorem dX12_plain_25 : decode cX12_plain 25 = .ok (.iload_n 1, 1) := dec_0 oX12_plain (of27 _) rfl
theorem dX12_plain_26 : decode cX12_plain 26 = .ok (.iconst 0, 1) := dec_0 oX12_plain (of3 _) rfl
theorem dX12_plain_27 : decode cX12_plain 27 = .ok (.iastore, 1) := dec_0 oX12_plain (of79 _) rfl
theorem dX12_plain_28 : decode cX12_plain 28 = .ok (.aload_n 0, 1) := dec_0 oX12_plain (of42 _) rfl
theorem dX12_plain_29 : decode cX12_plain 29 = .ok (.getfield 64, 3) := dec_2 oX12_plain (of180 _) 0 64 rfl rfl
theorem dX12_plain_32 : decode cX12_plain 32 = .ok (.iload_n 1, 1) := dec_0 oX12_plain (of27 _) rfl
theorem dX12_plain_33 : decode cX12_plain 33 = .ok (.iconst 0, 1) := dec_0 oX12_plain (of3 _) rfl
theorem dX12_plain_34 : decode cX12_plain 34 = .ok (.iastore, 1) := dec_0 oX12_plain (of79 _) rfl
theorem dX12_plain_35 : decode cX12_plain 35 = .ok (.aload_n 0, 1) := dec_0 oX12_plain (of42 _) rfl
theorem dX12_plain_36 : decode cX12_plain 36 = .ok (.getfield 67, 3) := dec_2 oX12_plain (of180 _) 0 67 rfl rfl
theorem dX12_plain_39 : decode cX12_plain 39 = .ok (.iload_n 1, 1) := dec_0 oX12_plain (of27 _) rfl
theorem dX12_plain_4 : decode cX12_plain 4 = .ok (.iload_n 1, 1) := dec_0 oX12_plain (of27 _) rfl
theorem dX12_plain_40 : decode cX12_plain 40 = .ok (.bipush 8, 2) := dec_s1 oX12_plain (of16 _) 8 rfl (sg8p rfl) rfl
theorem dX12_plain_42 : decode cX12_plain 42 = .ok (.iastore, 1) := dec_0 oX12_plain (of79 _) rfl
theorem dX12_plain_43 : decode cX12_plain 43 = .ok (.return_, 1) := dec_0 oX12_plain (of177 _) rfl
theorem dX12_plain_5 : decode cX12_plain 5 = .ok (.iconst 0, 1) := dec_0 oX12_plain (of3 _) rfl
theorem dX12_plain_6 : decode cX12_plain 6 = .ok (.iastore, 1) := dec_0 oX12_plain (of79 _) rfl
theorem dX12_plain_7 : decode cX12_plain 7 = .ok (.aload_n 0, 1) := dec_0 oX12_plain (of42 _) rfl
theorem dX12_plain_8 : decode cX12_plain 8 = .ok (.getfield 49, 3) := dec_2 oX12_plain (of180 _) 0 49 rfl rfl
theorem dX12_push_0 : decode cX12_push 0 = .ok (.iload_n 1, 1) := dec_0 oX12_push (of27 _) rfl
theorem dX12_push_1 : decode cX12_push 1 = .ok (.sipush (-999), 3) := dec_s2 oX12_push (of17 _) 252 25 rfl (sg16n (k := 999) rfl) rfl
theorem dX12_push_10 : decode cX12_push 10 = .ok (.ifCond .eq 11, 3) := dec_s2 oX12_push (of153 _) 0 11 rfl (sg16p rfl) rfl
theorem dX12_push_13 : decode cX12_push 13 = .ok (.aload_n 0, 1) := dec_0 oX12_push (of42 _) rfl
theorem dX12_push_14 : decode cX12_push 14 = .ok (.iload_n 1, 1) := dec_0 oX12_push (of27 _) rfl
theorem dX12_push_15 : decode cX12_push 15 = .ok (.invokevirtual 329, 3) := dec_2 oX12_push (of182 _) 1 73 rfl rfl
theorem dX12_push_18 : decode cX12_push 18 = .ok (.goto 4, 3) := dec_s2 oX12_push (of167 _) 0 4 rfl (sg16p rfl) rfl
theorem dX12_push_21 : decode cX12_push 21 = .ok (.iconst (-1), 1) := dec_0 oX12_push (of2 _) rfl
theorem dX12_push_22 : decode cX12_push 22 = .ok (.ireturn, 1) := dec_0 oX12_push (of172 _) rfl
theorem dX12_push_4 : decode cX12_push 4 = .ok (.sipush 999, 3) := dec_s2 oX12_push (of17 _) 3 231 rfl (sg16p rfl) rfl
theorem dX12_push_7 : decode cX12_push 7 = .ok (.invokestatic 244, 3) := dec_2 oX12_push (of184 _) 0 244 rfl rfl
theorem dX12_query_0 : decode cX12_query 0 = .ok (.aload_n 0, 1) := dec_0 oX12_query (of42 _) rfl
theorem dX12_query_1 : decode cX12_query 1 = .ok (.iload_n 1, 1) := dec_0 oX12_query (of27 _) rfl
theorem dX12_query_2 : decode cX12_query 2 = .ok (.invokevirtual 251, 3) := dec_2 oX12_query (of182 _) 0 251 rfl rfl
theorem dX12_query_44 : decode cX12_query 44 = .ok (.sipush (-1000), 3) := dec_s2 oX12_query (of17 _) 252 24 rfl (sg16n (k := 1000) rfl) rfl
theorem dX12_query_47 : decode cX12_query 47 = .ok (.ireturn, 1) := dec_0 oX12_query (of172 _) rfl
theorem dX12_query_5 : decode cX12_query 5 = .ok (.ifCond .eq 39, 3) := dec_s2 oX12_query (of153 _) 0 39 rfl (sg16p rfl) rfl
theorem dX12_rank_0 : decode cX12_rank 0 = .ok (.aload_n 0, 1) := dec_0 oX12_rank (of42 _) rfl
theorem dX12_rank_1 : decode cX12_rank 1 = .ok (.iload_n 1, 1) := dec_0 oX12_rank (of27 _) rfl
theorem dX12_rank_10 : decode cX12_rank 10 = .ok (.ireturn, 1) := dec_0 oX12_rank (of172 _) rfl
theorem dX12_rank_2 : decode cX12_rank 2 = .ok (.iload_n 2, 1) := dec_0 oX12_rank (of28 _) rfl
theorem dX12_rank_3 : decode cX12_rank 3 = .ok (.invokevirtual 342, 3) := dec_2 oX12_rank (of182 _) 1 86 rfl rfl
theorem dX12_rank_6 : decode cX12_rank 6 = .ok (.ifCond .ne 5, 3) := dec_s2 oX12_rank (of154 _) 0 5 rfl (sg16p rfl) rfl
theorem dX12_rank_9 : decode cX12_rank 9 = .ok (.iconst (-1), 1) := dec_0 oX12_rank (of2 _) rfl
theorem dX12_read_0 : decode cX12_read 0 = .ok (.aload_n 0, 1) := dec_0 oX12_read (of42 _) rfl
theorem dX12_read_1 : decode cX12_read 1 = .ok (.aload_n 0, 1) := dec_0 oX12_read (of42 _) rfl
theorem dX12_read_10 : decode cX12_read 10 = .ok (.iload_n 1, 1) := dec_0 oX12_read (of27 _) rfl
theorem dX12_read_101 : decode cX12_read 101 = .ok (.ifCond .ne 10, 3) := dec_s2 oX12_read (of154 _) 0 10 rfl (sg16p rfl) rfl
theorem dX12_read_11 : decode cX12_read 11 = .ok (.aload_n 0, 1) := dec_0 oX12_read (of42 _) rfl
theorem dX12_read_111 : decode cX12_read 111 = .ok (.aload_n 0, 1) := dec_0 oX12_read (of42 _) rfl
theorem dX12_read_112 : decode cX12_read 112 = .ok (.aload_n 0, 1) := dec_0 oX12_read (of42 _) rfl
theorem dX12_read_113 : decode cX12_read 113 = .ok (.getfield 161, 3) := dec_2 oX12_read (of180 _) 0 161 rfl rfl
theorem dX12_read_116 : decode cX12_read 116 = .ok (.ifCond .le 10, 3) := dec_s2 oX12_read (of158 _) 0 10 rfl (sg16p rfl) rfl
theorem dX12_read_12 : decode cX12_read 12 = .ok (.getfield 130, 3) := dec_2 oX12_read (of180 _) 0 130 rfl rfl
theorem dX12_read_126 : decode cX12_read 126 = .ok (.aload_n 0, 1) := dec_0 oX12_read (of42 _) rfl
theorem dX12_read_127 : decode cX12_read 127 = .ok (.getfield 176, 3) := dec_2 oX12_read (of180 _) 0 176 rfl rfl
theorem dX12_read_130 : decode cX12_read 130 = .ok (.ifCond .le 10, 3) := dec_s2 oX12_read (of158 _) 0 10 rfl (sg16p rfl) rfl
theorem dX12_read_140 : decode cX12_read 140 = .ok (.iconst (-1), 1) := dec_0 oX12_read (of2 _) rfl
theorem dX12_read_141 : decode cX12_read 141 = .ok (.putfield 37, 3) := dec_2 oX12_read (of181 _) 0 37 rfl rfl
theorem dX12_read_144 : decode cX12_read 144 = .ok (.aload_n 0, 1) := dec_0 oX12_read (of42 _) rfl
theorem dX12_read_145 : decode cX12_read 145 = .ok (.aload_n 0, 1) := dec_0 oX12_read (of42 _) rfl
theorem dX12_read_146 : decode cX12_read 146 = .ok (.getfield 161, 3) := dec_2 oX12_read (of180 _) 0 161 rfl rfl
theorem dX12_read_149 : decode cX12_read 149 = .ok (.ifCond .le 10, 3) := dec_s2 oX12_read (of158 _) 0 10 rfl (sg16p rfl) rfl
theorem dX12_read_15 : decode cX12_read 15 = .ok (.if_icmp .ge 21, 3) := dec_s2 oX12_read (of162 _) 0 21 rfl (sg16p rfl) rfl
theorem dX12_read_159 : decode cX12_read 159 = .ok (.aload_n 0, 1) := dec_0 oX12_read (of42 _) rfl
theorem dX12_read_160 : decode cX12_read 160 = .ok (.getfield 176, 3) := dec_2 oX12_read (of180 _) 0 176 rfl rfl
theorem dX12_read_163 : decode cX12_read 163 = .ok (.ifCond .le 10, 3) := dec_s2 oX12_read (of158 _) 0 10 rfl (sg16p rfl) rfl
theorem dX12_read_173 : decode cX12_read 173 = .ok (.iconst (-1), 1) := dec_0 oX12_read (of2 _) rfl
theorem dX12_read_174 : decode cX12_read 174 = .ok (.putfield 111, 3) := dec_2 oX12_read (of181 _) 0 111 rfl rfl
theorem dX12_read_177 : decode cX12_read 177 = .ok (.aload_n 0, 1) := dec_0 oX12_read (of42 _) rfl
theorem dX12_read_178 : decode cX12_read 178 = .ok (.getfield 161, 3) := dec_2 oX12_read (of180 _) 0 161 rfl rfl
theorem dX12_read_181 : decode cX12_read 181 = .ok (.ifCond .le 8, 3) := dec_s2 oX12_read (of158 _) 0 8 rfl (sg16p rfl) rfl
theorem dX12_read_189 : decode cX12_read 189 = .ok (.aload_n 0, 1) := dec_0 oX12_read (of42 _) rfl
theorem dX12_read_190 : decode cX12_read 190 = .ok (.getfield 176, 3) := dec_2 oX12_read (of180 _) 0 176 rfl rfl
theorem dX12_read_193 : decode cX12_read 193 = .ok (.ifCond .le 8, 3) := dec_s2 oX12_read (of158 _) 0 8 rfl (sg16p rfl) rfl
theorem dX12_read_2 : decode cX12_read 2 = .ok (.getfield 124, 3) := dec_2 oX12_read (of180 _) 0 124 rfl rfl
theorem dX12_read_201 : decode cX12_read 201 = .ok (.aload_n 0, 1) := dec_0 oX12_read (of42 _) rfl
theorem dX12_read_202 : decode cX12_read 202 = .ok (.aload_n 0, 1) := dec_0 oX12_read (of42 _) rfl
theorem dX12_read_203 : decode cX12_read 203 = .ok (.getfield 200, 3) := dec_2 oX12_read (of180 _) 0 200 rfl rfl
theorem dX12_read_206 : decode cX12_read 206 = .ok (.putfield 197, 3) := dec_2 oX12_read (of181 _) 0 197 rfl rfl
theorem dX12_read_209 : decode cX12_read 209 = .ok (.aload_n 0, 1) := dec_0 oX12_read (of42 _) rfl
theorem dX12_read_210 : decode cX12_read 210 = .ok (.invokevirtual 118, 3) := dec_2 oX12_read (of182 _) 0 118 rfl rfl
theorem dX12_read_213 : decode cX12_read 213 = .ok (.aload_n 0, 1) := dec_0 oX12_read (of42 _) rfl
theorem dX12_read_214 : decode cX12_read 214 = .ok (.invokevirtual 121, 3) := dec_2 oX12_read (of182 _) 0 121 rfl rfl
theorem dX12_read_217 : decode cX12_read 217 = .ok (.aload_n 0, 1) := dec_0 oX12_read (of42 _) rfl
theorem dX12_read_218 : decode cX12_read 218 = .ok (.iconst 0, 1) := dec_0 oX12_read (of3 _) rfl
theorem dX12_read_219 : decode cX12_read 219 = .ok (.putfield 209, 3) := dec_2 oX12_read (of181 _) 0 209 rfl rfl
theorem dX12_read_222 : decode cX12_read 222 = .ok (.iconst 0, 1) := dec_0 oX12_read (of3 _) rfl
theorem dX12_read_223 : decode cX12_read 223 = .ok (.istore_n 1, 1) := dec_0 oX12_read (of60 _) rfl
theorem dX12_read_224 : decode cX12_read 224 = .ok (.iload_n 1, 1) := dec_0 oX12_read (of27 _) rfl
theorem dX12_read_225 : decode cX12_read 225 = .ok (.iconst 3, 1) := dec_0 oX12_read (of6 _) rfl
theorem dX12_read_226 : decode cX12_read 226 = .ok (.if_icmp .ge 16, 3) := dec_s2 oX12_read (of162 _) 0 16 rfl (sg16p rfl) rfl
theorem dX12_read_229 : decode cX12_read 229 = .ok (.aload_n 0, 1) := dec_0 oX12_read (of42 _) rfl
theorem dX12_read_230 : decode cX12_read 230 = .ok (.getfield 100, 3) := dec_2 oX12_read (of180 _) 0 100 rfl rfl
theorem dX12_read_233 : decode cX12_read 233 = .ok (.iload_n 1, 1) := dec_0 oX12_read (of27 _) rfl
theorem dX12_read_234 : decode cX12_read 234 = .ok (.iconst 0, 1) := dec_0 oX12_read (of3 _) rfl
theorem dX12_read_235 : decode cX12_read 235 = .ok (.bastore, 1) := dec_0 oX12_read (of84 _) rfl
theorem dX12_read_236 : decode cX12_read 236 = .ok (.iinc 1 1, 3) := dec_ii oX12_read (of132 _) 1 1 rfl (sg8p rfl) rfl
theorem dX12_read_239 : decode cX12_read 239 = .ok (.goto (-15), 3) := dec_s2 oX12_read (of167 _) 255 241 rfl (sg16n (k := 15) rfl) rfl
theorem dX12_read_242 : decode cX12_read 242 = .ok (.iconst 0, 1) := dec_0 oX12_read (of3 _) rfl
theorem dX12_read_243 : decode cX12_read 243 = .ok (.ireturn, 1) := dec_0 oX12_read (of172 _) rfl
theorem dX12_read_36 : decode cX12_read 36 = .ok (.aload_n 0, 1) := dec_0 oX12_read (of42 _) rfl
theorem dX12_read_37 : decode cX12_read 37 = .ok (.iconst 0, 1) := dec_0 oX12_read (of3 _) rfl
theorem dX12_read_38 : decode cX12_read 38 = .ok (.putfield 124, 3) := dec_2 oX12_read (of181 _) 0 124 rfl rfl
theorem dX12_read_41 : decode cX12_read 41 = .ok (.aload_n 0, 1) := dec_0 oX12_read (of42 _) rfl
theorem dX12_read_42 : decode cX12_read 42 = .ok (.invokevirtual 194, 3) := dec_2 oX12_read (of182 _) 0 194 rfl rfl
theorem dX12_read_45 : decode cX12_read 45 = .ok (.aload_n 0, 1) := dec_0 oX12_read (of42 _) rfl
theorem dX12_read_46 : decode cX12_read 46 = .ok (.iconst 0, 1) := dec_0 oX12_read (of3 _) rfl
theorem dX12_read_47 : decode cX12_read 47 = .ok (.putfield 164, 3) := dec_2 oX12_read (of181 _) 0 164 rfl rfl
theorem dX12_read_5 : decode cX12_read 5 = .ok (.putfield 130, 3) := dec_2 oX12_read (of181 _) 0 130 rfl rfl
theorem dX12_read_50 : decode cX12_read 50 = .ok (.aload_n 0, 1) := dec_0 oX12_read (of42 _) rfl
theorem dX12_read_51 : decode cX12_read 51 = .ok (.iconst 0, 1) := dec_0 oX12_read (of3 _) rfl
theorem dX12_read_52 : decode cX12_read 52 = .ok (.putfield 161, 3) := dec_2 oX12_read (of181 _) 0 161 rfl rfl
theorem dX12_read_55 : decode cX12_read 55 = .ok (.aload_n 0, 1) := dec_0 oX12_read (of42 _) rfl
theorem dX12_read_56 : decode cX12_read 56 = .ok (.iconst 0, 1) := dec_0 oX12_read (of3 _) rfl
theorem dX12_read_57 : decode cX12_read 57 = .ok (.putfield 176, 3) := dec_2 oX12_read (of181 _) 0 176 rfl rfl
theorem dX12_read_60 : decode cX12_read 60 = .ok (.aload_n 0, 1) := dec_0 oX12_read (of42 _) rfl
theorem dX12_read_61 : decode cX12_read 61 = .ok (.bipush (-2), 2) := dec_s1 oX12_read (of16 _) 254 rfl (sg8n (k := 2) rfl) rfl
theorem dX12_read_63 : decode cX12_read 63 = .ok (.putfield 170, 3) := dec_2 oX12_read (of181 _) 0 170 rfl rfl
theorem dX12_read_66 : decode cX12_read 66 = .ok (.aload_n 0, 1) := dec_0 oX12_read (of42 _) rfl
theorem dX12_read_67 : decode cX12_read 67 = .ok (.iconst 1, 1) := dec_0 oX12_read (of4 _) rfl
theorem dX12_read_68 : decode cX12_read 68 = .ok (.aload_n 0, 1) := dec_0 oX12_read (of42 _) rfl
theorem dX12_read_69 : decode cX12_read 69 = .ok (.getfield 197, 3) := dec_2 oX12_read (of180 _) 0 197 rfl rfl
theorem dX12_read_72 : decode cX12_read 72 = .ok (.isub, 1) := dec_0 oX12_read (of100 _) rfl
theorem dX12_read_73 : decode cX12_read 73 = .ok (.putfield 200, 3) := dec_2 oX12_read (of181 _) 0 200 rfl rfl
theorem dX12_read_76 : decode cX12_read 76 = .ok (.aload_n 0, 1) := dec_0 oX12_read (of42 _) rfl
theorem dX12_read_77 : decode cX12_read 77 = .ok (.iconst 0, 1) := dec_0 oX12_read (of3 _) rfl
theorem dX12_read_78 : decode cX12_read 78 = .ok (.putfield 203, 3) := dec_2 oX12_read (of181 _) 0 203 rfl rfl
theorem dX12_read_8 : decode cX12_read 8 = .ok (.iconst 0, 1) := dec_0 oX12_read (of3 _) rfl
theorem dX12_read_81 : decode cX12_read 81 = .ok (.aload_n 0, 1) := dec_0 oX12_read (of42 _) rfl
theorem dX12_read_82 : decode cX12_read 82 = .ok (.aload_n 0, 1) := dec_0 oX12_read (of42 _) rfl
theorem dX12_read_83 : decode cX12_read 83 = .ok (.getfield 200, 3) := dec_2 oX12_read (of180 _) 0 200 rfl rfl
theorem dX12_read_86 : decode cX12_read 86 = .ok (.invokevirtual 107, 3) := dec_2 oX12_read (of182 _) 0 107 rfl rfl
theorem dX12_read_89 : decode cX12_read 89 = .ok (.aload_n 0, 1) := dec_0 oX12_read (of42 _) rfl
theorem dX12_read_9 : decode cX12_read 9 = .ok (.istore_n 1, 1) := dec_0 oX12_read (of60 _) rfl
theorem dX12_read_90 : decode cX12_read 90 = .ok (.getfield 161, 3) := dec_2 oX12_read (of180 _) 0 161 rfl rfl
theorem dX12_read_93 : decode cX12_read 93 = .ok (.ifCond .ne 18, 3) := dec_s2 oX12_read (of154 _) 0 18 rfl (sg16p rfl) rfl
theorem dX12_read_96 : decode cX12_read 96 = .ok (.aload_n 0, 1) := dec_0 oX12_read (of42 _) rfl
theorem dX12_read_97 : decode cX12_read 97 = .ok (.iconst 0, 1) := dec_0 oX12_read (of3 _) rfl
theorem dX12_read_98 : decode cX12_read 98 = .ok (.invokevirtual 188, 3) := dec_2 oX12_read (of182 _) 0 188 rfl rfl
theorem dX12_records_0 : decode cX12_records 0 = .ok (.aload_n 0, 1) := dec_0 oX12_records (of42 _) rfl
theorem dX12_records_1 : decode cX12_records 1 = .ok (.getfield 209, 3) := dec_2 oX12_records (of180 _) 0 209 rfl rfl
theorem dX12_records_100 : decode cX12_records 100 = .ok (.return_, 1) := dec_0 oX12_records (of177 _) rfl
theorem dX12_records_4 : decode cX12_records 4 = .ok (.bipush 40, 2) := dec_s1 oX12_records (of16 _) 40 rfl (sg8p rfl) rfl
theorem dX12_records_50 : decode cX12_records 50 = .ok (.iconst 0, 1) := dec_0 oX12_records (of3 _) rfl
theorem dX12_records_51 : decode cX12_records 51 = .ok (.istore_n 1, 1) := dec_0 oX12_records (of60 _) rfl
theorem dX12_records_52 : decode cX12_records 52 = .ok (.iload_n 1, 1) := dec_0 oX12_records (of27 _) rfl
theorem dX12_records_53 : decode cX12_records 53 = .ok (.sipush 165, 3) := dec_s2 oX12_records (of17 _) 0 165 rfl (sg16p rfl) rfl
theorem dX12_records_56 : decode cX12_records 56 = .ok (.if_icmp .ge 30, 3) := dec_s2 oX12_records (of162 _) 0 30 rfl (sg16p rfl) rfl
theorem dX12_records_59 : decode cX12_records 59 = .ok (.aload_n 0, 1) := dec_0 oX12_records (of42 _) rfl
theorem dX12_records_6 : decode cX12_records 6 = .ok (.if_icmp .ne 44, 3) := dec_s2 oX12_records (of160 _) 0 44 rfl (sg16p rfl) rfl
theorem dX12_records_60 : decode cX12_records 60 = .ok (.getfield 85, 3) := dec_2 oX12_records (of180 _) 0 85 rfl rfl
theorem dX12_records_63 : decode cX12_records 63 = .ok (.sipush 165, 3) := dec_s2 oX12_records (of17 _) 0 165 rfl (sg16p rfl) rfl
theorem dX12_records_66 : decode cX12_records 66 = .ok (.aload_n 0, 1) := dec_0 oX12_records (of42 _) rfl
theorem dX12_records_67 : decode cX12_records 67 = .ok (.getfield 209, 3) := dec_2 oX12_records (of180 _) 0 209 rfl rfl
theorem dX12_records_70 : decode cX12_records 70 = .ok (.imul, 1) := dec_0 oX12_records (of104 _) rfl
