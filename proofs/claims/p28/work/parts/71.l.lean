section
set_option maxHeartbeats 4000000 in
set_option maxRecDepth 100000 in
theorem law_0 {κ : Cx} {l : Launch} {D : va_G} {zt : Nat × Nat × Nat × (Nat → Nat) × (Nat → Nat)} {q r : Nat → Nat} {d g : Nat → ClassId} {b L : Nat} {xs : Nat → Int32} (hk : GC κ l D zt code 4 RL lw_tbl (tyX d ++ tyM g) room_1) (hX : GX κ b L xs) (i : Int32) (h0 : 0 ≤ i.toInt) (h6 : i.toInt + 6 ≤ (L : Int)) (hL : L ≤ 3072) (I : Nat → Int32) (A : Nat → Nat → Int32) (J : Nat → Int32) (B : Nat → Nat → Int32) (M : Nat → Nat → Int64) (hI : IvX I A) (hJ : IvM J B) (hS : RA I A J B M) (tail : ∀ (I : Nat → Int32) (A : Nat → Nat → Int32) (J : Nat → Int32) (B : Nat → Nat → Int32) (M : Nat → Nat → Int64), IvX I A → IvM J B → RA I A J B M → GW κ 4 82 21282 (wX q d I A ++ wM r g J B M) 1465 [(3, .int i), (2, .ref (r 0)), (1, .ref (q 0)), (0, .ref b)] []) : GW κ 4 82 21282 (wX q d I A ++ wM r g J B M) 212 [(3, .int i), (2, .ref (r 0)), (1, .ref (q 0)), (0, .ref b)] [] := by
  refine g_aload_n hk dL_law_212 rfl ?_
  refine g_aload_n hk dL_law_213 rfl ?_
  refine g_iload_n hk dL_law_214 rfl ?_
  refine g_iconst (v := 1) hk dL_law_215 (by decide) ?_
  refine g_iadd hk dL_law_216 ?_
  refine g_topi (fun y1 ey1 => ?_)
  have hy1 : y1.toInt = i.toInt + 1 := i32_add ey1 rfl (by decide) (by omega) (by omega)
  refine g_sld (v := xs y1.toNatClampNeg) hk hX (vp_in_iff.mpr ⟨by omega, by omega⟩) rfl dL_law_217 ?_
  refine g_aload_n hk dL_law_218 rfl ?_
  refine g_iload_n hk dL_law_219 rfl ?_
  refine g_iconst (v := 2) hk dL_law_220 (by decide) ?_
  refine g_iadd hk dL_law_221 ?_
  refine g_topi (fun y2 ey2 => ?_)
  have hy2 : y2.toInt = i.toInt + 2 := i32_add ey2 rfl (by decide) (by omega) (by omega)
  refine g_sld (v := xs y2.toNatClampNeg) hk hX (vp_in_iff.mpr ⟨by omega, by omega⟩) rfl dL_law_222 ?_
  refine g_aload_n hk dL_law_223 rfl ?_
  refine g_iload_n hk dL_law_224 rfl ?_
  refine g_iconst (v := 3) hk dL_law_225 (by decide) ?_
  refine g_iadd hk dL_law_226 ?_
  refine g_topi (fun y3 ey3 => ?_)
  have hy3 : y3.toInt = i.toInt + 3 := i32_add ey3 rfl (by decide) (by omega) (by omega)
  refine g_sld (v := xs y3.toNatClampNeg) hk hX (vp_in_iff.mpr ⟨by omega, by omega⟩) rfl dL_law_227 ?_
  refine g_aload_n hk dL_law_228 rfl ?_
  refine g_iload_n hk dL_law_229 rfl ?_
  refine g_iconst (v := 4) hk dL_law_230 (by decide) ?_
  refine g_iadd hk dL_law_231 ?_
  refine g_topi (fun y4 ey4 => ?_)
  have hy4 : y4.toInt = i.toInt + 4 := i32_add ey4 rfl (by decide) (by omega) (by omega)
  refine g_sld (v := xs y4.toNatClampNeg) hk hX (vp_in_iff.mpr ⟨by omega, by omega⟩) rfl dL_law_232 ?_
  refine g_aload_n hk dL_law_233 rfl ?_
  refine g_iload_n hk dL_law_234 rfl ?_
  refine g_iconst (v := 5) hk dL_law_235 (by decide) ?_
  refine g_iadd hk dL_law_236 ?_
  refine g_topi (fun y5 ey5 => ?_)
  have hy5 : y5.toInt = i.toInt + 5 := i32_add ey5 rfl (by decide) (by omega) (by omega)
  refine g_sld (v := xs y5.toNatClampNeg) hk hX (vp_in_iff.mpr ⟨by omega, by omega⟩) rfl dL_law_237 ?_
  refine g_callV (n := 5) hk (k113_X11_feed l D zt q d I A (xs y1.toNatClampNeg) (xs y2.toNatClampNeg) (xs y3.toNatClampNeg) (xs y4.toNatClampNeg) (xs y5.toNatClampNeg) hI) (SP.pre _ _) (fun q h => List.mem_append_left _ h) (gi_V zw_518 zw_519 zw_520 zw_103 (gi_sub zi_k113_X11_feed zg_k113_X11_feed)) rfl rfl rfl (by decide +kernel) ⟨Nat.le_of_ble_eq_true rfl, Nat.le_of_ble_eq_true rfl⟩ 0 rfl rfl rfl rfl (Nat.le_of_ble_eq_true rfl) ⟨Nat.le_of_ble_eq_true rfl, Nat.le_of_ble_eq_true rfl⟩ dL_law_238 (fun v ty' w' hp hk' => ?_)
  obtain ⟨I7, A7, d7, a7, h7, v6, r8, c9, c10, e7, rfl, rfl⟩ := hp
  show GW κ 4 82 21282 (wM r g J B M ++ wX q d I7 A7) 241 [(3, .int i), (2, .ref (r 0)), (1, .ref (q 0)), (0, .ref b)] [.int v6]
  refine g_pop hk dL_law_241 rfl ?_
  refine g_aload_n hk dL_law_242 rfl ?_
  refine g_aload_n hk dL_law_243 rfl ?_
  refine g_iload_n hk dL_law_244 rfl ?_
  refine g_iconst (v := 1) hk dL_law_245 (by decide) ?_
  refine g_iadd hk dL_law_246 ?_
  refine g_topi (fun y11 ey11 => ?_)
  have qy11 : y11 = y1 := ey11.trans ey1.symm
  subst qy11
  refine g_sld (v := xs y11.toNatClampNeg) hk hX (vp_in_iff.mpr ⟨by omega, by omega⟩) rfl dL_law_247 ?_
  refine g_aload_n hk dL_law_248 rfl ?_
  refine g_iload_n hk dL_law_249 rfl ?_
  refine g_iconst (v := 2) hk dL_law_250 (by decide) ?_
  refine g_iadd hk dL_law_251 ?_
  refine g_topi (fun y12 ey12 => ?_)
  have qy12 : y12 = y2 := ey12.trans ey2.symm
  subst qy12
  refine g_sld (v := xs y12.toNatClampNeg) hk hX (vp_in_iff.mpr ⟨by omega, by omega⟩) rfl dL_law_252 ?_
  refine g_aload_n hk dL_law_253 rfl ?_
  refine g_iload_n hk dL_law_254 rfl ?_
  refine g_iconst (v := 3) hk dL_law_255 (by decide) ?_
  refine g_iadd hk dL_law_256 ?_
  refine g_topi (fun y13 ey13 => ?_)
  have qy13 : y13 = y3 := ey13.trans ey3.symm
  subst qy13
  refine g_sld (v := xs y13.toNatClampNeg) hk hX (vp_in_iff.mpr ⟨by omega, by omega⟩) rfl dL_law_257 ?_
  refine g_aload_n hk dL_law_258 rfl ?_
  refine g_iload_n hk dL_law_259 rfl ?_
  refine g_iconst (v := 4) hk dL_law_260 (by decide) ?_
  refine g_iadd hk dL_law_261 ?_
  refine g_topi (fun y14 ey14 => ?_)
  have qy14 : y14 = y4 := ey14.trans ey4.symm
  subst qy14
  refine g_sld (v := xs y14.toNatClampNeg) hk hX (vp_in_iff.mpr ⟨by omega, by omega⟩) rfl dL_law_262 ?_
  refine g_aload_n hk dL_law_263 rfl ?_
  refine g_iload_n hk dL_law_264 rfl ?_
  refine g_iconst (v := 5) hk dL_law_265 (by decide) ?_
  refine g_iadd hk dL_law_266 ?_
  refine g_topi (fun y15 ey15 => ?_)
  have qy15 : y15 = y5 := ey15.trans ey5.symm
  subst qy15
  refine g_sld (v := xs y15.toNatClampNeg) hk hX (vp_in_iff.mpr ⟨by omega, by omega⟩) rfl dL_law_267 ?_
  refine g_callV (n := 5) hk (j113_X12_feed l D zt r g J B M (xs y11.toNatClampNeg) (xs y12.toNatClampNeg) (xs y13.toNatClampNeg) (xs y14.toNatClampNeg) (xs y15.toNatClampNeg) hJ) (SP.pre _ _) (fun q h => List.mem_append_right _ h) (gi_V zw_1545 zw_1546 zw_1547 zw_115 (gi_sub zi_j113_X12_feed zg_j113_X12_feed)) rfl rfl rfl (by decide +kernel) ⟨Nat.le_of_ble_eq_true rfl, Nat.le_of_ble_eq_true rfl⟩ 0 rfl rfl rfl rfl (Nat.le_of_ble_eq_true rfl) ⟨Nat.le_of_ble_eq_true rfl, Nat.le_of_ble_eq_true rfl⟩ dL_law_268 (fun v ty' w' hp hk' => ?_)
  obtain ⟨I17, A17, L17, d17, a17, h17, v16, r18, l17, c19, c20, e17, rfl, rfl⟩ := hp
  show GW κ 4 82 21282 (wX q d I7 A7 ++ wM r g I17 A17 L17) 271 [(3, .int i), (2, .ref (r 0)), (1, .ref (q 0)), (0, .ref b)] [.int v16]
  refine g_pop hk dL_law_271 rfl ?_
  refine g_goto (tgt := 1465) hk dL_law_272 (by decide) ?_
  exact tail I7 A7 I17 A17 L17 h7 h17 ⟨⟨(RT.feed hS.1.1 hI e7 e17).1, (((d7 12 rfl).trans hS.1.2.1).trans (d17 10 rfl).symm), (((d7 13 rfl).trans hS.1.2.2).trans (d17 14 rfl).symm)⟩, (hS.2.1.keep (d7 17 rfl) (d7 18 rfl) (d7 20 rfl) (d7 21 rfl) (a7 7 rfl) (a7 10 rfl) (a7 11 rfl) (a7 12 rfl) (a7 13 rfl) (d17 22 rfl) (a17 17 rfl) (a17 22 rfl)), (hS.2.2.1.keep (d7 19 rfl) (a7 8 rfl) (a7 9 rfl) (d17 15 rfl) (a17 10 rfl) (a17 11 rfl) (a17 12 rfl)), (hS.2.2.2.keep (d7 22 rfl) (d7 23 rfl) (d7 24 rfl) (d7 25 rfl) (d7 26 rfl) (d7 27 rfl) (a7 15 rfl) (a7 16 rfl) (a7 17 rfl) (a7 18 rfl) (a7 19 rfl) (a7 20 rfl) (a17 27 rfl) (a17 28 rfl))⟩
set_option maxHeartbeats 4000000 in
set_option maxRecDepth 100000 in
theorem law_1 {κ : Cx} {l : Launch} {D : va_G} {zt : Nat × Nat × Nat × (Nat → Nat) × (Nat → Nat)} {q r : Nat → Nat} {d g : Nat → ClassId} {b L : Nat} {xs : Nat → Int32} (hk : GC κ l D zt code 4 RL lw_tbl (tyX d ++ tyM g) room_1) (hX : GX κ b L xs) (i : Int32) (h0 : 0 ≤ i.toInt) (h6 : i.toInt + 6 ≤ (L : Int)) (hL : L ≤ 3072) (I : Nat → Int32) (A : Nat → Nat → Int32) (J : Nat → Int32) (B : Nat → Nat → Int32) (M : Nat → Nat → Int64) (hI : IvX I A) (hJ : IvM J B) (hS : RA I A J B M) (tail : ∀ (I : Nat → Int32) (A : Nat → Nat → Int32) (J : Nat → Int32) (B : Nat → Nat → Int32) (M : Nat → Nat → Int64), IvX I A → IvM J B → RA I A J B M → GW κ 4 82 21282 (wX q d I A ++ wM r g J B M) 1465 [(3, .int i), (2, .ref (r 0)), (1, .ref (q 0)), (0, .ref b)] []) : GW κ 4 82 21282 (wX q d I A ++ wM r g J B M) 275 [(3, .int i), (2, .ref (r 0)), (1, .ref (q 0)), (0, .ref b)] [] := by
  refine g_aload_n hk dL_law_275 rfl ?_
  refine g_aload_n hk dL_law_276 rfl ?_
  refine g_iload_n hk dL_law_277 rfl ?_
  refine g_iconst (v := 1) hk dL_law_278 (by decide) ?_
  refine g_iadd hk dL_law_279 ?_
  refine g_topi (fun y1 ey1 => ?_)
  have hy1 : y1.toInt = i.toInt + 1 := i32_add ey1 rfl (by decide) (by omega) (by omega)
  refine g_sld (v := xs y1.toNatClampNeg) hk hX (vp_in_iff.mpr ⟨by omega, by omega⟩) rfl dL_law_280 ?_
  refine g_callV (n := 1) hk (k115_X11_back l D zt q d I A (xs y1.toNatClampNeg) hI) (SP.pre _ _) (fun q h => List.mem_append_left _ h) (gi_V zw_526 zw_527 zw_528 zw_103 (gi_sub zi_k115_X11_back zg_k115_X11_back)) rfl rfl rfl (by decide +kernel) ⟨Nat.le_of_ble_eq_true rfl, Nat.le_of_ble_eq_true rfl⟩ 0 rfl rfl rfl rfl (Nat.le_of_ble_eq_true rfl) ⟨Nat.le_of_ble_eq_true rfl, Nat.le_of_ble_eq_true rfl⟩ dL_law_281 (fun v ty' w' hp hk' => ?_)
  obtain ⟨I3, A3, d3, a3, h3, v2, r4, c5, c6, e3, rfl, rfl⟩ := hp
  show GW κ 4 82 21282 (wM r g J B M ++ wX q d I3 A3) 284 [(3, .int i), (2, .ref (r 0)), (1, .ref (q 0)), (0, .ref b)] [.int v2]
  refine g_pop hk dL_law_284 rfl ?_
  refine g_aload_n hk dL_law_285 rfl ?_
  refine g_aload_n hk dL_law_286 rfl ?_
  refine g_iload_n hk dL_law_287 rfl ?_
  refine g_iconst (v := 1) hk dL_law_288 (by decide) ?_
  refine g_iadd hk dL_law_289 ?_
  refine g_topi (fun y7 ey7 => ?_)
  have qy7 : y7 = y1 := ey7.trans ey1.symm
  subst qy7
  refine g_sld (v := xs y7.toNatClampNeg) hk hX (vp_in_iff.mpr ⟨by omega, by omega⟩) rfl dL_law_290 ?_
  refine g_callV (n := 1) hk (j115_X12_back l D zt r g J B M (xs y7.toNatClampNeg) hJ) (SP.pre _ _) (fun q h => List.mem_append_right _ h) (gi_V zw_1553 zw_1554 zw_1555 zw_115 (gi_sub zi_j115_X12_back zg_j115_X12_back)) rfl rfl rfl (by decide +kernel) ⟨Nat.le_of_ble_eq_true rfl, Nat.le_of_ble_eq_true rfl⟩ 0 rfl rfl rfl rfl (Nat.le_of_ble_eq_true rfl) ⟨Nat.le_of_ble_eq_true rfl, Nat.le_of_ble_eq_true rfl⟩ dL_law_291 (fun v ty' w' hp hk' => ?_)
  obtain ⟨I9, A9, L9, d9, a9, h9, v8, r10, l9, c11, c12, e9, rfl, rfl⟩ := hp
  show GW κ 4 82 21282 (wX q d I3 A3 ++ wM r g I9 A9 L9) 294 [(3, .int i), (2, .ref (r 0)), (1, .ref (q 0)), (0, .ref b)] [.int v8]
  refine g_pop hk dL_law_294 rfl ?_
  refine g_goto (tgt := 1465) hk dL_law_295 (by decide) ?_
  exact tail I3 A3 I9 A9 L9 h3 h9 ⟨⟨(RT.back hS.1.1 hI e3 e9).1, (((d3 12 rfl).trans hS.1.2.1).trans (d9 10 rfl).symm), (((d3 13 rfl).trans hS.1.2.2).trans (d9 14 rfl).symm)⟩, (hS.2.1.keep (d3 17 rfl) (d3 18 rfl) (d3 20 rfl) (d3 21 rfl) (a3 7 rfl) (a3 10 rfl) (a3 11 rfl) (a3 12 rfl) (a3 13 rfl) (d9 22 rfl) (a9 17 rfl) (a9 22 rfl)), (hS.2.2.1.keep (d3 19 rfl) (a3 8 rfl) (a3 9 rfl) (d9 15 rfl) (a9 10 rfl) (a9 11 rfl) (a9 12 rfl)), (hS.2.2.2.keep (d3 22 rfl) (d3 23 rfl) (d3 24 rfl) (d3 25 rfl) (d3 26 rfl) (d3 27 rfl) (a3 15 rfl) (a3 16 rfl) (a3 17 rfl) (a3 18 rfl) (a3 19 rfl) (a3 20 rfl) (a9 27 rfl) (a9 28 rfl))⟩
set_option maxHeartbeats 4000000 in
set_option maxRecDepth 100000 in
theorem law_2 {κ : Cx} {l : Launch} {D : va_G} {zt : Nat × Nat × Nat × (Nat → Nat) × (Nat → Nat)} {q r : Nat → Nat} {d g : Nat → ClassId} {b L : Nat} {xs : Nat → Int32} (hk : GC κ l D zt code 4 RL lw_tbl (tyX d ++ tyM g) room_1) (hX : GX κ b L xs) (i : Int32) (h0 : 0 ≤ i.toInt) (h6 : i.toInt + 6 ≤ (L : Int)) (hL : L ≤ 3072) (I : Nat → Int32) (A : Nat → Nat → Int32) (J : Nat → Int32) (B : Nat → Nat → Int32) (M : Nat → Nat → Int64) (hI : IvX I A) (hJ : IvM J B) (hS : RA I A J B M) (tail : ∀ (I : Nat → Int32) (A : Nat → Nat → Int32) (J : Nat → Int32) (B : Nat → Nat → Int32) (M : Nat → Nat → Int64), IvX I A → IvM J B → RA I A J B M → GW κ 4 82 21282 (wX q d I A ++ wM r g J B M) 1465 [(3, .int i), (2, .ref (r 0)), (1, .ref (q 0)), (0, .ref b)] []) : GW κ 4 82 21282 (wX q d I A ++ wM r g J B M) 298 [(3, .int i), (2, .ref (r 0)), (1, .ref (q 0)), (0, .ref b)] [] := by
  refine g_aload_n hk dL_law_298 rfl ?_
  refine g_callV (n := 0) hk (k116_X11_read l D zt q d I A  hI) (SP.pre _ _) (fun q h => List.mem_append_left _ h) (gi_V zw_530 zw_531 zw_532 zw_103 (gi_sub zi_k116_X11_read zg_k116_X11_read)) rfl rfl rfl (by decide +kernel) ⟨Nat.le_of_ble_eq_true rfl, Nat.le_of_ble_eq_true rfl⟩ 0 rfl rfl rfl rfl (Nat.le_of_ble_eq_true rfl) ⟨Nat.le_of_ble_eq_true rfl, Nat.le_of_ble_eq_true rfl⟩ dL_law_299 (fun v ty' w' hp hk' => ?_)
  obtain ⟨I2, A2, d2, a2, h2, v1, r3, e2, rfl, rfl⟩ := hp
  show GW κ 4 82 21282 (wM r g J B M ++ wX q d I2 A2) 302 [(3, .int i), (2, .ref (r 0)), (1, .ref (q 0)), (0, .ref b)] [.int v1]
  refine g_pop hk dL_law_302 rfl ?_
  refine g_aload_n hk dL_law_303 rfl ?_
  refine g_callV (n := 0) hk (j116_X12_read l D zt r g J B M  hJ) (SP.pre _ _) (fun q h => List.mem_append_right _ h) (gi_V zw_1557 zw_1558 zw_1559 zw_115 (gi_sub zi_j116_X12_read zg_j116_X12_read)) rfl rfl rfl (by decide +kernel) ⟨Nat.le_of_ble_eq_true rfl, Nat.le_of_ble_eq_true rfl⟩ 0 rfl rfl rfl rfl (Nat.le_of_ble_eq_true rfl) ⟨Nat.le_of_ble_eq_true rfl, Nat.le_of_ble_eq_true rfl⟩ dL_law_304 (fun v ty' w' hp hk' => ?_)
  obtain ⟨I5, A5, L5, d5, a5, h5, v4, r6, c7, c8, e5, rfl, rfl⟩ := hp
  show GW κ 4 82 21282 (wX q d I2 A2 ++ wM r g I5 A5 L5) 307 [(3, .int i), (2, .ref (r 0)), (1, .ref (q 0)), (0, .ref b)] [.int v4]
  refine g_pop hk dL_law_307 rfl ?_
  refine g_goto (tgt := 1465) hk dL_law_308 (by decide) ?_
  exact tail I2 A2 I5 A5 L5 h2 h5 ⟨⟨(RT.read hS.1.1 hI hJ e2 e5 r3 r6).1, read_pc hS.1.1 hI hJ e2 e5 h2⟩, (read_st hS.1.1 hS.2.1 hS.2.2.1 hS.2.2.2 hI hJ e2 e5).1, (read_st hS.1.1 hS.2.1 hS.2.2.1 hS.2.2.2 hI hJ e2 e5).2.1, (read_st hS.1.1 hS.2.1 hS.2.2.1 hS.2.2.2 hI hJ e2 e5).2.2⟩
set_option maxHeartbeats 4000000 in
set_option maxRecDepth 100000 in
theorem law_3 {κ : Cx} {l : Launch} {D : va_G} {zt : Nat × Nat × Nat × (Nat → Nat) × (Nat → Nat)} {q r : Nat → Nat} {d g : Nat → ClassId} {b L : Nat} {xs : Nat → Int32} (hk : GC κ l D zt code 4 RL lw_tbl (tyX d ++ tyM g) room_1) (hX : GX κ b L xs) (i : Int32) (h0 : 0 ≤ i.toInt) (h6 : i.toInt + 6 ≤ (L : Int)) (hL : L ≤ 3072) (I : Nat → Int32) (A : Nat → Nat → Int32) (J : Nat → Int32) (B : Nat → Nat → Int32) (M : Nat → Nat → Int64) (hI : IvX I A) (hJ : IvM J B) (hS : RA I A J B M) (tail : ∀ (I : Nat → Int32) (A : Nat → Nat → Int32) (J : Nat → Int32) (B : Nat → Nat → Int32) (M : Nat → Nat → Int64), IvX I A → IvM J B → RA I A J B M → GW κ 4 82 21282 (wX q d I A ++ wM r g J B M) 1465 [(3, .int i), (2, .ref (r 0)), (1, .ref (q 0)), (0, .ref b)] []) : GW κ 4 82 21282 (wX q d I A ++ wM r g J B M) 311 [(3, .int i), (2, .ref (r 0)), (1, .ref (q 0)), (0, .ref b)] [] := by
  refine g_aload_n hk dL_law_311 rfl ?_
  refine g_callV (n := 0) hk (k176_X11_place l D zt q d I A  hI) (SP.pre _ _) (fun q h => List.mem_append_left _ h) (gi_V zw_794 zw_795 zw_796 zw_103 (gi_sub zi_k176_X11_place zg_k176_X11_place)) rfl rfl rfl (by decide +kernel) ⟨Nat.le_of_ble_eq_true rfl, Nat.le_of_ble_eq_true rfl⟩ 0 rfl rfl rfl rfl (Nat.le_of_ble_eq_true rfl) ⟨Nat.le_of_ble_eq_true rfl, Nat.le_of_ble_eq_true rfl⟩ dL_law_312 (fun v ty' w' hp hk' => ?_)
  obtain ⟨v1, e2, rfl, rfl⟩ := hp
  show GW κ 4 82 21282 (wM r g J B M ++ wX q d I A) 315 [(3, .int i), (2, .ref (r 0)), (1, .ref (q 0)), (0, .ref b)] [.int v1]
  refine g_pop hk dL_law_315 rfl ?_
  refine g_aload_n hk dL_law_316 rfl ?_
  refine g_callV (n := 0) hk (j140_X12_place l D zt r g J B M  hJ) (SP.pre _ _) (fun q h => List.mem_append_right _ h) (gi_V zw_1636 zw_1637 zw_1638 zw_115 (gi_sub zi_j140_X12_place zg_j140_X12_place)) rfl rfl rfl (by decide +kernel) ⟨Nat.le_of_ble_eq_true rfl, Nat.le_of_ble_eq_true rfl⟩ 0 rfl rfl rfl rfl (Nat.le_of_ble_eq_true rfl) ⟨Nat.le_of_ble_eq_true rfl, Nat.le_of_ble_eq_true rfl⟩ dL_law_317 (fun v ty' w' hp hk' => ?_)
  obtain ⟨v3, e4, rfl, rfl⟩ := hp
  show GW κ 4 82 21282 (wX q d I A ++ wM r g J B M) 320 [(3, .int i), (2, .ref (r 0)), (1, .ref (q 0)), (0, .ref b)] [.int v3]
  refine g_pop hk dL_law_320 rfl ?_
  refine g_goto (tgt := 1465) hk dL_law_321 (by decide) ?_
  exact tail I A J B M hI hJ ⟨⟨(RT.keep hS.1.1 rfl rfl rfl rfl rfl), hS.1.2.1, hS.1.2.2⟩, (hS.2.1.keep rfl rfl rfl rfl rfl rfl rfl rfl rfl rfl rfl rfl), (hS.2.2.1.keep rfl rfl rfl rfl rfl rfl rfl), (hS.2.2.2.keep rfl rfl rfl rfl rfl rfl rfl rfl rfl rfl rfl rfl rfl rfl)⟩
set_option maxHeartbeats 4000000 in
set_option maxRecDepth 100000 in
theorem law_4 {κ : Cx} {l : Launch} {D : va_G} {zt : Nat × Nat × Nat × (Nat → Nat) × (Nat → Nat)} {q r : Nat → Nat} {d g : Nat → ClassId} {b L : Nat} {xs : Nat → Int32} (hk : GC κ l D zt code 4 RL lw_tbl (tyX d ++ tyM g) room_1) (hX : GX κ b L xs) (i : Int32) (h0 : 0 ≤ i.toInt) (h6 : i.toInt + 6 ≤ (L : Int)) (hL : L ≤ 3072) (I : Nat → Int32) (A : Nat → Nat → Int32) (J : Nat → Int32) (B : Nat → Nat → Int32) (M : Nat → Nat → Int64) (hI : IvX I A) (hJ : IvM J B) (hS : RA I A J B M) (tail : ∀ (I : Nat → Int32) (A : Nat → Nat → Int32) (J : Nat → Int32) (B : Nat → Nat → Int32) (M : Nat → Nat → Int64), IvX I A → IvM J B → RA I A J B M → GW κ 4 82 21282 (wX q d I A ++ wM r g J B M) 1465 [(3, .int i), (2, .ref (r 0)), (1, .ref (q 0)), (0, .ref b)] []) : GW κ 4 82 21282 (wX q d I A ++ wM r g J B M) 324 [(3, .int i), (2, .ref (r 0)), (1, .ref (q 0)), (0, .ref b)] [] := by
  refine g_aload_n hk dL_law_324 rfl ?_
  refine g_callV (n := 0) hk (k177_X11_cause l D zt q d I A  hI) (SP.pre _ _) (fun q h => List.mem_append_left _ h) (gi_V zw_798 zw_799 zw_800 zw_103 (gi_sub zi_k177_X11_cause zg_k177_X11_cause)) rfl rfl rfl (by decide +kernel) ⟨Nat.le_of_ble_eq_true rfl, Nat.le_of_ble_eq_true rfl⟩ 0 rfl rfl rfl rfl (Nat.le_of_ble_eq_true rfl) ⟨Nat.le_of_ble_eq_true rfl, Nat.le_of_ble_eq_true rfl⟩ dL_law_325 (fun v ty' w' hp hk' => ?_)
  obtain ⟨v1, e2, rfl, rfl⟩ := hp
  show GW κ 4 82 21282 (wM r g J B M ++ wX q d I A) 328 [(3, .int i), (2, .ref (r 0)), (1, .ref (q 0)), (0, .ref b)] [.int v1]
  refine g_pop hk dL_law_328 rfl ?_
  refine g_aload_n hk dL_law_329 rfl ?_
  refine g_callV (n := 0) hk (j141_X12_cause l D zt r g J B M  hJ) (SP.pre _ _) (fun q h => List.mem_append_right _ h) (gi_V zw_1640 zw_1641 zw_1642 zw_115 (gi_sub zi_j141_X12_cause zg_j141_X12_cause)) rfl rfl rfl (by decide +kernel) ⟨Nat.le_of_ble_eq_true rfl, Nat.le_of_ble_eq_true rfl⟩ 0 rfl rfl rfl rfl (Nat.le_of_ble_eq_true rfl) ⟨Nat.le_of_ble_eq_true rfl, Nat.le_of_ble_eq_true rfl⟩ dL_law_330 (fun v ty' w' hp hk' => ?_)
  obtain ⟨v3, e4, rfl, rfl⟩ := hp
  show GW κ 4 82 21282 (wX q d I A ++ wM r g J B M) 333 [(3, .int i), (2, .ref (r 0)), (1, .ref (q 0)), (0, .ref b)] [.int v3]
  refine g_pop hk dL_law_333 rfl ?_
  refine g_goto (tgt := 1465) hk dL_law_334 (by decide) ?_
  exact tail I A J B M hI hJ ⟨⟨(RT.keep hS.1.1 rfl rfl rfl rfl rfl), hS.1.2.1, hS.1.2.2⟩, (hS.2.1.keep rfl rfl rfl rfl rfl rfl rfl rfl rfl rfl rfl rfl), (hS.2.2.1.keep rfl rfl rfl rfl rfl rfl rfl), (hS.2.2.2.keep rfl rfl rfl rfl rfl rfl rfl rfl rfl rfl rfl rfl rfl rfl)⟩
set_option maxHeartbeats 4000000 in
set_option maxRecDepth 100000 in
theorem law_5 {κ : Cx} {l : Launch} {D : va_G} {zt : Nat × Nat × Nat × (Nat → Nat) × (Nat → Nat)} {q r : Nat → Nat} {d g : Nat → ClassId} {b L : Nat} {xs : Nat → Int32} (hk : GC κ l D zt code 4 RL lw_tbl (tyX d ++ tyM g) room_1) (hX : GX κ b L xs) (i : Int32) (h0 : 0 ≤ i.toInt) (h6 : i.toInt + 6 ≤ (L : Int)) (hL : L ≤ 3072) (I : Nat → Int32) (A : Nat → Nat → Int32) (J : Nat → Int32) (B : Nat → Nat → Int32) (M : Nat → Nat → Int64) (hI : IvX I A) (hJ : IvM J B) (hS : RA I A J B M) (tail : ∀ (I : Nat → Int32) (A : Nat → Nat → Int32) (J : Nat → Int32) (B : Nat → Nat → Int32) (M : Nat → Nat → Int64), IvX I A → IvM J B → RA I A J B M → GW κ 4 82 21282 (wX q d I A ++ wM r g J B M) 1465 [(3, .int i), (2, .ref (r 0)), (1, .ref (q 0)), (0, .ref b)] []) : GW κ 4 82 21282 (wX q d I A ++ wM r g J B M) 337 [(3, .int i), (2, .ref (r 0)), (1, .ref (q 0)), (0, .ref b)] [] := by
  refine g_aload_n hk dL_law_337 rfl ?_
  refine g_aload_n hk dL_law_338 rfl ?_
  refine g_iload_n hk dL_law_339 rfl ?_
  refine g_iconst (v := 1) hk dL_law_340 (by decide) ?_
  refine g_iadd hk dL_law_341 ?_
  refine g_topi (fun y1 ey1 => ?_)
  have hy1 : y1.toInt = i.toInt + 1 := i32_add ey1 rfl (by decide) (by omega) (by omega)
  refine g_sld (v := xs y1.toNatClampNeg) hk hX (vp_in_iff.mpr ⟨by omega, by omega⟩) rfl dL_law_342 ?_
  refine g_callV (n := 1) hk (k178_X11_at l D zt q d I A (xs y1.toNatClampNeg) hI) (SP.pre _ _) (fun q h => List.mem_append_left _ h) (gi_V zw_802 zw_803 zw_804 zw_103 (gi_sub zi_k178_X11_at zg_k178_X11_at)) rfl rfl rfl (by decide +kernel) ⟨Nat.le_of_ble_eq_true rfl, Nat.le_of_ble_eq_true rfl⟩ 0 rfl rfl rfl rfl (Nat.le_of_ble_eq_true rfl) ⟨Nat.le_of_ble_eq_true rfl, Nat.le_of_ble_eq_true rfl⟩ dL_law_343 (fun v ty' w' hp hk' => ?_)
  obtain ⟨v2, e3, rfl, rfl⟩ := hp
  show GW κ 4 82 21282 (wM r g J B M ++ wX q d I A) 346 [(3, .int i), (2, .ref (r 0)), (1, .ref (q 0)), (0, .ref b)] [.int v2]
  refine g_pop hk dL_law_346 rfl ?_
  refine g_aload_n hk dL_law_347 rfl ?_
  refine g_aload_n hk dL_law_348 rfl ?_
  refine g_iload_n hk dL_law_349 rfl ?_
  refine g_iconst (v := 1) hk dL_law_350 (by decide) ?_
  refine g_iadd hk dL_law_351 ?_
  refine g_topi (fun y4 ey4 => ?_)
  have qy4 : y4 = y1 := ey4.trans ey1.symm
  subst qy4
  refine g_sld (v := xs y4.toNatClampNeg) hk hX (vp_in_iff.mpr ⟨by omega, by omega⟩) rfl dL_law_352 ?_
  refine g_callV (n := 1) hk (j142_X12_at l D zt r g J B M (xs y4.toNatClampNeg) hJ) (SP.pre _ _) (fun q h => List.mem_append_right _ h) (gi_V zw_1644 zw_1645 zw_1646 zw_115 (gi_sub zi_j142_X12_at zg_j142_X12_at)) rfl rfl rfl (by decide +kernel) ⟨Nat.le_of_ble_eq_true rfl, Nat.le_of_ble_eq_true rfl⟩ 0 rfl rfl rfl rfl (Nat.le_of_ble_eq_true rfl) ⟨Nat.le_of_ble_eq_true rfl, Nat.le_of_ble_eq_true rfl⟩ dL_law_353 (fun v ty' w' hp hk' => ?_)
  obtain ⟨v5, e6, rfl, rfl⟩ := hp
  show GW κ 4 82 21282 (wX q d I A ++ wM r g J B M) 356 [(3, .int i), (2, .ref (r 0)), (1, .ref (q 0)), (0, .ref b)] [.int v5]
  refine g_pop hk dL_law_356 rfl ?_
  refine g_goto (tgt := 1465) hk dL_law_357 (by decide) ?_
  exact tail I A J B M hI hJ ⟨⟨(RT.keep hS.1.1 rfl rfl rfl rfl rfl), hS.1.2.1, hS.1.2.2⟩, (hS.2.1.keep rfl rfl rfl rfl rfl rfl rfl rfl rfl rfl rfl rfl), (hS.2.2.1.keep rfl rfl rfl rfl rfl rfl rfl), (hS.2.2.2.keep rfl rfl rfl rfl rfl rfl rfl rfl rfl rfl rfl rfl rfl rfl)⟩
set_option maxHeartbeats 4000000 in
set_option maxRecDepth 100000 in
theorem law_6 {κ : Cx} {l : Launch} {D : va_G} {zt : Nat × Nat × Nat × (Nat → Nat) × (Nat → Nat)} {q r : Nat → Nat} {d g : Nat → ClassId} {b L : Nat} {xs : Nat → Int32} (hk : GC κ l D zt code 4 RL lw_tbl (tyX d ++ tyM g) room_1) (hX : GX κ b L xs) (i : Int32) (h0 : 0 ≤ i.toInt) (h6 : i.toInt + 6 ≤ (L : Int)) (hL : L ≤ 3072) (I : Nat → Int32) (A : Nat → Nat → Int32) (J : Nat → Int32) (B : Nat → Nat → Int32) (M : Nat → Nat → Int64) (hI : IvX I A) (hJ : IvM J B) (hS : RA I A J B M) (tail : ∀ (I : Nat → Int32) (A : Nat → Nat → Int32) (J : Nat → Int32) (B : Nat → Nat → Int32) (M : Nat → Nat → Int64), IvX I A → IvM J B → RA I A J B M → GW κ 4 82 21282 (wX q d I A ++ wM r g J B M) 1465 [(3, .int i), (2, .ref (r 0)), (1, .ref (q 0)), (0, .ref b)] []) : GW κ 4 82 21282 (wX q d I A ++ wM r g J B M) 360 [(3, .int i), (2, .ref (r 0)), (1, .ref (q 0)), (0, .ref b)] [] := by
  refine g_aload_n hk dL_law_360 rfl ?_
  refine g_aload_n hk dL_law_361 rfl ?_
  refine g_iload_n hk dL_law_362 rfl ?_
  refine g_iconst (v := 1) hk dL_law_363 (by decide) ?_
  refine g_iadd hk dL_law_364 ?_
  refine g_topi (fun y1 ey1 => ?_)
  have hy1 : y1.toInt = i.toInt + 1 := i32_add ey1 rfl (by decide) (by omega) (by omega)
  refine g_sld (v := xs y1.toNatClampNeg) hk hX (vp_in_iff.mpr ⟨by omega, by omega⟩) rfl dL_law_365 ?_
  refine g_aload_n hk dL_law_366 rfl ?_
  refine g_iload_n hk dL_law_367 rfl ?_
  refine g_iconst (v := 2) hk dL_law_368 (by decide) ?_
  refine g_iadd hk dL_law_369 ?_
  refine g_topi (fun y2 ey2 => ?_)
  have hy2 : y2.toInt = i.toInt + 2 := i32_add ey2 rfl (by decide) (by omega) (by omega)
  refine g_sld (v := xs y2.toNatClampNeg) hk hX (vp_in_iff.mpr ⟨by omega, by omega⟩) rfl dL_law_370 ?_
  refine g_callV (n := 2) hk (k180_X11_query l D zt q d I A (xs y1.toNatClampNeg) (xs y2.toNatClampNeg) hI) (SP.pre _ _) (fun q h => List.mem_append_left _ h) (gi_V zw_810 zw_811 zw_812 zw_103 (gi_sub zi_k180_X11_query zg_k180_X11_query)) rfl rfl rfl (by decide +kernel) ⟨Nat.le_of_ble_eq_true rfl, Nat.le_of_ble_eq_true rfl⟩ 0 rfl rfl rfl rfl (Nat.le_of_ble_eq_true rfl) ⟨Nat.le_of_ble_eq_true rfl, Nat.le_of_ble_eq_true rfl⟩ dL_law_371 (fun v ty' w' hp hk' => ?_)
  obtain ⟨v3, e4, rfl, rfl⟩ := hp
  show GW κ 4 82 21282 (wM r g J B M ++ wX q d I A) 374 [(3, .int i), (2, .ref (r 0)), (1, .ref (q 0)), (0, .ref b)] [.int v3]
  refine g_pop hk dL_law_374 rfl ?_
  refine g_aload_n hk dL_law_375 rfl ?_
  refine g_aload_n hk dL_law_376 rfl ?_
  refine g_iload_n hk dL_law_377 rfl ?_
  refine g_iconst (v := 1) hk dL_law_378 (by decide) ?_
  refine g_iadd hk dL_law_379 ?_
  refine g_topi (fun y5 ey5 => ?_)
  have qy5 : y5 = y1 := ey5.trans ey1.symm
  subst qy5
  refine g_sld (v := xs y5.toNatClampNeg) hk hX (vp_in_iff.mpr ⟨by omega, by omega⟩) rfl dL_law_380 ?_
  refine g_aload_n hk dL_law_381 rfl ?_
  refine g_iload_n hk dL_law_382 rfl ?_
  refine g_iconst (v := 2) hk dL_law_383 (by decide) ?_
  refine g_iadd hk dL_law_384 ?_
  refine g_topi (fun y6 ey6 => ?_)
  have qy6 : y6 = y2 := ey6.trans ey2.symm
  subst qy6
  refine g_sld (v := xs y6.toNatClampNeg) hk hX (vp_in_iff.mpr ⟨by omega, by omega⟩) rfl dL_law_385 ?_
  refine g_callV (n := 2) hk (j146_X12_query l D zt r g J B M (xs y5.toNatClampNeg) (xs y6.toNatClampNeg) hJ) (SP.pre _ _) (fun q h => List.mem_append_right _ h) (gi_V zw_1659 zw_1660 zw_1661 zw_115 (gi_sub zi_j146_X12_query zg_j146_X12_query)) rfl rfl rfl (by decide +kernel) ⟨Nat.le_of_ble_eq_true rfl, Nat.le_of_ble_eq_true rfl⟩ 0 rfl rfl rfl rfl (Nat.le_of_ble_eq_true rfl) ⟨Nat.le_of_ble_eq_true rfl, Nat.le_of_ble_eq_true rfl⟩ dL_law_386 (fun v ty' w' hp hk' => ?_)
  obtain ⟨v7, e8, rfl, rfl⟩ := hp
  show GW κ 4 82 21282 (wX q d I A ++ wM r g J B M) 389 [(3, .int i), (2, .ref (r 0)), (1, .ref (q 0)), (0, .ref b)] [.int v7]
  refine g_pop hk dL_law_389 rfl ?_
  refine g_goto (tgt := 1465) hk dL_law_390 (by decide) ?_
  exact tail I A J B M hI hJ ⟨⟨(RT.keep hS.1.1 rfl rfl rfl rfl rfl), hS.1.2.1, hS.1.2.2⟩, (hS.2.1.keep rfl rfl rfl rfl rfl rfl rfl rfl rfl rfl rfl rfl), (hS.2.2.1.keep rfl rfl rfl rfl rfl rfl rfl), (hS.2.2.2.keep rfl rfl rfl rfl rfl rfl rfl rfl rfl rfl rfl rfl rfl rfl)⟩
set_option maxHeartbeats 4000000 in
set_option maxRecDepth 100000 in
theorem law_7 {κ : Cx} {l : Launch} {D : va_G} {zt : Nat × Nat × Nat × (Nat → Nat) × (Nat → Nat)} {q r : Nat → Nat} {d g : Nat → ClassId} {b L : Nat} {xs : Nat → Int32} (hk : GC κ l D zt code 4 RL lw_tbl (tyX d ++ tyM g) room_1) (hX : GX κ b L xs) (i : Int32) (h0 : 0 ≤ i.toInt) (h6 : i.toInt + 6 ≤ (L : Int)) (hL : L ≤ 3072) (I : Nat → Int32) (A : Nat → Nat → Int32) (J : Nat → Int32) (B : Nat → Nat → Int32) (M : Nat → Nat → Int64) (hI : IvX I A) (hJ : IvM J B) (hS : RA I A J B M) (tail : ∀ (I : Nat → Int32) (A : Nat → Nat → Int32) (J : Nat → Int32) (B : Nat → Nat → Int32) (M : Nat → Nat → Int64), IvX I A → IvM J B → RA I A J B M → GW κ 4 82 21282 (wX q d I A ++ wM r g J B M) 1465 [(3, .int i), (2, .ref (r 0)), (1, .ref (q 0)), (0, .ref b)] []) : GW κ 4 82 21282 (wX q d I A ++ wM r g J B M) 393 [(3, .int i), (2, .ref (r 0)), (1, .ref (q 0)), (0, .ref b)] [] := by
  refine g_aload_n hk dL_law_393 rfl ?_
  refine g_aload_n hk dL_law_394 rfl ?_
  refine g_iload_n hk dL_law_395 rfl ?_
  refine g_iconst (v := 1) hk dL_law_396 (by decide) ?_
  refine g_iadd hk dL_law_397 ?_
  refine g_topi (fun y1 ey1 => ?_)
  have hy1 : y1.toInt = i.toInt + 1 := i32_add ey1 rfl (by decide) (by omega) (by omega)
  refine g_sld (v := xs y1.toNatClampNeg) hk hX (vp_in_iff.mpr ⟨by omega, by omega⟩) rfl dL_law_398 ?_
  refine g_callV (n := 1) hk (k183_X11_push l D zt q d I A (xs y1.toNatClampNeg) hI) (SP.pre _ _) (fun q h => List.mem_append_left _ h) (gi_V zw_815 zw_816 zw_817 zw_103 (gi_sub zi_k183_X11_push zg_k183_X11_push)) rfl rfl rfl (by decide +kernel) ⟨Nat.le_of_ble_eq_true rfl, Nat.le_of_ble_eq_true rfl⟩ 0 rfl rfl rfl rfl (Nat.le_of_ble_eq_true rfl) ⟨Nat.le_of_ble_eq_true rfl, Nat.le_of_ble_eq_true rfl⟩ dL_law_399 (fun v ty' w' hp hk' => ?_)
  obtain ⟨I3, A3, d3, a3, h3, v2, c4, c5, e3, rfl, rfl⟩ := hp
  show GW κ 4 82 21282 (wM r g J B M ++ wX q d I3 A3) 402 [(3, .int i), (2, .ref (r 0)), (1, .ref (q 0)), (0, .ref b)] [.int v2]
  refine g_pop hk dL_law_402 rfl ?_
  refine g_aload_n hk dL_law_403 rfl ?_
  refine g_aload_n hk dL_law_404 rfl ?_
  refine g_iload_n hk dL_law_405 rfl ?_
  refine g_iconst (v := 1) hk dL_law_406 (by decide) ?_
  refine g_iadd hk dL_law_407 ?_
  refine g_topi (fun y6 ey6 => ?_)
  have qy6 : y6 = y1 := ey6.trans ey1.symm
  subst qy6
  refine g_sld (v := xs y6.toNatClampNeg) hk hX (vp_in_iff.mpr ⟨by omega, by omega⟩) rfl dL_law_408 ?_
  refine g_callV (n := 1) hk (j149_X12_push l D zt r g J B M (xs y6.toNatClampNeg) hJ) (SP.pre _ _) (fun q h => List.mem_append_right _ h) (gi_V zw_1671 zw_1672 zw_1673 zw_115 (gi_sub zi_j149_X12_push zg_j149_X12_push)) rfl rfl rfl (by decide +kernel) ⟨Nat.le_of_ble_eq_true rfl, Nat.le_of_ble_eq_true rfl⟩ 0 rfl rfl rfl rfl (Nat.le_of_ble_eq_true rfl) ⟨Nat.le_of_ble_eq_true rfl, Nat.le_of_ble_eq_true rfl⟩ dL_law_409 (fun v ty' w' hp hk' => ?_)
  obtain ⟨I8, A8, L8, d8, a8, h8, v7, l8, c9, c10, e8, rfl, rfl⟩ := hp
  show GW κ 4 82 21282 (wX q d I3 A3 ++ wM r g I8 A8 L8) 412 [(3, .int i), (2, .ref (r 0)), (1, .ref (q 0)), (0, .ref b)] [.int v7]
  refine g_pop hk dL_law_412 rfl ?_
  refine g_goto (tgt := 1465) hk dL_law_413 (by decide) ?_
  exact tail I3 A3 I8 A8 L8 h3 h8 ⟨⟨(RT.keep hS.1.1 (d3 0 rfl) (a3 0 rfl) (d8 1 rfl) (a8 0 rfl) l8), (((d3 12 rfl).trans hS.1.2.1).trans (d8 10 rfl).symm), (((d3 13 rfl).trans hS.1.2.2).trans (d8 14 rfl).symm)⟩, (HS.push hS.2.1 e3 e8).1, (hS.2.2.1.keep (d3 19 rfl) (a3 8 rfl) (a3 9 rfl) (d8 15 rfl) (a8 10 rfl) (a8 11 rfl) (a8 12 rfl)), (hS.2.2.2.keep (d3 22 rfl) (d3 23 rfl) (d3 24 rfl) (d3 25 rfl) (d3 26 rfl) (d3 27 rfl) (a3 15 rfl) (a3 16 rfl) (a3 17 rfl) (a3 18 rfl) (a3 19 rfl) (a3 20 rfl) (a8 27 rfl) (a8 28 rfl))⟩
set_option maxHeartbeats 4000000 in
set_option maxRecDepth 100000 in
theorem law_8 {κ : Cx} {l : Launch} {D : va_G} {zt : Nat × Nat × Nat × (Nat → Nat) × (Nat → Nat)} {q r : Nat → Nat} {d g : Nat → ClassId} {b L : Nat} {xs : Nat → Int32} (hk : GC κ l D zt code 4 RL lw_tbl (tyX d ++ tyM g) room_1) (hX : GX κ b L xs) (i : Int32) (h0 : 0 ≤ i.toInt) (h6 : i.toInt + 6 ≤ (L : Int)) (hL : L ≤ 3072) (I : Nat → Int32) (A : Nat → Nat → Int32) (J : Nat → Int32) (B : Nat → Nat → Int32) (M : Nat → Nat → Int64) (hI : IvX I A) (hJ : IvM J B) (hS : RA I A J B M) (tail : ∀ (I : Nat → Int32) (A : Nat → Nat → Int32) (J : Nat → Int32) (B : Nat → Nat → Int32) (M : Nat → Nat → Int64), IvX I A → IvM J B → RA I A J B M → GW κ 4 82 21282 (wX q d I A ++ wM r g J B M) 1465 [(3, .int i), (2, .ref (r 0)), (1, .ref (q 0)), (0, .ref b)] []) : GW κ 4 82 21282 (wX q d I A ++ wM r g J B M) 416 [(3, .int i), (2, .ref (r 0)), (1, .ref (q 0)), (0, .ref b)] [] := by
  refine g_aload_n hk dL_law_416 rfl ?_
  refine g_callV (n := 0) hk (k186_X11_gap l D zt q d I A  hI) (SP.pre _ _) (fun q h => List.mem_append_left _ h) (gi_V zw_831 zw_832 zw_833 zw_103 (gi_sub zi_k186_X11_gap zg_k186_X11_gap)) rfl rfl rfl (by decide +kernel) ⟨Nat.le_of_ble_eq_true rfl, Nat.le_of_ble_eq_true rfl⟩ 0 rfl rfl rfl rfl (Nat.le_of_ble_eq_true rfl) ⟨Nat.le_of_ble_eq_true rfl, Nat.le_of_ble_eq_true rfl⟩ dL_law_417 (fun v ty' w' hp hk' => ?_)
  obtain ⟨I2, A2, d2, a2, h2, v1, c3, c4, e2, rfl, rfl⟩ := hp
  show GW κ 4 82 21282 (wM r g J B M ++ wX q d I2 A2) 420 [(3, .int i), (2, .ref (r 0)), (1, .ref (q 0)), (0, .ref b)] [.int v1]
  refine g_pop hk dL_law_420 rfl ?_
  refine g_aload_n hk dL_law_421 rfl ?_
  refine g_callV (n := 0) hk (j153_X12_gap l D zt r g J B M  hJ) (SP.pre _ _) (fun q h => List.mem_append_right _ h) (gi_V zw_1687 zw_1688 zw_1689 zw_115 (gi_sub zi_j153_X12_gap zg_j153_X12_gap)) rfl rfl rfl (by decide +kernel) ⟨Nat.le_of_ble_eq_true rfl, Nat.le_of_ble_eq_true rfl⟩ 0 rfl rfl rfl rfl (Nat.le_of_ble_eq_true rfl) ⟨Nat.le_of_ble_eq_true rfl, Nat.le_of_ble_eq_true rfl⟩ dL_law_422 (fun v ty' w' hp hk' => ?_)
  obtain ⟨I6, A6, L6, d6, a6, h6, v5, l6, c7, c8, e6, rfl, rfl⟩ := hp
  show GW κ 4 82 21282 (wX q d I2 A2 ++ wM r g I6 A6 L6) 425 [(3, .int i), (2, .ref (r 0)), (1, .ref (q 0)), (0, .ref b)] [.int v5]
  refine g_pop hk dL_law_425 rfl ?_
  refine g_goto (tgt := 1465) hk dL_law_426 (by decide) ?_
  exact tail I2 A2 I6 A6 L6 h2 h6 ⟨⟨(RT.keep hS.1.1 (d2 0 rfl) (a2 0 rfl) (d6 1 rfl) (a6 0 rfl) l6), (((d2 12 rfl).trans hS.1.2.1).trans (d6 10 rfl).symm), (((d2 13 rfl).trans hS.1.2.2).trans (d6 14 rfl).symm)⟩, (HS.gap hS.2.1 e2 e6).1, (hS.2.2.1.keep (d2 19 rfl) (a2 8 rfl) (a2 9 rfl) (d6 15 rfl) (a6 10 rfl) (a6 11 rfl) (a6 12 rfl)), (hS.2.2.2.keep (d2 22 rfl) (d2 23 rfl) (d2 24 rfl) (d2 25 rfl) (d2 26 rfl) (d2 27 rfl) (a2 15 rfl) (a2 16 rfl) (a2 17 rfl) (a2 18 rfl) (a2 19 rfl) (a2 20 rfl) (a6 27 rfl) (a6 28 rfl))⟩
set_option maxHeartbeats 4000000 in
set_option maxRecDepth 100000 in
theorem law_9 {κ : Cx} {l : Launch} {D : va_G} {zt : Nat × Nat × Nat × (Nat → Nat) × (Nat → Nat)} {q r : Nat → Nat} {d g : Nat → ClassId} {b L : Nat} {xs : Nat → Int32} (hk : GC κ l D zt code 4 RL lw_tbl (tyX d ++ tyM g) room_1) (hX : GX κ b L xs) (i : Int32) (h0 : 0 ≤ i.toInt) (h6 : i.toInt + 6 ≤ (L : Int)) (hL : L ≤ 3072) (I : Nat → Int32) (A : Nat → Nat → Int32) (J : Nat → Int32) (B : Nat → Nat → Int32) (M : Nat → Nat → Int64) (hI : IvX I A) (hJ : IvM J B) (hS : RA I A J B M) (tail : ∀ (I : Nat → Int32) (A : Nat → Nat → Int32) (J : Nat → Int32) (B : Nat → Nat → Int32) (M : Nat → Nat → Int64), IvX I A → IvM J B → RA I A J B M → GW κ 4 82 21282 (wX q d I A ++ wM r g J B M) 1465 [(3, .int i), (2, .ref (r 0)), (1, .ref (q 0)), (0, .ref b)] []) : GW κ 4 82 21282 (wX q d I A ++ wM r g J B M) 429 [(3, .int i), (2, .ref (r 0)), (1, .ref (q 0)), (0, .ref b)] [] := by
  refine g_aload_n hk dL_law_429 rfl ?_
  refine g_aload_n hk dL_law_430 rfl ?_
  refine g_iload_n hk dL_law_431 rfl ?_
  refine g_iconst (v := 1) hk dL_law_432 (by decide) ?_
  refine g_iadd hk dL_law_433 ?_
  refine g_topi (fun y1 ey1 => ?_)
  have hy1 : y1.toInt = i.toInt + 1 := i32_add ey1 rfl (by decide) (by omega) (by omega)
  refine g_sld (v := xs y1.toNatClampNeg) hk hX (vp_in_iff.mpr ⟨by omega, by omega⟩) rfl dL_law_434 ?_
  refine g_callV (n := 1) hk (k187_X11_mend l D zt q d I A (xs y1.toNatClampNeg) hI) (SP.pre _ _) (fun q h => List.mem_append_left _ h) (gi_V zw_835 zw_836 zw_837 zw_103 (gi_sub zi_k187_X11_mend zg_k187_X11_mend)) rfl rfl rfl (by decide +kernel) ⟨Nat.le_of_ble_eq_true rfl, Nat.le_of_ble_eq_true rfl⟩ 0 rfl rfl rfl rfl (Nat.le_of_ble_eq_true rfl) ⟨Nat.le_of_ble_eq_true rfl, Nat.le_of_ble_eq_true rfl⟩ dL_law_435 (fun v ty' w' hp hk' => ?_)
  obtain ⟨I3, A3, d3, a3, h3, v2, e3, rfl, rfl⟩ := hp
  show GW κ 4 82 21282 (wM r g J B M ++ wX q d I3 A3) 438 [(3, .int i), (2, .ref (r 0)), (1, .ref (q 0)), (0, .ref b)] [.int v2]
  refine g_pop hk dL_law_438 rfl ?_
  refine g_aload_n hk dL_law_439 rfl ?_
  refine g_aload_n hk dL_law_440 rfl ?_
  refine g_iload_n hk dL_law_441 rfl ?_
  refine g_iconst (v := 1) hk dL_law_442 (by decide) ?_
  refine g_iadd hk dL_law_443 ?_
  refine g_topi (fun y4 ey4 => ?_)
  have qy4 : y4 = y1 := ey4.trans ey1.symm
  subst qy4
  refine g_sld (v := xs y4.toNatClampNeg) hk hX (vp_in_iff.mpr ⟨by omega, by omega⟩) rfl dL_law_444 ?_
  refine g_callV (n := 1) hk (j154_X12_mend l D zt r g J B M (xs y4.toNatClampNeg) hJ) (SP.pre _ _) (fun q h => List.mem_append_right _ h) (gi_V zw_1691 zw_1692 zw_1693 zw_115 (gi_sub zi_j154_X12_mend zg_j154_X12_mend)) rfl rfl rfl (by decide +kernel) ⟨Nat.le_of_ble_eq_true rfl, Nat.le_of_ble_eq_true rfl⟩ 0 rfl rfl rfl rfl (Nat.le_of_ble_eq_true rfl) ⟨Nat.le_of_ble_eq_true rfl, Nat.le_of_ble_eq_true rfl⟩ dL_law_445 (fun v ty' w' hp hk' => ?_)
  obtain ⟨I6, A6, L6, d6, a6, h6, v5, l6, e6, rfl, rfl⟩ := hp
  show GW κ 4 82 21282 (wX q d I3 A3 ++ wM r g I6 A6 L6) 448 [(3, .int i), (2, .ref (r 0)), (1, .ref (q 0)), (0, .ref b)] [.int v5]
  refine g_pop hk dL_law_448 rfl ?_
  refine g_goto (tgt := 1465) hk dL_law_449 (by decide) ?_
  exact tail I3 A3 I6 A6 L6 h3 h6 ⟨⟨(RT.keep hS.1.1 (d3 0 rfl) (a3 0 rfl) (d6 1 rfl) (a6 0 rfl) l6), (((d3 12 rfl).trans hS.1.2.1).trans (d6 10 rfl).symm), (((d3 13 rfl).trans hS.1.2.2).trans (d6 14 rfl).symm)⟩, (HS.mend hS.2.1 e3 e6).1, (hS.2.2.1.keep (d3 19 rfl) (a3 8 rfl) (a3 9 rfl) (d6 15 rfl) (a6 10 rfl) (a6 11 rfl) (a6 12 rfl)), (hS.2.2.2.keep (d3 22 rfl) (d3 23 rfl) (d3 24 rfl) (d3 25 rfl) (d3 26 rfl) (d3 27 rfl) (a3 15 rfl) (a3 16 rfl) (a3 17 rfl) (a3 18 rfl) (a3 19 rfl) (a3 20 rfl) (a6 27 rfl) (a6 28 rfl))⟩
set_option maxHeartbeats 4000000 in
set_option maxRecDepth 100000 in
theorem law_10 {κ : Cx} {l : Launch} {D : va_G} {zt : Nat × Nat × Nat × (Nat → Nat) × (Nat → Nat)} {q r : Nat → Nat} {d g : Nat → ClassId} {b L : Nat} {xs : Nat → Int32} (hk : GC κ l D zt code 4 RL lw_tbl (tyX d ++ tyM g) room_1) (hX : GX κ b L xs) (i : Int32) (h0 : 0 ≤ i.toInt) (h6 : i.toInt + 6 ≤ (L : Int)) (hL : L ≤ 3072) (I : Nat → Int32) (A : Nat → Nat → Int32) (J : Nat → Int32) (B : Nat → Nat → Int32) (M : Nat → Nat → Int64) (hI : IvX I A) (hJ : IvM J B) (hS : RA I A J B M) (tail : ∀ (I : Nat → Int32) (A : Nat → Nat → Int32) (J : Nat → Int32) (B : Nat → Nat → Int32) (M : Nat → Nat → Int64), IvX I A → IvM J B → RA I A J B M → GW κ 4 82 21282 (wX q d I A ++ wM r g J B M) 1465 [(3, .int i), (2, .ref (r 0)), (1, .ref (q 0)), (0, .ref b)] []) : GW κ 4 82 21282 (wX q d I A ++ wM r g J B M) 452 [(3, .int i), (2, .ref (r 0)), (1, .ref (q 0)), (0, .ref b)] [] := by
  refine g_aload_n hk dL_law_452 rfl ?_
  refine g_aload_n hk dL_law_453 rfl ?_
  refine g_iload_n hk dL_law_454 rfl ?_
  refine g_iconst (v := 1) hk dL_law_455 (by decide) ?_
  refine g_iadd hk dL_law_456 ?_
  refine g_topi (fun y1 ey1 => ?_)
  have hy1 : y1.toInt = i.toInt + 1 := i32_add ey1 rfl (by decide) (by omega) (by omega)
  refine g_sld (v := xs y1.toNatClampNeg) hk hX (vp_in_iff.mpr ⟨by omega, by omega⟩) rfl dL_law_457 ?_
  refine g_callV (n := 1) hk (k191_X11_drop l D zt q d I A (xs y1.toNatClampNeg) hI) (SP.pre _ _) (fun q h => List.mem_append_left _ h) (gi_V zw_851 zw_852 zw_853 zw_103 (gi_sub zi_k191_X11_drop zg_k191_X11_drop)) rfl rfl rfl (by decide +kernel) ⟨Nat.le_of_ble_eq_true rfl, Nat.le_of_ble_eq_true rfl⟩ 0 rfl rfl rfl rfl (Nat.le_of_ble_eq_true rfl) ⟨Nat.le_of_ble_eq_true rfl, Nat.le_of_ble_eq_true rfl⟩ dL_law_458 (fun v ty' w' hp hk' => ?_)
  obtain ⟨I3, A3, d3, a3, h3, v2, c4, c5, e3, rfl, rfl⟩ := hp
  show GW κ 4 82 21282 (wM r g J B M ++ wX q d I3 A3) 461 [(3, .int i), (2, .ref (r 0)), (1, .ref (q 0)), (0, .ref b)] [.int v2]
  refine g_pop hk dL_law_461 rfl ?_
  refine g_aload_n hk dL_law_462 rfl ?_
  refine g_aload_n hk dL_law_463 rfl ?_
  refine g_iload_n hk dL_law_464 rfl ?_
  refine g_iconst (v := 1) hk dL_law_465 (by decide) ?_
  refine g_iadd hk dL_law_466 ?_
  refine g_topi (fun y6 ey6 => ?_)
  have qy6 : y6 = y1 := ey6.trans ey1.symm
  subst qy6
  refine g_sld (v := xs y6.toNatClampNeg) hk hX (vp_in_iff.mpr ⟨by omega, by omega⟩) rfl dL_law_467 ?_
  refine g_callV (n := 1) hk (j156_X12_drop l D zt r g J B M (xs y6.toNatClampNeg) hJ) (SP.pre _ _) (fun q h => List.mem_append_right _ h) (gi_V zw_1698 zw_1699 zw_1700 zw_115 (gi_sub zi_j156_X12_drop zg_j156_X12_drop)) rfl rfl rfl (by decide +kernel) ⟨Nat.le_of_ble_eq_true rfl, Nat.le_of_ble_eq_true rfl⟩ 0 rfl rfl rfl rfl (Nat.le_of_ble_eq_true rfl) ⟨Nat.le_of_ble_eq_true rfl, Nat.le_of_ble_eq_true rfl⟩ dL_law_468 (fun v ty' w' hp hk' => ?_)
  obtain ⟨I8, A8, L8, d8, a8, h8, v7, l8, c9, c10, e8, rfl, rfl⟩ := hp
  show GW κ 4 82 21282 (wX q d I3 A3 ++ wM r g I8 A8 L8) 471 [(3, .int i), (2, .ref (r 0)), (1, .ref (q 0)), (0, .ref b)] [.int v7]
  refine g_pop hk dL_law_471 rfl ?_
  refine g_goto (tgt := 1465) hk dL_law_472 (by decide) ?_
  exact tail I3 A3 I8 A8 L8 h3 h8 ⟨⟨(RT.keep hS.1.1 (d3 0 rfl) (a3 0 rfl) (d8 1 rfl) (a8 0 rfl) l8), (((d3 12 rfl).trans hS.1.2.1).trans (d8 10 rfl).symm), (((d3 13 rfl).trans hS.1.2.2).trans (d8 14 rfl).symm)⟩, (HS.drop hS.2.1 e3 e8).1, (hS.2.2.1.keep (d3 19 rfl) (a3 8 rfl) (a3 9 rfl) (d8 15 rfl) (a8 10 rfl) (a8 11 rfl) (a8 12 rfl)), (hS.2.2.2.keep (d3 22 rfl) (d3 23 rfl) (d3 24 rfl) (d3 25 rfl) (d3 26 rfl) (d3 27 rfl) (a3 15 rfl) (a3 16 rfl) (a3 17 rfl) (a3 18 rfl) (a3 19 rfl) (a3 20 rfl) (a8 27 rfl) (a8 28 rfl))⟩
set_option maxHeartbeats 4000000 in
set_option maxRecDepth 100000 in
theorem law_11 {κ : Cx} {l : Launch} {D : va_G} {zt : Nat × Nat × Nat × (Nat → Nat) × (Nat → Nat)} {q r : Nat → Nat} {d g : Nat → ClassId} {b L : Nat} {xs : Nat → Int32} (hk : GC κ l D zt code 4 RL lw_tbl (tyX d ++ tyM g) room_1) (hX : GX κ b L xs) (i : Int32) (h0 : 0 ≤ i.toInt) (h6 : i.toInt + 6 ≤ (L : Int)) (hL : L ≤ 3072) (I : Nat → Int32) (A : Nat → Nat → Int32) (J : Nat → Int32) (B : Nat → Nat → Int32) (M : Nat → Nat → Int64) (hI : IvX I A) (hJ : IvM J B) (hS : RA I A J B M) (tail : ∀ (I : Nat → Int32) (A : Nat → Nat → Int32) (J : Nat → Int32) (B : Nat → Nat → Int32) (M : Nat → Nat → Int64), IvX I A → IvM J B → RA I A J B M → GW κ 4 82 21282 (wX q d I A ++ wM r g J B M) 1465 [(3, .int i), (2, .ref (r 0)), (1, .ref (q 0)), (0, .ref b)] []) : GW κ 4 82 21282 (wX q d I A ++ wM r g J B M) 475 [(3, .int i), (2, .ref (r 0)), (1, .ref (q 0)), (0, .ref b)] [] := by
  refine g_aload_n hk dL_law_475 rfl ?_
  refine g_aload_n hk dL_law_476 rfl ?_
  refine g_iload_n hk dL_law_477 rfl ?_
  refine g_iconst (v := 1) hk dL_law_478 (by decide) ?_
  refine g_iadd hk dL_law_479 ?_
  refine g_topi (fun y1 ey1 => ?_)
  have hy1 : y1.toInt = i.toInt + 1 := i32_add ey1 rfl (by decide) (by omega) (by omega)
  refine g_sld (v := xs y1.toNatClampNeg) hk hX (vp_in_iff.mpr ⟨by omega, by omega⟩) rfl dL_law_480 ?_
  refine g_aload_n hk dL_law_481 rfl ?_
  refine g_iload_n hk dL_law_482 rfl ?_
  refine g_iconst (v := 2) hk dL_law_483 (by decide) ?_
  refine g_iadd hk dL_law_484 ?_
  refine g_topi (fun y2 ey2 => ?_)
  have hy2 : y2.toInt = i.toInt + 2 := i32_add ey2 rfl (by decide) (by omega) (by omega)
  refine g_sld (v := xs y2.toNatClampNeg) hk hX (vp_in_iff.mpr ⟨by omega, by omega⟩) rfl dL_law_485 ?_
  refine g_callV (n := 2) hk (k193_X11_set l D zt q d I A (xs y1.toNatClampNeg) (xs y2.toNatClampNeg) hI) (SP.pre _ _) (fun q h => List.mem_append_left _ h) (gi_V zw_859 zw_860 zw_861 zw_103 (gi_sub zi_k193_X11_set zg_k193_X11_set)) rfl rfl rfl (by decide +kernel) ⟨Nat.le_of_ble_eq_true rfl, Nat.le_of_ble_eq_true rfl⟩ 0 rfl rfl rfl rfl (Nat.le_of_ble_eq_true rfl) ⟨Nat.le_of_ble_eq_true rfl, Nat.le_of_ble_eq_true rfl⟩ dL_law_486 (fun v ty' w' hp hk' => ?_)
  obtain ⟨I4, A4, d4, a4, h4, v3, c5, c6, e4, rfl, rfl⟩ := hp
  show GW κ 4 82 21282 (wM r g J B M ++ wX q d I4 A4) 489 [(3, .int i), (2, .ref (r 0)), (1, .ref (q 0)), (0, .ref b)] [.int v3]
  refine g_pop hk dL_law_489 rfl ?_
  refine g_aload_n hk dL_law_490 rfl ?_
  refine g_aload_n hk dL_law_491 rfl ?_
  refine g_iload_n hk dL_law_492 rfl ?_
  refine g_iconst (v := 1) hk dL_law_493 (by decide) ?_
  refine g_iadd hk dL_law_494 ?_
  refine g_topi (fun y7 ey7 => ?_)
  have qy7 : y7 = y1 := ey7.trans ey1.symm
  subst qy7
  refine g_sld (v := xs y7.toNatClampNeg) hk hX (vp_in_iff.mpr ⟨by omega, by omega⟩) rfl dL_law_495 ?_
  refine g_aload_n hk dL_law_496 rfl ?_
  refine g_iload_n hk dL_law_497 rfl ?_
  refine g_iconst (v := 2) hk dL_law_498 (by decide) ?_
  refine g_iadd hk dL_law_499 ?_
  refine g_topi (fun y8 ey8 => ?_)
  have qy8 : y8 = y2 := ey8.trans ey2.symm
  subst qy8
  refine g_sld (v := xs y8.toNatClampNeg) hk hX (vp_in_iff.mpr ⟨by omega, by omega⟩) rfl dL_law_500 ?_
  refine g_callV (n := 2) hk (j157_X12_set l D zt r g J B M (xs y7.toNatClampNeg) (xs y8.toNatClampNeg) hJ) (SP.pre _ _) (fun q h => List.mem_append_right _ h) (gi_V zw_1702 zw_1703 zw_1704 zw_115 (gi_sub zi_j157_X12_set zg_j157_X12_set)) rfl rfl rfl (by decide +kernel) ⟨Nat.le_of_ble_eq_true rfl, Nat.le_of_ble_eq_true rfl⟩ 0 rfl rfl rfl rfl (Nat.le_of_ble_eq_true rfl) ⟨Nat.le_of_ble_eq_true rfl, Nat.le_of_ble_eq_true rfl⟩ dL_law_501 (fun v ty' w' hp hk' => ?_)
  obtain ⟨I10, A10, L10, d10, a10, h10, v9, l10, c11, c12, e10, rfl, rfl⟩ := hp
  show GW κ 4 82 21282 (wX q d I4 A4 ++ wM r g I10 A10 L10) 504 [(3, .int i), (2, .ref (r 0)), (1, .ref (q 0)), (0, .ref b)] [.int v9]
  refine g_pop hk dL_law_504 rfl ?_
  refine g_goto (tgt := 1465) hk dL_law_505 (by decide) ?_
  exact tail I4 A4 I10 A10 L10 h4 h10 ⟨⟨(RT.keep hS.1.1 (d4 0 rfl) (a4 0 rfl) (d10 1 rfl) (a10 0 rfl) l10), (((d4 12 rfl).trans hS.1.2.1).trans (d10 10 rfl).symm), (((d4 13 rfl).trans hS.1.2.2).trans (d10 14 rfl).symm)⟩, (HS.set hS.2.1 e4 e10).1, (hS.2.2.1.keep (d4 19 rfl) (a4 8 rfl) (a4 9 rfl) (d10 15 rfl) (a10 10 rfl) (a10 11 rfl) (a10 12 rfl)), (hS.2.2.2.keep (d4 22 rfl) (d4 23 rfl) (d4 24 rfl) (d4 25 rfl) (d4 26 rfl) (d4 27 rfl) (a4 15 rfl) (a4 16 rfl) (a4 17 rfl) (a4 18 rfl) (a4 19 rfl) (a4 20 rfl) (a10 27 rfl) (a10 28 rfl))⟩
set_option maxHeartbeats 4000000 in
set_option maxRecDepth 100000 in
theorem law_12 {κ : Cx} {l : Launch} {D : va_G} {zt : Nat × Nat × Nat × (Nat → Nat) × (Nat → Nat)} {q r : Nat → Nat} {d g : Nat → ClassId} {b L : Nat} {xs : Nat → Int32} (hk : GC κ l D zt code 4 RL lw_tbl (tyX d ++ tyM g) room_1) (hX : GX κ b L xs) (i : Int32) (h0 : 0 ≤ i.toInt) (h6 : i.toInt + 6 ≤ (L : Int)) (hL : L ≤ 3072) (I : Nat → Int32) (A : Nat → Nat → Int32) (J : Nat → Int32) (B : Nat → Nat → Int32) (M : Nat → Nat → Int64) (hI : IvX I A) (hJ : IvM J B) (hS : RA I A J B M) (tail : ∀ (I : Nat → Int32) (A : Nat → Nat → Int32) (J : Nat → Int32) (B : Nat → Nat → Int32) (M : Nat → Nat → Int64), IvX I A → IvM J B → RA I A J B M → GW κ 4 82 21282 (wX q d I A ++ wM r g J B M) 1465 [(3, .int i), (2, .ref (r 0)), (1, .ref (q 0)), (0, .ref b)] []) : GW κ 4 82 21282 (wX q d I A ++ wM r g J B M) 508 [(3, .int i), (2, .ref (r 0)), (1, .ref (q 0)), (0, .ref b)] [] := by
  refine g_aload_n hk dL_law_508 rfl ?_
  refine g_callV (n := 0) hk (k196_X11_undo l D zt q d I A  hI) (SP.pre _ _) (fun q h => List.mem_append_left _ h) (gi_V zw_866 zw_867 zw_868 zw_103 (gi_sub zi_k196_X11_undo zg_k196_X11_undo)) rfl rfl rfl (by decide +kernel) ⟨Nat.le_of_ble_eq_true rfl, Nat.le_of_ble_eq_true rfl⟩ 0 rfl rfl rfl rfl (Nat.le_of_ble_eq_true rfl) ⟨Nat.le_of_ble_eq_true rfl, Nat.le_of_ble_eq_true rfl⟩ dL_law_509 (fun v ty' w' hp hk' => ?_)
  obtain ⟨I2, A2, d2, a2, h2, v1, c3, c4, e2, rfl, rfl⟩ := hp
  show GW κ 4 82 21282 (wM r g J B M ++ wX q d I2 A2) 512 [(3, .int i), (2, .ref (r 0)), (1, .ref (q 0)), (0, .ref b)] [.int v1]
  refine g_pop hk dL_law_512 rfl ?_
  refine g_aload_n hk dL_law_513 rfl ?_
  refine g_callV (n := 0) hk (j158_X12_undo l D zt r g J B M  hJ) (SP.pre _ _) (fun q h => List.mem_append_right _ h) (gi_V zw_1706 zw_1707 zw_1708 zw_115 (gi_sub zi_j158_X12_undo zg_j158_X12_undo)) rfl rfl rfl (by decide +kernel) ⟨Nat.le_of_ble_eq_true rfl, Nat.le_of_ble_eq_true rfl⟩ 0 rfl rfl rfl rfl (Nat.le_of_ble_eq_true rfl) ⟨Nat.le_of_ble_eq_true rfl, Nat.le_of_ble_eq_true rfl⟩ dL_law_514 (fun v ty' w' hp hk' => ?_)
  obtain ⟨I6, A6, L6, d6, a6, h6, v5, l6, c7, c8, e6, rfl, rfl⟩ := hp
  show GW κ 4 82 21282 (wX q d I2 A2 ++ wM r g I6 A6 L6) 517 [(3, .int i), (2, .ref (r 0)), (1, .ref (q 0)), (0, .ref b)] [.int v5]
  refine g_pop hk dL_law_517 rfl ?_
  refine g_goto (tgt := 1465) hk dL_law_518 (by decide) ?_
  exact tail I2 A2 I6 A6 L6 h2 h6 ⟨⟨(RT.keep hS.1.1 (d2 0 rfl) (a2 0 rfl) (d6 1 rfl) (a6 0 rfl) l6), (((d2 12 rfl).trans hS.1.2.1).trans (d6 10 rfl).symm), (((d2 13 rfl).trans hS.1.2.2).trans (d6 14 rfl).symm)⟩, (HS.undo hS.2.1 e2 e6).1, (hS.2.2.1.keep (d2 19 rfl) (a2 8 rfl) (a2 9 rfl) (d6 15 rfl) (a6 10 rfl) (a6 11 rfl) (a6 12 rfl)), (hS.2.2.2.keep (d2 22 rfl) (d2 23 rfl) (d2 24 rfl) (d2 25 rfl) (d2 26 rfl) (d2 27 rfl) (a2 15 rfl) (a2 16 rfl) (a2 17 rfl) (a2 18 rfl) (a2 19 rfl) (a2 20 rfl) (a6 27 rfl) (a6 28 rfl))⟩
set_option maxHeartbeats 4000000 in
set_option maxRecDepth 100000 in
theorem law_13 {κ : Cx} {l : Launch} {D : va_G} {zt : Nat × Nat × Nat × (Nat → Nat) × (Nat → Nat)} {q r : Nat → Nat} {d g : Nat → ClassId} {b L : Nat} {xs : Nat → Int32} (hk : GC κ l D zt code 4 RL lw_tbl (tyX d ++ tyM g) room_1) (hX : GX κ b L xs) (i : Int32) (h0 : 0 ≤ i.toInt) (h6 : i.toInt + 6 ≤ (L : Int)) (hL : L ≤ 3072) (I : Nat → Int32) (A : Nat → Nat → Int32) (J : Nat → Int32) (B : Nat → Nat → Int32) (M : Nat → Nat → Int64) (hI : IvX I A) (hJ : IvM J B) (hS : RA I A J B M) (tail : ∀ (I : Nat → Int32) (A : Nat → Nat → Int32) (J : Nat → Int32) (B : Nat → Nat → Int32) (M : Nat → Nat → Int64), IvX I A → IvM J B → RA I A J B M → GW κ 4 82 21282 (wX q d I A ++ wM r g J B M) 1465 [(3, .int i), (2, .ref (r 0)), (1, .ref (q 0)), (0, .ref b)] []) : GW κ 4 82 21282 (wX q d I A ++ wM r g J B M) 521 [(3, .int i), (2, .ref (r 0)), (1, .ref (q 0)), (0, .ref b)] [] := by
  refine g_aload_n hk dL_law_521 rfl ?_
  refine g_aload_n hk dL_law_522 rfl ?_
  refine g_iload_n hk dL_law_523 rfl ?_
  refine g_iconst (v := 1) hk dL_law_524 (by decide) ?_
  refine g_iadd hk dL_law_525 ?_
  refine g_topi (fun y1 ey1 => ?_)
  have hy1 : y1.toInt = i.toInt + 1 := i32_add ey1 rfl (by decide) (by omega) (by omega)
  refine g_sld (v := xs y1.toNatClampNeg) hk hX (vp_in_iff.mpr ⟨by omega, by omega⟩) rfl dL_law_526 ?_
  refine g_aload_n hk dL_law_527 rfl ?_
  refine g_iload_n hk dL_law_528 rfl ?_
  refine g_iconst (v := 2) hk dL_law_529 (by decide) ?_
  refine g_iadd hk dL_law_530 ?_
  refine g_topi (fun y2 ey2 => ?_)
  have hy2 : y2.toInt = i.toInt + 2 := i32_add ey2 rfl (by decide) (by omega) (by omega)
  refine g_sld (v := xs y2.toNatClampNeg) hk hX (vp_in_iff.mpr ⟨by omega, by omega⟩) rfl dL_law_531 ?_
  refine g_aload_n hk dL_law_532 rfl ?_
  refine g_iload_n hk dL_law_533 rfl ?_
  refine g_iconst (v := 3) hk dL_law_534 (by decide) ?_
  refine g_iadd hk dL_law_535 ?_
  refine g_topi (fun y3 ey3 => ?_)
  have hy3 : y3.toInt = i.toInt + 3 := i32_add ey3 rfl (by decide) (by omega) (by omega)
  refine g_sld (v := xs y3.toNatClampNeg) hk hX (vp_in_iff.mpr ⟨by omega, by omega⟩) rfl dL_law_536 ?_
  refine g_callV (n := 3) hk (k206_X11_window l D zt q d I A (xs y1.toNatClampNeg) (xs y2.toNatClampNeg) (xs y3.toNatClampNeg) hI) (SP.pre _ _) (fun q h => List.mem_append_left _ h) (gi_V zw_897 zw_898 zw_899 zw_103 (gi_sub zi_k206_X11_window zg_k206_X11_window)) rfl rfl rfl (by decide +kernel) ⟨Nat.le_of_ble_eq_true rfl, Nat.le_of_ble_eq_true rfl⟩ 0 rfl rfl rfl rfl (Nat.le_of_ble_eq_true rfl) ⟨Nat.le_of_ble_eq_true rfl, Nat.le_of_ble_eq_true rfl⟩ dL_law_537 (fun v ty' w' hp hk' => ?_)
  obtain ⟨v4, e5, rfl, rfl⟩ := hp
  show GW κ 4 82 21282 (wM r g J B M ++ wX q d I A) 540 [(3, .int i), (2, .ref (r 0)), (1, .ref (q 0)), (0, .ref b)] [.int v4]
  refine g_pop hk dL_law_540 rfl ?_
  refine g_aload_n hk dL_law_541 rfl ?_
  refine g_aload_n hk dL_law_542 rfl ?_
  refine g_iload_n hk dL_law_543 rfl ?_
  refine g_iconst (v := 1) hk dL_law_544 (by decide) ?_
  refine g_iadd hk dL_law_545 ?_
  refine g_topi (fun y6 ey6 => ?_)
  have qy6 : y6 = y1 := ey6.trans ey1.symm
  subst qy6
  refine g_sld (v := xs y6.toNatClampNeg) hk hX (vp_in_iff.mpr ⟨by omega, by omega⟩) rfl dL_law_546 ?_
  refine g_aload_n hk dL_law_547 rfl ?_
  refine g_iload_n hk dL_law_548 rfl ?_
  refine g_iconst (v := 2) hk dL_law_549 (by decide) ?_
  refine g_iadd hk dL_law_550 ?_
  refine g_topi (fun y7 ey7 => ?_)
  have qy7 : y7 = y2 := ey7.trans ey2.symm
  subst qy7
  refine g_sld (v := xs y7.toNatClampNeg) hk hX (vp_in_iff.mpr ⟨by omega, by omega⟩) rfl dL_law_551 ?_
  refine g_aload_n hk dL_law_552 rfl ?_
  refine g_iload_n hk dL_law_553 rfl ?_
  refine g_iconst (v := 3) hk dL_law_554 (by decide) ?_
  refine g_iadd hk dL_law_555 ?_
  refine g_topi (fun y8 ey8 => ?_)
  have qy8 : y8 = y3 := ey8.trans ey3.symm
  subst qy8
  refine g_sld (v := xs y8.toNatClampNeg) hk hX (vp_in_iff.mpr ⟨by omega, by omega⟩) rfl dL_law_556 ?_
  refine g_callV (n := 3) hk (j159_X12_window l D zt r g J B M (xs y6.toNatClampNeg) (xs y7.toNatClampNeg) (xs y8.toNatClampNeg) hJ) (SP.pre _ _) (fun q h => List.mem_append_right _ h) (gi_V zw_1710 zw_1711 zw_1712 zw_115 (gi_sub zi_j159_X12_window zg_j159_X12_window)) rfl rfl rfl (by decide +kernel) ⟨Nat.le_of_ble_eq_true rfl, Nat.le_of_ble_eq_true rfl⟩ 0 rfl rfl rfl rfl (Nat.le_of_ble_eq_true rfl) ⟨Nat.le_of_ble_eq_true rfl, Nat.le_of_ble_eq_true rfl⟩ dL_law_557 (fun v ty' w' hp hk' => ?_)
  obtain ⟨v9, e10, rfl, rfl⟩ := hp
  show GW κ 4 82 21282 (wX q d I A ++ wM r g J B M) 560 [(3, .int i), (2, .ref (r 0)), (1, .ref (q 0)), (0, .ref b)] [.int v9]
  refine g_pop hk dL_law_560 rfl ?_
  refine g_goto (tgt := 1465) hk dL_law_561 (by decide) ?_
  exact tail I A J B M hI hJ ⟨⟨(RT.keep hS.1.1 rfl rfl rfl rfl rfl), hS.1.2.1, hS.1.2.2⟩, (hS.2.1.keep rfl rfl rfl rfl rfl rfl rfl rfl rfl rfl rfl rfl), (hS.2.2.1.keep rfl rfl rfl rfl rfl rfl rfl), (hS.2.2.2.keep rfl rfl rfl rfl rfl rfl rfl rfl rfl rfl rfl rfl rfl rfl)⟩
set_option maxHeartbeats 4000000 in
set_option maxRecDepth 100000 in
theorem law_14 {κ : Cx} {l : Launch} {D : va_G} {zt : Nat × Nat × Nat × (Nat → Nat) × (Nat → Nat)} {q r : Nat → Nat} {d g : Nat → ClassId} {b L : Nat} {xs : Nat → Int32} (hk : GC κ l D zt code 4 RL lw_tbl (tyX d ++ tyM g) room_1) (hX : GX κ b L xs) (i : Int32) (h0 : 0 ≤ i.toInt) (h6 : i.toInt + 6 ≤ (L : Int)) (hL : L ≤ 3072) (I : Nat → Int32) (A : Nat → Nat → Int32) (J : Nat → Int32) (B : Nat → Nat → Int32) (M : Nat → Nat → Int64) (hI : IvX I A) (hJ : IvM J B) (hS : RA I A J B M) (tail : ∀ (I : Nat → Int32) (A : Nat → Nat → Int32) (J : Nat → Int32) (B : Nat → Nat → Int32) (M : Nat → Nat → Int64), IvX I A → IvM J B → RA I A J B M → GW κ 4 82 21282 (wX q d I A ++ wM r g J B M) 1465 [(3, .int i), (2, .ref (r 0)), (1, .ref (q 0)), (0, .ref b)] []) : GW κ 4 82 21282 (wX q d I A ++ wM r g J B M) 564 [(3, .int i), (2, .ref (r 0)), (1, .ref (q 0)), (0, .ref b)] [] := by
  refine g_aload_n hk dL_law_564 rfl ?_
  refine g_aload_n hk dL_law_565 rfl ?_
  refine g_iload_n hk dL_law_566 rfl ?_
  refine g_iconst (v := 1) hk dL_law_567 (by decide) ?_
  refine g_iadd hk dL_law_568 ?_
  refine g_topi (fun y1 ey1 => ?_)
  have hy1 : y1.toInt = i.toInt + 1 := i32_add ey1 rfl (by decide) (by omega) (by omega)
  refine g_sld (v := xs y1.toNatClampNeg) hk hX (vp_in_iff.mpr ⟨by omega, by omega⟩) rfl dL_law_569 ?_
  refine g_aload_n hk dL_law_570 rfl ?_
  refine g_iload_n hk dL_law_571 rfl ?_
  refine g_iconst (v := 2) hk dL_law_572 (by decide) ?_
  refine g_iadd hk dL_law_573 ?_
  refine g_topi (fun y2 ey2 => ?_)
  have hy2 : y2.toInt = i.toInt + 2 := i32_add ey2 rfl (by decide) (by omega) (by omega)
  refine g_sld (v := xs y2.toNatClampNeg) hk hX (vp_in_iff.mpr ⟨by omega, by omega⟩) rfl dL_law_574 ?_
  refine g_aload_n hk dL_law_575 rfl ?_
  refine g_iload_n hk dL_law_576 rfl ?_
  refine g_iconst (v := 3) hk dL_law_577 (by decide) ?_
  refine g_iadd hk dL_law_578 ?_
  refine g_topi (fun y3 ey3 => ?_)
  have hy3 : y3.toInt = i.toInt + 3 := i32_add ey3 rfl (by decide) (by omega) (by omega)
  refine g_sld (v := xs y3.toNatClampNeg) hk hX (vp_in_iff.mpr ⟨by omega, by omega⟩) rfl dL_law_579 ?_
  refine g_callV (n := 3) hk (k211_X11_level l D zt q d I A (xs y1.toNatClampNeg) (xs y2.toNatClampNeg) (xs y3.toNatClampNeg) hI) (SP.pre _ _) (fun q h => List.mem_append_left _ h) (gi_V zw_922 zw_923 zw_924 zw_103 (gi_sub zi_k211_X11_level zg_k211_X11_level)) rfl rfl rfl (by decide +kernel) ⟨Nat.le_of_ble_eq_true rfl, Nat.le_of_ble_eq_true rfl⟩ 0 rfl rfl rfl rfl (Nat.le_of_ble_eq_true rfl) ⟨Nat.le_of_ble_eq_true rfl, Nat.le_of_ble_eq_true rfl⟩ dL_law_580 (fun v ty' w' hp hk' => ?_)
  obtain ⟨I5, A5, d5, a5, h5, v4, e5, rfl, rfl⟩ := hp
  show GW κ 4 82 21282 (wM r g J B M ++ wX q d I5 A5) 583 [(3, .int i), (2, .ref (r 0)), (1, .ref (q 0)), (0, .ref b)] [.int v4]
  refine g_pop hk dL_law_583 rfl ?_
  refine g_aload_n hk dL_law_584 rfl ?_
  refine g_aload_n hk dL_law_585 rfl ?_
  refine g_iload_n hk dL_law_586 rfl ?_
  refine g_iconst (v := 1) hk dL_law_587 (by decide) ?_
  refine g_iadd hk dL_law_588 ?_
  refine g_topi (fun y6 ey6 => ?_)
  have qy6 : y6 = y1 := ey6.trans ey1.symm
  subst qy6
  refine g_sld (v := xs y6.toNatClampNeg) hk hX (vp_in_iff.mpr ⟨by omega, by omega⟩) rfl dL_law_589 ?_
  refine g_aload_n hk dL_law_590 rfl ?_
  refine g_iload_n hk dL_law_591 rfl ?_
  refine g_iconst (v := 2) hk dL_law_592 (by decide) ?_
  refine g_iadd hk dL_law_593 ?_
  refine g_topi (fun y7 ey7 => ?_)
  have qy7 : y7 = y2 := ey7.trans ey2.symm
  subst qy7
  refine g_sld (v := xs y7.toNatClampNeg) hk hX (vp_in_iff.mpr ⟨by omega, by omega⟩) rfl dL_law_594 ?_
  refine g_aload_n hk dL_law_595 rfl ?_
  refine g_iload_n hk dL_law_596 rfl ?_
  refine g_iconst (v := 3) hk dL_law_597 (by decide) ?_
  refine g_iadd hk dL_law_598 ?_
  refine g_topi (fun y8 ey8 => ?_)
  have qy8 : y8 = y3 := ey8.trans ey3.symm
  subst qy8
  refine g_sld (v := xs y8.toNatClampNeg) hk hX (vp_in_iff.mpr ⟨by omega, by omega⟩) rfl dL_law_599 ?_
  refine g_callV (n := 3) hk (j164_X12_level l D zt r g J B M (xs y6.toNatClampNeg) (xs y7.toNatClampNeg) (xs y8.toNatClampNeg) hJ) (SP.pre _ _) (fun q h => List.mem_append_right _ h) (gi_V zw_1731 zw_1732 zw_1733 zw_115 (gi_sub zi_j164_X12_level zg_j164_X12_level)) rfl rfl rfl (by decide +kernel) ⟨Nat.le_of_ble_eq_true rfl, Nat.le_of_ble_eq_true rfl⟩ 0 rfl rfl rfl rfl (Nat.le_of_ble_eq_true rfl) ⟨Nat.le_of_ble_eq_true rfl, Nat.le_of_ble_eq_true rfl⟩ dL_law_600 (fun v ty' w' hp hk' => ?_)
  obtain ⟨I10, A10, L10, d10, a10, h10, v9, l10, e10, rfl, rfl⟩ := hp
  show GW κ 4 82 21282 (wX q d I5 A5 ++ wM r g I10 A10 L10) 603 [(3, .int i), (2, .ref (r 0)), (1, .ref (q 0)), (0, .ref b)] [.int v9]
  refine g_pop hk dL_law_603 rfl ?_
  refine g_goto (tgt := 1465) hk dL_law_604 (by decide) ?_
  exact tail I5 A5 I10 A10 L10 h5 h10 ⟨⟨(RT.keep hS.1.1 (d5 0 rfl) (a5 0 rfl) (d10 1 rfl) (a10 0 rfl) l10), (((d5 12 rfl).trans hS.1.2.1).trans (d10 10 rfl).symm), (((d5 13 rfl).trans hS.1.2.2).trans (d10 14 rfl).symm)⟩, (hS.2.1.keep (d5 17 rfl) (d5 18 rfl) (d5 20 rfl) (d5 21 rfl) (a5 7 rfl) (a5 10 rfl) (a5 11 rfl) (a5 12 rfl) (a5 13 rfl) (d10 22 rfl) (a10 17 rfl) (a10 22 rfl)), (hS.2.2.1.keep (d5 19 rfl) (a5 8 rfl) (a5 9 rfl) (d10 15 rfl) (a10 10 rfl) (a10 11 rfl) (a10 12 rfl)), (hS.2.2.2.keep (d5 22 rfl) (d5 23 rfl) (d5 24 rfl) (d5 25 rfl) (d5 26 rfl) (d5 27 rfl) (a5 15 rfl) (a5 16 rfl) (a5 17 rfl) (a5 18 rfl) (a5 19 rfl) (a5 20 rfl) (a10 27 rfl) (a10 28 rfl))⟩
set_option maxHeartbeats 4000000 in
set_option maxRecDepth 100000 in
theorem law_15 {κ : Cx} {l : Launch} {D : va_G} {zt : Nat × Nat × Nat × (Nat → Nat) × (Nat → Nat)} {q r : Nat → Nat} {d g : Nat → ClassId} {b L : Nat} {xs : Nat → Int32} (hk : GC κ l D zt code 4 RL lw_tbl (tyX d ++ tyM g) room_1) (hX : GX κ b L xs) (i : Int32) (h0 : 0 ≤ i.toInt) (h6 : i.toInt + 6 ≤ (L : Int)) (hL : L ≤ 3072) (I : Nat → Int32) (A : Nat → Nat → Int32) (J : Nat → Int32) (B : Nat → Nat → Int32) (M : Nat → Nat → Int64) (hI : IvX I A) (hJ : IvM J B) (hS : RA I A J B M) (tail : ∀ (I : Nat → Int32) (A : Nat → Nat → Int32) (J : Nat → Int32) (B : Nat → Nat → Int32) (M : Nat → Nat → Int64), IvX I A → IvM J B → RA I A J B M → GW κ 4 82 21282 (wX q d I A ++ wM r g J B M) 1465 [(3, .int i), (2, .ref (r 0)), (1, .ref (q 0)), (0, .ref b)] []) : GW κ 4 82 21282 (wX q d I A ++ wM r g J B M) 607 [(3, .int i), (2, .ref (r 0)), (1, .ref (q 0)), (0, .ref b)] [] := by
  refine g_aload_n hk dL_law_607 rfl ?_
  refine g_aload_n hk dL_law_608 rfl ?_
  refine g_iload_n hk dL_law_609 rfl ?_
  refine g_iconst (v := 1) hk dL_law_610 (by decide) ?_
  refine g_iadd hk dL_law_611 ?_
  refine g_topi (fun y1 ey1 => ?_)
  have hy1 : y1.toInt = i.toInt + 1 := i32_add ey1 rfl (by decide) (by omega) (by omega)
  refine g_sld (v := xs y1.toNatClampNeg) hk hX (vp_in_iff.mpr ⟨by omega, by omega⟩) rfl dL_law_612 ?_
  refine g_aload_n hk dL_law_613 rfl ?_
  refine g_iload_n hk dL_law_614 rfl ?_
  refine g_iconst (v := 2) hk dL_law_615 (by decide) ?_
  refine g_iadd hk dL_law_616 ?_
  refine g_topi (fun y2 ey2 => ?_)
  have hy2 : y2.toInt = i.toInt + 2 := i32_add ey2 rfl (by decide) (by omega) (by omega)
  refine g_sld (v := xs y2.toNatClampNeg) hk hX (vp_in_iff.mpr ⟨by omega, by omega⟩) rfl dL_law_617 ?_
  refine g_callV (n := 2) hk (k221_X11_distance l D zt q d I A (xs y1.toNatClampNeg) (xs y2.toNatClampNeg) hI) (SP.pre _ _) (fun q h => List.mem_append_left _ h) (gi_V zw_965 zw_966 zw_967 zw_103 (gi_sub zi_k221_X11_distance zg_k221_X11_distance)) rfl rfl rfl (by decide +kernel) ⟨Nat.le_of_ble_eq_true rfl, Nat.le_of_ble_eq_true rfl⟩ 0 rfl rfl rfl rfl (Nat.le_of_ble_eq_true rfl) ⟨Nat.le_of_ble_eq_true rfl, Nat.le_of_ble_eq_true rfl⟩ dL_law_618 (fun v ty' w' hp hk' => ?_)
  obtain ⟨I4, A4, d4, a4, h4, v3, e4, rfl, rfl⟩ := hp
  show GW κ 4 82 21282 (wM r g J B M ++ wX q d I4 A4) 621 [(3, .int i), (2, .ref (r 0)), (1, .ref (q 0)), (0, .ref b)] [.int v3]
  refine g_pop hk dL_law_621 rfl ?_
  refine g_aload_n hk dL_law_622 rfl ?_
  refine g_aload_n hk dL_law_623 rfl ?_
  refine g_iload_n hk dL_law_624 rfl ?_
  refine g_iconst (v := 1) hk dL_law_625 (by decide) ?_
  refine g_iadd hk dL_law_626 ?_
  refine g_topi (fun y5 ey5 => ?_)
  have qy5 : y5 = y1 := ey5.trans ey1.symm
  subst qy5
  refine g_sld (v := xs y5.toNatClampNeg) hk hX (vp_in_iff.mpr ⟨by omega, by omega⟩) rfl dL_law_627 ?_
  refine g_aload_n hk dL_law_628 rfl ?_
  refine g_iload_n hk dL_law_629 rfl ?_
  refine g_iconst (v := 2) hk dL_law_630 (by decide) ?_
  refine g_iadd hk dL_law_631 ?_
  refine g_topi (fun y6 ey6 => ?_)
  have qy6 : y6 = y2 := ey6.trans ey2.symm
  subst qy6
  refine g_sld (v := xs y6.toNatClampNeg) hk hX (vp_in_iff.mpr ⟨by omega, by omega⟩) rfl dL_law_632 ?_
  refine g_callV (n := 2) hk (j167_X12_distance l D zt r g J B M (xs y5.toNatClampNeg) (xs y6.toNatClampNeg) hJ) (SP.pre _ _) (fun q h => List.mem_append_right _ h) (gi_V zw_1751 zw_1752 zw_1753 zw_115 (gi_sub zi_j167_X12_distance zg_j167_X12_distance)) rfl rfl rfl (by decide +kernel) ⟨Nat.le_of_ble_eq_true rfl, Nat.le_of_ble_eq_true rfl⟩ 0 rfl rfl rfl rfl (Nat.le_of_ble_eq_true rfl) ⟨Nat.le_of_ble_eq_true rfl, Nat.le_of_ble_eq_true rfl⟩ dL_law_633 (fun v ty' w' hp hk' => ?_)
  obtain ⟨I8, A8, L8, d8, a8, h8, v7, l8, e8, rfl, rfl⟩ := hp
  show GW κ 4 82 21282 (wX q d I4 A4 ++ wM r g I8 A8 L8) 636 [(3, .int i), (2, .ref (r 0)), (1, .ref (q 0)), (0, .ref b)] [.int v7]
  refine g_pop hk dL_law_636 rfl ?_
  refine g_goto (tgt := 1465) hk dL_law_637 (by decide) ?_
  exact tail I4 A4 I8 A8 L8 h4 h8 ⟨⟨(RT.keep hS.1.1 (d4 0 rfl) (a4 0 rfl) (d8 1 rfl) (a8 0 rfl) l8), (((d4 12 rfl).trans hS.1.2.1).trans (d8 10 rfl).symm), (((d4 13 rfl).trans hS.1.2.2).trans (d8 14 rfl).symm)⟩, (hS.2.1.keep (d4 17 rfl) (d4 18 rfl) (d4 20 rfl) (d4 21 rfl) (a4 7 rfl) (a4 10 rfl) (a4 11 rfl) (a4 12 rfl) (a4 13 rfl) (d8 22 rfl) (a8 17 rfl) (a8 22 rfl)), (hS.2.2.1.keep (d4 19 rfl) (a4 8 rfl) (a4 9 rfl) (d8 15 rfl) (a8 10 rfl) (a8 11 rfl) (a8 12 rfl)), (hS.2.2.2.keep (d4 22 rfl) (d4 23 rfl) (d4 24 rfl) (d4 25 rfl) (d4 26 rfl) (d4 27 rfl) (a4 15 rfl) (a4 16 rfl) (a4 17 rfl) (a4 18 rfl) (a4 19 rfl) (a4 20 rfl) (a8 27 rfl) (a8 28 rfl))⟩
set_option maxHeartbeats 4000000 in
set_option maxRecDepth 100000 in
theorem law_16 {κ : Cx} {l : Launch} {D : va_G} {zt : Nat × Nat × Nat × (Nat → Nat) × (Nat → Nat)} {q r : Nat → Nat} {d g : Nat → ClassId} {b L : Nat} {xs : Nat → Int32} (hk : GC κ l D zt code 4 RL lw_tbl (tyX d ++ tyM g) room_1) (hX : GX κ b L xs) (i : Int32) (h0 : 0 ≤ i.toInt) (h6 : i.toInt + 6 ≤ (L : Int)) (hL : L ≤ 3072) (I : Nat → Int32) (A : Nat → Nat → Int32) (J : Nat → Int32) (B : Nat → Nat → Int32) (M : Nat → Nat → Int64) (hI : IvX I A) (hJ : IvM J B) (hS : RA I A J B M) (tail : ∀ (I : Nat → Int32) (A : Nat → Nat → Int32) (J : Nat → Int32) (B : Nat → Nat → Int32) (M : Nat → Nat → Int64), IvX I A → IvM J B → RA I A J B M → GW κ 4 82 21282 (wX q d I A ++ wM r g J B M) 1465 [(3, .int i), (2, .ref (r 0)), (1, .ref (q 0)), (0, .ref b)] []) : GW κ 4 82 21282 (wX q d I A ++ wM r g J B M) 640 [(3, .int i), (2, .ref (r 0)), (1, .ref (q 0)), (0, .ref b)] [] := by
  refine g_aload_n hk dL_law_640 rfl ?_
  refine g_aload_n hk dL_law_641 rfl ?_
  refine g_iload_n hk dL_law_642 rfl ?_
  refine g_iconst (v := 1) hk dL_law_643 (by decide) ?_
  refine g_iadd hk dL_law_644 ?_
  refine g_topi (fun y1 ey1 => ?_)
  have hy1 : y1.toInt = i.toInt + 1 := i32_add ey1 rfl (by decide) (by omega) (by omega)
  refine g_sld (v := xs y1.toNatClampNeg) hk hX (vp_in_iff.mpr ⟨by omega, by omega⟩) rfl dL_law_645 ?_
  refine g_aload_n hk dL_law_646 rfl ?_
  refine g_iload_n hk dL_law_647 rfl ?_
  refine g_iconst (v := 2) hk dL_law_648 (by decide) ?_
  refine g_iadd hk dL_law_649 ?_
  refine g_topi (fun y2 ey2 => ?_)
  have hy2 : y2.toInt = i.toInt + 2 := i32_add ey2 rfl (by decide) (by omega) (by omega)
  refine g_sld (v := xs y2.toNatClampNeg) hk hX (vp_in_iff.mpr ⟨by omega, by omega⟩) rfl dL_law_650 ?_
  refine g_aload_n hk dL_law_651 rfl ?_
  refine g_iload_n hk dL_law_652 rfl ?_
  refine g_iconst (v := 3) hk dL_law_653 (by decide) ?_
  refine g_iadd hk dL_law_654 ?_
  refine g_topi (fun y3 ey3 => ?_)
  have hy3 : y3.toInt = i.toInt + 3 := i32_add ey3 rfl (by decide) (by omega) (by omega)
  refine g_sld (v := xs y3.toNatClampNeg) hk hX (vp_in_iff.mpr ⟨by omega, by omega⟩) rfl dL_law_655 ?_
  refine g_callV (n := 3) hk (k238_X11_bound l D zt q d I A (xs y1.toNatClampNeg) (xs y2.toNatClampNeg) (xs y3.toNatClampNeg) hI) (SP.pre _ _) (fun q h => List.mem_append_left _ h) (gi_V zw_1017 zw_1018 zw_1019 zw_103 (gi_sub zi_k238_X11_bound zg_k238_X11_bound)) rfl rfl rfl (by decide +kernel) ⟨Nat.le_of_ble_eq_true rfl, Nat.le_of_ble_eq_true rfl⟩ 0 rfl rfl rfl rfl (Nat.le_of_ble_eq_true rfl) ⟨Nat.le_of_ble_eq_true rfl, Nat.le_of_ble_eq_true rfl⟩ dL_law_656 (fun v ty' w' hp hk' => ?_)
  obtain ⟨I5, A5, d5, a5, h5, v4, e5, rfl, rfl⟩ := hp
  show GW κ 4 82 21282 (wM r g J B M ++ wX q d I5 A5) 659 [(3, .int i), (2, .ref (r 0)), (1, .ref (q 0)), (0, .ref b)] [.int v4]
  refine g_pop hk dL_law_659 rfl ?_
  refine g_aload_n hk dL_law_660 rfl ?_
  refine g_aload_n hk dL_law_661 rfl ?_
  refine g_iload_n hk dL_law_662 rfl ?_
  refine g_iconst (v := 1) hk dL_law_663 (by decide) ?_
  refine g_iadd hk dL_law_664 ?_
  refine g_topi (fun y6 ey6 => ?_)
  have qy6 : y6 = y1 := ey6.trans ey1.symm
  subst qy6
  refine g_sld (v := xs y6.toNatClampNeg) hk hX (vp_in_iff.mpr ⟨by omega, by omega⟩) rfl dL_law_665 ?_
  refine g_aload_n hk dL_law_666 rfl ?_
  refine g_iload_n hk dL_law_667 rfl ?_
  refine g_iconst (v := 2) hk dL_law_668 (by decide) ?_
  refine g_iadd hk dL_law_669 ?_
  refine g_topi (fun y7 ey7 => ?_)
  have qy7 : y7 = y2 := ey7.trans ey2.symm
  subst qy7
  refine g_sld (v := xs y7.toNatClampNeg) hk hX (vp_in_iff.mpr ⟨by omega, by omega⟩) rfl dL_law_670 ?_
  refine g_aload_n hk dL_law_671 rfl ?_
  refine g_iload_n hk dL_law_672 rfl ?_
  refine g_iconst (v := 3) hk dL_law_673 (by decide) ?_
  refine g_iadd hk dL_law_674 ?_
  refine g_topi (fun y8 ey8 => ?_)
  have qy8 : y8 = y3 := ey8.trans ey3.symm
  subst qy8
  refine g_sld (v := xs y8.toNatClampNeg) hk hX (vp_in_iff.mpr ⟨by omega, by omega⟩) rfl dL_law_675 ?_
  refine g_callV (n := 3) hk (j179_X12_bound l D zt r g J B M (xs y6.toNatClampNeg) (xs y7.toNatClampNeg) (xs y8.toNatClampNeg) hJ) (SP.pre _ _) (fun q h => List.mem_append_right _ h) (gi_V zw_1799 zw_1800 zw_1801 zw_115 (gi_sub zi_j179_X12_bound zg_j179_X12_bound)) rfl rfl rfl (by decide +kernel) ⟨Nat.le_of_ble_eq_true rfl, Nat.le_of_ble_eq_true rfl⟩ 0 rfl rfl rfl rfl (Nat.le_of_ble_eq_true rfl) ⟨Nat.le_of_ble_eq_true rfl, Nat.le_of_ble_eq_true rfl⟩ dL_law_676 (fun v ty' w' hp hk' => ?_)
  obtain ⟨I10, A10, L10, d10, a10, h10, v9, l10, e10, rfl, rfl⟩ := hp
  show GW κ 4 82 21282 (wX q d I5 A5 ++ wM r g I10 A10 L10) 679 [(3, .int i), (2, .ref (r 0)), (1, .ref (q 0)), (0, .ref b)] [.int v9]
  refine g_pop hk dL_law_679 rfl ?_
  refine g_goto (tgt := 1465) hk dL_law_680 (by decide) ?_
  exact tail I5 A5 I10 A10 L10 h5 h10 ⟨⟨(RT.keep hS.1.1 (d5 0 rfl) (a5 0 rfl) (d10 1 rfl) (a10 0 rfl) l10), (((d5 12 rfl).trans hS.1.2.1).trans (d10 10 rfl).symm), (((d5 13 rfl).trans hS.1.2.2).trans (d10 14 rfl).symm)⟩, (hS.2.1.keep (d5 17 rfl) (d5 18 rfl) (d5 20 rfl) (d5 21 rfl) (a5 7 rfl) (a5 10 rfl) (a5 11 rfl) (a5 12 rfl) (a5 13 rfl) (d10 22 rfl) (a10 17 rfl) (a10 22 rfl)), (hS.2.2.1.keep (d5 19 rfl) (a5 8 rfl) (a5 9 rfl) (d10 15 rfl) (a10 10 rfl) (a10 11 rfl) (a10 12 rfl)), (hS.2.2.2.keep (d5 22 rfl) (d5 23 rfl) (d5 24 rfl) (d5 25 rfl) (d5 26 rfl) (d5 27 rfl) (a5 15 rfl) (a5 16 rfl) (a5 17 rfl) (a5 18 rfl) (a5 19 rfl) (a5 20 rfl) (a10 27 rfl) (a10 28 rfl))⟩
set_option maxHeartbeats 4000000 in
set_option maxRecDepth 100000 in
theorem law_17 {κ : Cx} {l : Launch} {D : va_G} {zt : Nat × Nat × Nat × (Nat → Nat) × (Nat → Nat)} {q r : Nat → Nat} {d g : Nat → ClassId} {b L : Nat} {xs : Nat → Int32} (hk : GC κ l D zt code 4 RL lw_tbl (tyX d ++ tyM g) room_1) (hX : GX κ b L xs) (i : Int32) (h0 : 0 ≤ i.toInt) (h6 : i.toInt + 6 ≤ (L : Int)) (hL : L ≤ 3072) (I : Nat → Int32) (A : Nat → Nat → Int32) (J : Nat → Int32) (B : Nat → Nat → Int32) (M : Nat → Nat → Int64) (hI : IvX I A) (hJ : IvM J B) (hS : RA I A J B M) (tail : ∀ (I : Nat → Int32) (A : Nat → Nat → Int32) (J : Nat → Int32) (B : Nat → Nat → Int32) (M : Nat → Nat → Int64), IvX I A → IvM J B → RA I A J B M → GW κ 4 82 21282 (wX q d I A ++ wM r g J B M) 1465 [(3, .int i), (2, .ref (r 0)), (1, .ref (q 0)), (0, .ref b)] []) : GW κ 4 82 21282 (wX q d I A ++ wM r g J B M) 683 [(3, .int i), (2, .ref (r 0)), (1, .ref (q 0)), (0, .ref b)] [] := by
  refine g_aload_n hk dL_law_683 rfl ?_
  refine g_aload_n hk dL_law_684 rfl ?_
  refine g_iload_n hk dL_law_685 rfl ?_
  refine g_iconst (v := 1) hk dL_law_686 (by decide) ?_
  refine g_iadd hk dL_law_687 ?_
  refine g_topi (fun y1 ey1 => ?_)
  have hy1 : y1.toInt = i.toInt + 1 := i32_add ey1 rfl (by decide) (by omega) (by omega)
  refine g_sld (v := xs y1.toNatClampNeg) hk hX (vp_in_iff.mpr ⟨by omega, by omega⟩) rfl dL_law_688 ?_
  refine g_aload_n hk dL_law_689 rfl ?_
  refine g_iload_n hk dL_law_690 rfl ?_
  refine g_iconst (v := 2) hk dL_law_691 (by decide) ?_
  refine g_iadd hk dL_law_692 ?_
  refine g_topi (fun y2 ey2 => ?_)
  have hy2 : y2.toInt = i.toInt + 2 := i32_add ey2 rfl (by decide) (by omega) (by omega)
  refine g_sld (v := xs y2.toNatClampNeg) hk hX (vp_in_iff.mpr ⟨by omega, by omega⟩) rfl dL_law_693 ?_
  refine g_aload_n hk dL_law_694 rfl ?_
  refine g_iload_n hk dL_law_695 rfl ?_
  refine g_iconst (v := 3) hk dL_law_696 (by decide) ?_
  refine g_iadd hk dL_law_697 ?_
  refine g_topi (fun y3 ey3 => ?_)
  have hy3 : y3.toInt = i.toInt + 3 := i32_add ey3 rfl (by decide) (by omega) (by omega)
  refine g_sld (v := xs y3.toNatClampNeg) hk hX (vp_in_iff.mpr ⟨by omega, by omega⟩) rfl dL_law_698 ?_
  refine g_aload_n hk dL_law_699 rfl ?_
  refine g_iload_n hk dL_law_700 rfl ?_
  refine g_iconst (v := 4) hk dL_law_701 (by decide) ?_
  refine g_iadd hk dL_law_702 ?_
  refine g_topi (fun y4 ey4 => ?_)
  have hy4 : y4.toInt = i.toInt + 4 := i32_add ey4 rfl (by decide) (by omega) (by omega)
  refine g_sld (v := xs y4.toNatClampNeg) hk hX (vp_in_iff.mpr ⟨by omega, by omega⟩) rfl dL_law_703 ?_
  refine g_callV (n := 4) hk (k246_X11_look l D zt q d I A (xs y1.toNatClampNeg) (xs y2.toNatClampNeg) (xs y3.toNatClampNeg) (xs y4.toNatClampNeg) hI) (SP.pre _ _) (fun q h => List.mem_append_left _ h) (gi_V zw_1041 zw_1042 zw_1043 zw_103 (gi_sub zi_k246_X11_look zg_k246_X11_look)) rfl rfl rfl (by decide +kernel) ⟨Nat.le_of_ble_eq_true rfl, Nat.le_of_ble_eq_true rfl⟩ 0 rfl rfl rfl rfl (Nat.le_of_ble_eq_true rfl) ⟨Nat.le_of_ble_eq_true rfl, Nat.le_of_ble_eq_true rfl⟩ dL_law_704 (fun v ty' w' hp hk' => ?_)
  obtain ⟨I6, A6, d6, a6, h6, v5, e6, rfl, rfl⟩ := hp
  show GW κ 4 82 21282 (wM r g J B M ++ wX q d I6 A6) 707 [(3, .int i), (2, .ref (r 0)), (1, .ref (q 0)), (0, .ref b)] [.int v5]
  refine g_pop hk dL_law_707 rfl ?_
  refine g_aload_n hk dL_law_708 rfl ?_
  refine g_aload_n hk dL_law_709 rfl ?_
  refine g_iload_n hk dL_law_710 rfl ?_
  refine g_iconst (v := 1) hk dL_law_711 (by decide) ?_
  refine g_iadd hk dL_law_712 ?_
  refine g_topi (fun y7 ey7 => ?_)
  have qy7 : y7 = y1 := ey7.trans ey1.symm
  subst qy7
  refine g_sld (v := xs y7.toNatClampNeg) hk hX (vp_in_iff.mpr ⟨by omega, by omega⟩) rfl dL_law_713 ?_
  refine g_aload_n hk dL_law_714 rfl ?_
  refine g_iload_n hk dL_law_715 rfl ?_
  refine g_iconst (v := 2) hk dL_law_716 (by decide) ?_
  refine g_iadd hk dL_law_717 ?_
  refine g_topi (fun y8 ey8 => ?_)
  have qy8 : y8 = y2 := ey8.trans ey2.symm
  subst qy8
  refine g_sld (v := xs y8.toNatClampNeg) hk hX (vp_in_iff.mpr ⟨by omega, by omega⟩) rfl dL_law_718 ?_
  refine g_aload_n hk dL_law_719 rfl ?_
  refine g_iload_n hk dL_law_720 rfl ?_
  refine g_iconst (v := 3) hk dL_law_721 (by decide) ?_
  refine g_iadd hk dL_law_722 ?_
  refine g_topi (fun y9 ey9 => ?_)
  have qy9 : y9 = y3 := ey9.trans ey3.symm
  subst qy9
  refine g_sld (v := xs y9.toNatClampNeg) hk hX (vp_in_iff.mpr ⟨by omega, by omega⟩) rfl dL_law_723 ?_
  refine g_aload_n hk dL_law_724 rfl ?_
  refine g_iload_n hk dL_law_725 rfl ?_
  refine g_iconst (v := 4) hk dL_law_726 (by decide) ?_
  refine g_iadd hk dL_law_727 ?_
  refine g_topi (fun y10 ey10 => ?_)
  have qy10 : y10 = y4 := ey10.trans ey4.symm
  subst qy10
  refine g_sld (v := xs y10.toNatClampNeg) hk hX (vp_in_iff.mpr ⟨by omega, by omega⟩) rfl dL_law_728 ?_
  refine g_callV (n := 4) hk (j183_X12_look l D zt r g J B M (xs y7.toNatClampNeg) (xs y8.toNatClampNeg) (xs y9.toNatClampNeg) (xs y10.toNatClampNeg) hJ) (SP.pre _ _) (fun q h => List.mem_append_right _ h) (gi_V zw_1816 zw_1817 zw_1818 zw_115 (gi_sub zi_j183_X12_look zg_j183_X12_look)) rfl rfl rfl (by decide +kernel) ⟨Nat.le_of_ble_eq_true rfl, Nat.le_of_ble_eq_true rfl⟩ 0 rfl rfl rfl rfl (Nat.le_of_ble_eq_true rfl) ⟨Nat.le_of_ble_eq_true rfl, Nat.le_of_ble_eq_true rfl⟩ dL_law_729 (fun v ty' w' hp hk' => ?_)
  obtain ⟨I12, A12, L12, d12, a12, h12, v11, l12, e12, rfl, rfl⟩ := hp
  show GW κ 4 82 21282 (wX q d I6 A6 ++ wM r g I12 A12 L12) 732 [(3, .int i), (2, .ref (r 0)), (1, .ref (q 0)), (0, .ref b)] [.int v11]
  refine g_pop hk dL_law_732 rfl ?_
  refine g_goto (tgt := 1465) hk dL_law_733 (by decide) ?_
  exact tail I6 A6 I12 A12 L12 h6 h12 ⟨⟨(RT.keep hS.1.1 (d6 0 rfl) (a6 0 rfl) (d12 1 rfl) (a12 0 rfl) l12), (((d6 12 rfl).trans hS.1.2.1).trans (d12 10 rfl).symm), (((d6 13 rfl).trans hS.1.2.2).trans (d12 14 rfl).symm)⟩, (hS.2.1.keep (d6 17 rfl) (d6 18 rfl) (d6 20 rfl) (d6 21 rfl) (a6 7 rfl) (a6 10 rfl) (a6 11 rfl) (a6 12 rfl) (a6 13 rfl) (d12 22 rfl) (a12 17 rfl) (a12 22 rfl)), (hS.2.2.1.keep (d6 19 rfl) (a6 8 rfl) (a6 9 rfl) (d12 15 rfl) (a12 10 rfl) (a12 11 rfl) (a12 12 rfl)), (hS.2.2.2.keep (d6 22 rfl) (d6 23 rfl) (d6 24 rfl) (d6 25 rfl) (d6 26 rfl) (d6 27 rfl) (a6 15 rfl) (a6 16 rfl) (a6 17 rfl) (a6 18 rfl) (a6 19 rfl) (a6 20 rfl) (a12 27 rfl) (a12 28 rfl))⟩
set_option maxHeartbeats 4000000 in
set_option maxRecDepth 100000 in
theorem law_18 {κ : Cx} {l : Launch} {D : va_G} {zt : Nat × Nat × Nat × (Nat → Nat) × (Nat → Nat)} {q r : Nat → Nat} {d g : Nat → ClassId} {b L : Nat} {xs : Nat → Int32} (hk : GC κ l D zt code 4 RL lw_tbl (tyX d ++ tyM g) room_1) (hX : GX κ b L xs) (i : Int32) (h0 : 0 ≤ i.toInt) (h6 : i.toInt + 6 ≤ (L : Int)) (hL : L ≤ 3072) (I : Nat → Int32) (A : Nat → Nat → Int32) (J : Nat → Int32) (B : Nat → Nat → Int32) (M : Nat → Nat → Int64) (hI : IvX I A) (hJ : IvM J B) (hS : RA I A J B M) (tail : ∀ (I : Nat → Int32) (A : Nat → Nat → Int32) (J : Nat → Int32) (B : Nat → Nat → Int32) (M : Nat → Nat → Int64), IvX I A → IvM J B → RA I A J B M → GW κ 4 82 21282 (wX q d I A ++ wM r g J B M) 1465 [(3, .int i), (2, .ref (r 0)), (1, .ref (q 0)), (0, .ref b)] []) : GW κ 4 82 21282 (wX q d I A ++ wM r g J B M) 736 [(3, .int i), (2, .ref (r 0)), (1, .ref (q 0)), (0, .ref b)] [] := by
  refine g_aload_n hk dL_law_736 rfl ?_
  refine g_aload_n hk dL_law_737 rfl ?_
  refine g_iload_n hk dL_law_738 rfl ?_
  refine g_iconst (v := 1) hk dL_law_739 (by decide) ?_
  refine g_iadd hk dL_law_740 ?_
  refine g_topi (fun y1 ey1 => ?_)
  have hy1 : y1.toInt = i.toInt + 1 := i32_add ey1 rfl (by decide) (by omega) (by omega)
  refine g_sld (v := xs y1.toNatClampNeg) hk hX (vp_in_iff.mpr ⟨by omega, by omega⟩) rfl dL_law_741 ?_
  refine g_aload_n hk dL_law_742 rfl ?_
  refine g_iload_n hk dL_law_743 rfl ?_
  refine g_iconst (v := 2) hk dL_law_744 (by decide) ?_
  refine g_iadd hk dL_law_745 ?_
  refine g_topi (fun y2 ey2 => ?_)
  have hy2 : y2.toInt = i.toInt + 2 := i32_add ey2 rfl (by decide) (by omega) (by omega)
  refine g_sld (v := xs y2.toNatClampNeg) hk hX (vp_in_iff.mpr ⟨by omega, by omega⟩) rfl dL_law_746 ?_
  refine g_callV (n := 2) hk (k262_X11_best l D zt q d I A (xs y1.toNatClampNeg) (xs y2.toNatClampNeg) hI) (SP.pre _ _) (fun q h => List.mem_append_left _ h) (gi_V zw_1113 zw_1114 zw_1115 zw_103 (gi_sub zi_k262_X11_best zg_k262_X11_best)) rfl rfl rfl (by decide +kernel) ⟨Nat.le_of_ble_eq_true rfl, Nat.le_of_ble_eq_true rfl⟩ 0 rfl rfl rfl rfl (Nat.le_of_ble_eq_true rfl) ⟨Nat.le_of_ble_eq_true rfl, Nat.le_of_ble_eq_true rfl⟩ dL_law_747 (fun v ty' w' hp hk' => ?_)
  obtain ⟨I4, A4, d4, a4, h4, v3, e4, rfl, rfl⟩ := hp
  show GW κ 4 82 21282 (wM r g J B M ++ wX q d I4 A4) 750 [(3, .int i), (2, .ref (r 0)), (1, .ref (q 0)), (0, .ref b)] [.int v3]
  refine g_pop hk dL_law_750 rfl ?_
  refine g_aload_n hk dL_law_751 rfl ?_
  refine g_aload_n hk dL_law_752 rfl ?_
  refine g_iload_n hk dL_law_753 rfl ?_
  refine g_iconst (v := 1) hk dL_law_754 (by decide) ?_
  refine g_iadd hk dL_law_755 ?_
  refine g_topi (fun y5 ey5 => ?_)
  have qy5 : y5 = y1 := ey5.trans ey1.symm
  subst qy5
  refine g_sld (v := xs y5.toNatClampNeg) hk hX (vp_in_iff.mpr ⟨by omega, by omega⟩) rfl dL_law_756 ?_
  refine g_aload_n hk dL_law_757 rfl ?_
  refine g_iload_n hk dL_law_758 rfl ?_
  refine g_iconst (v := 2) hk dL_law_759 (by decide) ?_
  refine g_iadd hk dL_law_760 ?_
  refine g_topi (fun y6 ey6 => ?_)
  have qy6 : y6 = y2 := ey6.trans ey2.symm
  subst qy6
  refine g_sld (v := xs y6.toNatClampNeg) hk hX (vp_in_iff.mpr ⟨by omega, by omega⟩) rfl dL_law_761 ?_
  refine g_callV (n := 2) hk (j185_X12_best l D zt r g J B M (xs y5.toNatClampNeg) (xs y6.toNatClampNeg) hJ) (SP.pre _ _) (fun q h => List.mem_append_right _ h) (gi_V zw_1840 zw_1841 zw_1842 zw_115 (gi_sub zi_j185_X12_best zg_j185_X12_best)) rfl rfl rfl (by decide +kernel) ⟨Nat.le_of_ble_eq_true rfl, Nat.le_of_ble_eq_true rfl⟩ 0 rfl rfl rfl rfl (Nat.le_of_ble_eq_true rfl) ⟨Nat.le_of_ble_eq_true rfl, Nat.le_of_ble_eq_true rfl⟩ dL_law_762 (fun v ty' w' hp hk' => ?_)
  obtain ⟨I8, A8, L8, d8, a8, h8, v7, l8, e8, rfl, rfl⟩ := hp
  show GW κ 4 82 21282 (wX q d I4 A4 ++ wM r g I8 A8 L8) 765 [(3, .int i), (2, .ref (r 0)), (1, .ref (q 0)), (0, .ref b)] [.int v7]
  refine g_pop hk dL_law_765 rfl ?_
  refine g_goto (tgt := 1465) hk dL_law_766 (by decide) ?_
  exact tail I4 A4 I8 A8 L8 h4 h8 ⟨⟨(RT.keep hS.1.1 (d4 0 rfl) (a4 0 rfl) (d8 1 rfl) (a8 0 rfl) l8), (((d4 12 rfl).trans hS.1.2.1).trans (d8 10 rfl).symm), (((d4 13 rfl).trans hS.1.2.2).trans (d8 14 rfl).symm)⟩, (hS.2.1.keep (d4 17 rfl) (d4 18 rfl) (d4 20 rfl) (d4 21 rfl) (a4 7 rfl) (a4 10 rfl) (a4 11 rfl) (a4 12 rfl) (a4 13 rfl) (d8 22 rfl) (a8 17 rfl) (a8 22 rfl)), (hS.2.2.1.keep (d4 19 rfl) (a4 8 rfl) (a4 9 rfl) (d8 15 rfl) (a8 10 rfl) (a8 11 rfl) (a8 12 rfl)), (hS.2.2.2.keep (d4 22 rfl) (d4 23 rfl) (d4 24 rfl) (d4 25 rfl) (d4 26 rfl) (d4 27 rfl) (a4 15 rfl) (a4 16 rfl) (a4 17 rfl) (a4 18 rfl) (a4 19 rfl) (a4 20 rfl) (a8 27 rfl) (a8 28 rfl))⟩
set_option maxHeartbeats 4000000 in
set_option maxRecDepth 100000 in
theorem law_19 {κ : Cx} {l : Launch} {D : va_G} {zt : Nat × Nat × Nat × (Nat → Nat) × (Nat → Nat)} {q r : Nat → Nat} {d g : Nat → ClassId} {b L : Nat} {xs : Nat → Int32} (hk : GC κ l D zt code 4 RL lw_tbl (tyX d ++ tyM g) room_1) (hX : GX κ b L xs) (i : Int32) (h0 : 0 ≤ i.toInt) (h6 : i.toInt + 6 ≤ (L : Int)) (hL : L ≤ 3072) (I : Nat → Int32) (A : Nat → Nat → Int32) (J : Nat → Int32) (B : Nat → Nat → Int32) (M : Nat → Nat → Int64) (hI : IvX I A) (hJ : IvM J B) (hS : RA I A J B M) (tail : ∀ (I : Nat → Int32) (A : Nat → Nat → Int32) (J : Nat → Int32) (B : Nat → Nat → Int32) (M : Nat → Nat → Int64), IvX I A → IvM J B → RA I A J B M → GW κ 4 82 21282 (wX q d I A ++ wM r g J B M) 1465 [(3, .int i), (2, .ref (r 0)), (1, .ref (q 0)), (0, .ref b)] []) : GW κ 4 82 21282 (wX q d I A ++ wM r g J B M) 769 [(3, .int i), (2, .ref (r 0)), (1, .ref (q 0)), (0, .ref b)] [] := by
  refine g_aload_n hk dL_law_769 rfl ?_
  refine g_aload_n hk dL_law_770 rfl ?_
  refine g_iload_n hk dL_law_771 rfl ?_
  refine g_iconst (v := 1) hk dL_law_772 (by decide) ?_
  refine g_iadd hk dL_law_773 ?_
  refine g_topi (fun y1 ey1 => ?_)
  have hy1 : y1.toInt = i.toInt + 1 := i32_add ey1 rfl (by decide) (by omega) (by omega)
  refine g_sld (v := xs y1.toNatClampNeg) hk hX (vp_in_iff.mpr ⟨by omega, by omega⟩) rfl dL_law_774 ?_
  refine g_aload_n hk dL_law_775 rfl ?_
  refine g_iload_n hk dL_law_776 rfl ?_
  refine g_iconst (v := 2) hk dL_law_777 (by decide) ?_
  refine g_iadd hk dL_law_778 ?_
  refine g_topi (fun y2 ey2 => ?_)
  have hy2 : y2.toInt = i.toInt + 2 := i32_add ey2 rfl (by decide) (by omega) (by omega)
  refine g_sld (v := xs y2.toNatClampNeg) hk hX (vp_in_iff.mpr ⟨by omega, by omega⟩) rfl dL_law_779 ?_
  refine g_callV (n := 2) hk (k265_X11_search l D zt q d I A (xs y1.toNatClampNeg) (xs y2.toNatClampNeg) hI) (SP.pre _ _) (fun q h => List.mem_append_left _ h) (gi_V zw_1129 zw_1130 zw_1131 zw_103 (gi_sub zi_k265_X11_search zg_k265_X11_search)) rfl rfl rfl (by decide +kernel) ⟨Nat.le_of_ble_eq_true rfl, Nat.le_of_ble_eq_true rfl⟩ 0 rfl rfl rfl rfl (Nat.le_of_ble_eq_true rfl) ⟨Nat.le_of_ble_eq_true rfl, Nat.le_of_ble_eq_true rfl⟩ dL_law_780 (fun v ty' w' hp hk' => ?_)
  obtain ⟨I4, A4, d4, a4, h4, v3, e4, rfl, rfl⟩ := hp
  show GW κ 4 82 21282 (wM r g J B M ++ wX q d I4 A4) 783 [(3, .int i), (2, .ref (r 0)), (1, .ref (q 0)), (0, .ref b)] [.int v3]
  refine g_pop hk dL_law_783 rfl ?_
  refine g_aload_n hk dL_law_784 rfl ?_
  refine g_aload_n hk dL_law_785 rfl ?_
  refine g_iload_n hk dL_law_786 rfl ?_
  refine g_iconst (v := 1) hk dL_law_787 (by decide) ?_
  refine g_iadd hk dL_law_788 ?_
  refine g_topi (fun y5 ey5 => ?_)
  have qy5 : y5 = y1 := ey5.trans ey1.symm
  subst qy5
  refine g_sld (v := xs y5.toNatClampNeg) hk hX (vp_in_iff.mpr ⟨by omega, by omega⟩) rfl dL_law_789 ?_
  refine g_aload_n hk dL_law_790 rfl ?_
  refine g_iload_n hk dL_law_791 rfl ?_
  refine g_iconst (v := 2) hk dL_law_792 (by decide) ?_
  refine g_iadd hk dL_law_793 ?_
  refine g_topi (fun y6 ey6 => ?_)
  have qy6 : y6 = y2 := ey6.trans ey2.symm
  subst qy6
  refine g_sld (v := xs y6.toNatClampNeg) hk hX (vp_in_iff.mpr ⟨by omega, by omega⟩) rfl dL_law_794 ?_
  refine g_callV (n := 2) hk (j188_X12_search l D zt r g J B M (xs y5.toNatClampNeg) (xs y6.toNatClampNeg) hJ) (SP.pre _ _) (fun q h => List.mem_append_right _ h) (gi_V zw_1856 zw_1857 zw_1858 zw_115 (gi_sub zi_j188_X12_search zg_j188_X12_search)) rfl rfl rfl (by decide +kernel) ⟨Nat.le_of_ble_eq_true rfl, Nat.le_of_ble_eq_true rfl⟩ 0 rfl rfl rfl rfl (Nat.le_of_ble_eq_true rfl) ⟨Nat.le_of_ble_eq_true rfl, Nat.le_of_ble_eq_true rfl⟩ dL_law_795 (fun v ty' w' hp hk' => ?_)
  obtain ⟨I8, A8, L8, d8, a8, h8, v7, l8, e8, rfl, rfl⟩ := hp
  show GW κ 4 82 21282 (wX q d I4 A4 ++ wM r g I8 A8 L8) 798 [(3, .int i), (2, .ref (r 0)), (1, .ref (q 0)), (0, .ref b)] [.int v7]
  refine g_pop hk dL_law_798 rfl ?_
  refine g_goto (tgt := 1465) hk dL_law_799 (by decide) ?_
  exact tail I4 A4 I8 A8 L8 h4 h8 ⟨⟨(RT.keep hS.1.1 (d4 0 rfl) (a4 0 rfl) (d8 1 rfl) (a8 0 rfl) l8), (((d4 12 rfl).trans hS.1.2.1).trans (d8 10 rfl).symm), (((d4 13 rfl).trans hS.1.2.2).trans (d8 14 rfl).symm)⟩, (hS.2.1.keep (d4 17 rfl) (d4 18 rfl) (d4 20 rfl) (d4 21 rfl) (a4 7 rfl) (a4 10 rfl) (a4 11 rfl) (a4 12 rfl) (a4 13 rfl) (d8 22 rfl) (a8 17 rfl) (a8 22 rfl)), (hS.2.2.1.keep (d4 19 rfl) (a4 8 rfl) (a4 9 rfl) (d8 15 rfl) (a8 10 rfl) (a8 11 rfl) (a8 12 rfl)), (hS.2.2.2.keep (d4 22 rfl) (d4 23 rfl) (d4 24 rfl) (d4 25 rfl) (d4 26 rfl) (d4 27 rfl) (a4 15 rfl) (a4 16 rfl) (a4 17 rfl) (a4 18 rfl) (a4 19 rfl) (a4 20 rfl) (a8 27 rfl) (a8 28 rfl))⟩
end
section
set_option maxHeartbeats 4000000 in
set_option maxRecDepth 100000 in
theorem law_20 {κ : Cx} {l : Launch} {D : va_G} {zt : Nat × Nat × Nat × (Nat → Nat) × (Nat → Nat)} {q r : Nat → Nat} {d g : Nat → ClassId} {b L : Nat} {xs : Nat → Int32} (hk : GC κ l D zt code 4 RL lw_tbl (tyX d ++ tyM g) room_1) (hX : GX κ b L xs) (i : Int32) (h0 : 0 ≤ i.toInt) (h6 : i.toInt + 6 ≤ (L : Int)) (hL : L ≤ 3072) (I : Nat → Int32) (A : Nat → Nat → Int32) (J : Nat → Int32) (B : Nat → Nat → Int32) (M : Nat → Nat → Int64) (hI : IvX I A) (hJ : IvM J B) (hS : RA I A J B M) (tail : ∀ (I : Nat → Int32) (A : Nat → Nat → Int32) (J : Nat → Int32) (B : Nat → Nat → Int32) (M : Nat → Nat → Int64), IvX I A → IvM J B → RA I A J B M → GW κ 4 82 21282 (wX q d I A ++ wM r g J B M) 1465 [(3, .int i), (2, .ref (r 0)), (1, .ref (q 0)), (0, .ref b)] []) : GW κ 4 82 21282 (wX q d I A ++ wM r g J B M) 802 [(3, .int i), (2, .ref (r 0)), (1, .ref (q 0)), (0, .ref b)] [] := by
  refine g_aload_n hk dL_law_802 rfl ?_
  refine g_aload_n hk dL_law_803 rfl ?_
  refine g_iload_n hk dL_law_804 rfl ?_
  refine g_iconst (v := 1) hk dL_law_805 (by decide) ?_
  refine g_iadd hk dL_law_806 ?_
  refine g_topi (fun y1 ey1 => ?_)
  have hy1 : y1.toInt = i.toInt + 1 := i32_add ey1 rfl (by decide) (by omega) (by omega)
  refine g_sld (v := xs y1.toNatClampNeg) hk hX (vp_in_iff.mpr ⟨by omega, by omega⟩) rfl dL_law_807 ?_
  refine g_aload_n hk dL_law_808 rfl ?_
  refine g_iload_n hk dL_law_809 rfl ?_
  refine g_iconst (v := 2) hk dL_law_810 (by decide) ?_
  refine g_iadd hk dL_law_811 ?_
  refine g_topi (fun y2 ey2 => ?_)
  have hy2 : y2.toInt = i.toInt + 2 := i32_add ey2 rfl (by decide) (by omega) (by omega)
  refine g_sld (v := xs y2.toNatClampNeg) hk hX (vp_in_iff.mpr ⟨by omega, by omega⟩) rfl dL_law_812 ?_
  refine g_aload_n hk dL_law_813 rfl ?_
  refine g_iload_n hk dL_law_814 rfl ?_
  refine g_iconst (v := 3) hk dL_law_815 (by decide) ?_
  refine g_iadd hk dL_law_816 ?_
  refine g_topi (fun y3 ey3 => ?_)
  have hy3 : y3.toInt = i.toInt + 3 := i32_add ey3 rfl (by decide) (by omega) (by omega)
  refine g_sld (v := xs y3.toNatClampNeg) hk hX (vp_in_iff.mpr ⟨by omega, by omega⟩) rfl dL_law_817 ?_
  refine g_callV (n := 3) hk (k268_X11_match l D zt q d I A (xs y1.toNatClampNeg) (xs y2.toNatClampNeg) (xs y3.toNatClampNeg) hI) (SP.pre _ _) (fun q h => List.mem_append_left _ h) (gi_V zw_1143 zw_1144 zw_1145 zw_103 (gi_sub zi_k268_X11_match zg_k268_X11_match)) rfl rfl rfl (by decide +kernel) ⟨Nat.le_of_ble_eq_true rfl, Nat.le_of_ble_eq_true rfl⟩ 0 rfl rfl rfl rfl (Nat.le_of_ble_eq_true rfl) ⟨Nat.le_of_ble_eq_true rfl, Nat.le_of_ble_eq_true rfl⟩ dL_law_818 (fun v ty' w' hp hk' => ?_)
  obtain ⟨I5, A5, d5, a5, h5, v4, e5, rfl, rfl⟩ := hp
  show GW κ 4 82 21282 (wM r g J B M ++ wX q d I5 A5) 821 [(3, .int i), (2, .ref (r 0)), (1, .ref (q 0)), (0, .ref b)] [.int v4]
  refine g_pop hk dL_law_821 rfl ?_
  refine g_aload_n hk dL_law_822 rfl ?_
  refine g_aload_n hk dL_law_823 rfl ?_
  refine g_iload_n hk dL_law_824 rfl ?_
  refine g_iconst (v := 1) hk dL_law_825 (by decide) ?_
  refine g_iadd hk dL_law_826 ?_
  refine g_topi (fun y6 ey6 => ?_)
  have qy6 : y6 = y1 := ey6.trans ey1.symm
  subst qy6
  refine g_sld (v := xs y6.toNatClampNeg) hk hX (vp_in_iff.mpr ⟨by omega, by omega⟩) rfl dL_law_827 ?_
  refine g_aload_n hk dL_law_828 rfl ?_
  refine g_iload_n hk dL_law_829 rfl ?_
  refine g_iconst (v := 2) hk dL_law_830 (by decide) ?_
  refine g_iadd hk dL_law_831 ?_
  refine g_topi (fun y7 ey7 => ?_)
  have qy7 : y7 = y2 := ey7.trans ey2.symm
  subst qy7
  refine g_sld (v := xs y7.toNatClampNeg) hk hX (vp_in_iff.mpr ⟨by omega, by omega⟩) rfl dL_law_832 ?_
  refine g_aload_n hk dL_law_833 rfl ?_
  refine g_iload_n hk dL_law_834 rfl ?_
  refine g_iconst (v := 3) hk dL_law_835 (by decide) ?_
  refine g_iadd hk dL_law_836 ?_
  refine g_topi (fun y8 ey8 => ?_)
  have qy8 : y8 = y3 := ey8.trans ey3.symm
  subst qy8
  refine g_sld (v := xs y8.toNatClampNeg) hk hX (vp_in_iff.mpr ⟨by omega, by omega⟩) rfl dL_law_837 ?_
  refine g_callV (n := 3) hk (j190_X12_match l D zt r g J B M (xs y6.toNatClampNeg) (xs y7.toNatClampNeg) (xs y8.toNatClampNeg) hJ) (SP.pre _ _) (fun q h => List.mem_append_right _ h) (gi_V zw_1864 zw_1865 zw_1866 zw_115 (gi_sub zi_j190_X12_match zg_j190_X12_match)) rfl rfl rfl (by decide +kernel) ⟨Nat.le_of_ble_eq_true rfl, Nat.le_of_ble_eq_true rfl⟩ 0 rfl rfl rfl rfl (Nat.le_of_ble_eq_true rfl) ⟨Nat.le_of_ble_eq_true rfl, Nat.le_of_ble_eq_true rfl⟩ dL_law_838 (fun v ty' w' hp hk' => ?_)
  obtain ⟨I10, A10, L10, d10, a10, h10, v9, l10, e10, rfl, rfl⟩ := hp
  show GW κ 4 82 21282 (wX q d I5 A5 ++ wM r g I10 A10 L10) 841 [(3, .int i), (2, .ref (r 0)), (1, .ref (q 0)), (0, .ref b)] [.int v9]
  refine g_pop hk dL_law_841 rfl ?_
  refine g_goto (tgt := 1465) hk dL_law_842 (by decide) ?_
  exact tail I5 A5 I10 A10 L10 h5 h10 ⟨⟨(RT.keep hS.1.1 (d5 0 rfl) (a5 0 rfl) (d10 1 rfl) (a10 0 rfl) l10), (((d5 12 rfl).trans hS.1.2.1).trans (d10 10 rfl).symm), (((d5 13 rfl).trans hS.1.2.2).trans (d10 14 rfl).symm)⟩, (hS.2.1.keep (d5 17 rfl) (d5 18 rfl) (d5 20 rfl) (d5 21 rfl) (a5 7 rfl) (a5 10 rfl) (a5 11 rfl) (a5 12 rfl) (a5 13 rfl) (d10 22 rfl) (a10 17 rfl) (a10 22 rfl)), (hS.2.2.1.keep (d5 19 rfl) (a5 8 rfl) (a5 9 rfl) (d10 15 rfl) (a10 10 rfl) (a10 11 rfl) (a10 12 rfl)), (hS.2.2.2.keep (d5 22 rfl) (d5 23 rfl) (d5 24 rfl) (d5 25 rfl) (d5 26 rfl) (d5 27 rfl) (a5 15 rfl) (a5 16 rfl) (a5 17 rfl) (a5 18 rfl) (a5 19 rfl) (a5 20 rfl) (a10 27 rfl) (a10 28 rfl))⟩
set_option maxHeartbeats 4000000 in
set_option maxRecDepth 100000 in
theorem law_21 {κ : Cx} {l : Launch} {D : va_G} {zt : Nat × Nat × Nat × (Nat → Nat) × (Nat → Nat)} {q r : Nat → Nat} {d g : Nat → ClassId} {b L : Nat} {xs : Nat → Int32} (hk : GC κ l D zt code 4 RL lw_tbl (tyX d ++ tyM g) room_1) (hX : GX κ b L xs) (i : Int32) (h0 : 0 ≤ i.toInt) (h6 : i.toInt + 6 ≤ (L : Int)) (hL : L ≤ 3072) (I : Nat → Int32) (A : Nat → Nat → Int32) (J : Nat → Int32) (B : Nat → Nat → Int32) (M : Nat → Nat → Int64) (hI : IvX I A) (hJ : IvM J B) (hS : RA I A J B M) (tail : ∀ (I : Nat → Int32) (A : Nat → Nat → Int32) (J : Nat → Int32) (B : Nat → Nat → Int32) (M : Nat → Nat → Int64), IvX I A → IvM J B → RA I A J B M → GW κ 4 82 21282 (wX q d I A ++ wM r g J B M) 1465 [(3, .int i), (2, .ref (r 0)), (1, .ref (q 0)), (0, .ref b)] []) : GW κ 4 82 21282 (wX q d I A ++ wM r g J B M) 845 [(3, .int i), (2, .ref (r 0)), (1, .ref (q 0)), (0, .ref b)] [] := by
  refine g_aload_n hk dL_law_845 rfl ?_
  refine g_aload_n hk dL_law_846 rfl ?_
  refine g_iload_n hk dL_law_847 rfl ?_
  refine g_iconst (v := 1) hk dL_law_848 (by decide) ?_
  refine g_iadd hk dL_law_849 ?_
  refine g_topi (fun y1 ey1 => ?_)
  have hy1 : y1.toInt = i.toInt + 1 := i32_add ey1 rfl (by decide) (by omega) (by omega)
  refine g_sld (v := xs y1.toNatClampNeg) hk hX (vp_in_iff.mpr ⟨by omega, by omega⟩) rfl dL_law_850 ?_
  refine g_aload_n hk dL_law_851 rfl ?_
  refine g_iload_n hk dL_law_852 rfl ?_
  refine g_iconst (v := 2) hk dL_law_853 (by decide) ?_
  refine g_iadd hk dL_law_854 ?_
  refine g_topi (fun y2 ey2 => ?_)
  have hy2 : y2.toInt = i.toInt + 2 := i32_add ey2 rfl (by decide) (by omega) (by omega)
  refine g_sld (v := xs y2.toNatClampNeg) hk hX (vp_in_iff.mpr ⟨by omega, by omega⟩) rfl dL_law_855 ?_
  refine g_callV (n := 2) hk (k275_X11_within l D zt q d I A (xs y1.toNatClampNeg) (xs y2.toNatClampNeg) hI) (SP.pre _ _) (fun q h => List.mem_append_left _ h) (gi_V zw_1172 zw_1173 zw_1174 zw_103 (gi_sub zi_k275_X11_within zg_k275_X11_within)) rfl rfl rfl (by decide +kernel) ⟨Nat.le_of_ble_eq_true rfl, Nat.le_of_ble_eq_true rfl⟩ 0 rfl rfl rfl rfl (Nat.le_of_ble_eq_true rfl) ⟨Nat.le_of_ble_eq_true rfl, Nat.le_of_ble_eq_true rfl⟩ dL_law_856 (fun v ty' w' hp hk' => ?_)
  obtain ⟨I4, A4, d4, a4, h4, v3, e4, rfl, rfl⟩ := hp
  show GW κ 4 82 21282 (wM r g J B M ++ wX q d I4 A4) 859 [(3, .int i), (2, .ref (r 0)), (1, .ref (q 0)), (0, .ref b)] [.int v3]
  refine g_pop hk dL_law_859 rfl ?_
  refine g_aload_n hk dL_law_860 rfl ?_
  refine g_aload_n hk dL_law_861 rfl ?_
  refine g_iload_n hk dL_law_862 rfl ?_
  refine g_iconst (v := 1) hk dL_law_863 (by decide) ?_
  refine g_iadd hk dL_law_864 ?_
  refine g_topi (fun y5 ey5 => ?_)
  have qy5 : y5 = y1 := ey5.trans ey1.symm
  subst qy5
  refine g_sld (v := xs y5.toNatClampNeg) hk hX (vp_in_iff.mpr ⟨by omega, by omega⟩) rfl dL_law_865 ?_
  refine g_aload_n hk dL_law_866 rfl ?_
  refine g_iload_n hk dL_law_867 rfl ?_
  refine g_iconst (v := 2) hk dL_law_868 (by decide) ?_
  refine g_iadd hk dL_law_869 ?_
  refine g_topi (fun y6 ey6 => ?_)
  have qy6 : y6 = y2 := ey6.trans ey2.symm
  subst qy6
  refine g_sld (v := xs y6.toNatClampNeg) hk hX (vp_in_iff.mpr ⟨by omega, by omega⟩) rfl dL_law_870 ?_
  refine g_callV (n := 2) hk (j193_X12_within l D zt r g J B M (xs y5.toNatClampNeg) (xs y6.toNatClampNeg) hJ) (SP.pre _ _) (fun q h => List.mem_append_right _ h) (gi_V zw_1876 zw_1877 zw_1878 zw_115 (gi_sub zi_j193_X12_within zg_j193_X12_within)) rfl rfl rfl (by decide +kernel) ⟨Nat.le_of_ble_eq_true rfl, Nat.le_of_ble_eq_true rfl⟩ 0 rfl rfl rfl rfl (Nat.le_of_ble_eq_true rfl) ⟨Nat.le_of_ble_eq_true rfl, Nat.le_of_ble_eq_true rfl⟩ dL_law_871 (fun v ty' w' hp hk' => ?_)
  obtain ⟨I8, A8, L8, d8, a8, h8, v7, l8, e8, rfl, rfl⟩ := hp
  show GW κ 4 82 21282 (wX q d I4 A4 ++ wM r g I8 A8 L8) 874 [(3, .int i), (2, .ref (r 0)), (1, .ref (q 0)), (0, .ref b)] [.int v7]
  refine g_pop hk dL_law_874 rfl ?_
  refine g_goto (tgt := 1465) hk dL_law_875 (by decide) ?_
  exact tail I4 A4 I8 A8 L8 h4 h8 ⟨⟨(RT.keep hS.1.1 (d4 0 rfl) (a4 0 rfl) (d8 1 rfl) (a8 0 rfl) l8), (((d4 12 rfl).trans hS.1.2.1).trans (d8 10 rfl).symm), (((d4 13 rfl).trans hS.1.2.2).trans (d8 14 rfl).symm)⟩, (hS.2.1.keep (d4 17 rfl) (d4 18 rfl) (d4 20 rfl) (d4 21 rfl) (a4 7 rfl) (a4 10 rfl) (a4 11 rfl) (a4 12 rfl) (a4 13 rfl) (d8 22 rfl) (a8 17 rfl) (a8 22 rfl)), (hS.2.2.1.keep (d4 19 rfl) (a4 8 rfl) (a4 9 rfl) (d8 15 rfl) (a8 10 rfl) (a8 11 rfl) (a8 12 rfl)), (hS.2.2.2.keep (d4 22 rfl) (d4 23 rfl) (d4 24 rfl) (d4 25 rfl) (d4 26 rfl) (d4 27 rfl) (a4 15 rfl) (a4 16 rfl) (a4 17 rfl) (a4 18 rfl) (a4 19 rfl) (a4 20 rfl) (a8 27 rfl) (a8 28 rfl))⟩
set_option maxHeartbeats 4000000 in
set_option maxRecDepth 100000 in
theorem law_22 {κ : Cx} {l : Launch} {D : va_G} {zt : Nat × Nat × Nat × (Nat → Nat) × (Nat → Nat)} {q r : Nat → Nat} {d g : Nat → ClassId} {b L : Nat} {xs : Nat → Int32} (hk : GC κ l D zt code 4 RL lw_tbl (tyX d ++ tyM g) room_1) (hX : GX κ b L xs) (i : Int32) (h0 : 0 ≤ i.toInt) (h6 : i.toInt + 6 ≤ (L : Int)) (hL : L ≤ 3072) (I : Nat → Int32) (A : Nat → Nat → Int32) (J : Nat → Int32) (B : Nat → Nat → Int32) (M : Nat → Nat → Int64) (hI : IvX I A) (hJ : IvM J B) (hS : RA I A J B M) (tail : ∀ (I : Nat → Int32) (A : Nat → Nat → Int32) (J : Nat → Int32) (B : Nat → Nat → Int32) (M : Nat → Nat → Int64), IvX I A → IvM J B → RA I A J B M → GW κ 4 82 21282 (wX q d I A ++ wM r g J B M) 1465 [(3, .int i), (2, .ref (r 0)), (1, .ref (q 0)), (0, .ref b)] []) : GW κ 4 82 21282 (wX q d I A ++ wM r g J B M) 878 [(3, .int i), (2, .ref (r 0)), (1, .ref (q 0)), (0, .ref b)] [] := by
  refine g_aload_n hk dL_law_878 rfl ?_
  refine g_aload_n hk dL_law_879 rfl ?_
  refine g_iload_n hk dL_law_880 rfl ?_
  refine g_iconst (v := 1) hk dL_law_881 (by decide) ?_
  refine g_iadd hk dL_law_882 ?_
  refine g_topi (fun y1 ey1 => ?_)
  have hy1 : y1.toInt = i.toInt + 1 := i32_add ey1 rfl (by decide) (by omega) (by omega)
  refine g_sld (v := xs y1.toNatClampNeg) hk hX (vp_in_iff.mpr ⟨by omega, by omega⟩) rfl dL_law_883 ?_
  refine g_aload_n hk dL_law_884 rfl ?_
  refine g_iload_n hk dL_law_885 rfl ?_
  refine g_iconst (v := 2) hk dL_law_886 (by decide) ?_
  refine g_iadd hk dL_law_887 ?_
  refine g_topi (fun y2 ey2 => ?_)
  have hy2 : y2.toInt = i.toInt + 2 := i32_add ey2 rfl (by decide) (by omega) (by omega)
  refine g_sld (v := xs y2.toNatClampNeg) hk hX (vp_in_iff.mpr ⟨by omega, by omega⟩) rfl dL_law_888 ?_
  refine g_aload_n hk dL_law_889 rfl ?_
  refine g_iload_n hk dL_law_890 rfl ?_
  refine g_iconst (v := 3) hk dL_law_891 (by decide) ?_
  refine g_iadd hk dL_law_892 ?_
  refine g_topi (fun y3 ey3 => ?_)
  have hy3 : y3.toInt = i.toInt + 3 := i32_add ey3 rfl (by decide) (by omega) (by omega)
  refine g_sld (v := xs y3.toNatClampNeg) hk hX (vp_in_iff.mpr ⟨by omega, by omega⟩) rfl dL_law_893 ?_
  refine g_callV (n := 3) hk (k248_X11_way l D zt q d I A (xs y1.toNatClampNeg) (xs y2.toNatClampNeg) (xs y3.toNatClampNeg) hI) (SP.pre _ _) (fun q h => List.mem_append_left _ h) (gi_V zw_1050 zw_1051 zw_1052 zw_103 (gi_sub zi_k248_X11_way zg_k248_X11_way)) rfl rfl rfl (by decide +kernel) ⟨Nat.le_of_ble_eq_true rfl, Nat.le_of_ble_eq_true rfl⟩ 0 rfl rfl rfl rfl (Nat.le_of_ble_eq_true rfl) ⟨Nat.le_of_ble_eq_true rfl, Nat.le_of_ble_eq_true rfl⟩ dL_law_894 (fun v ty' w' hp hk' => ?_)
  obtain ⟨I5, A5, d5, a5, h5, v4, e5, rfl, rfl⟩ := hp
  show GW κ 4 82 21282 (wM r g J B M ++ wX q d I5 A5) 897 [(3, .int i), (2, .ref (r 0)), (1, .ref (q 0)), (0, .ref b)] [.int v4]
  refine g_pop hk dL_law_897 rfl ?_
  refine g_aload_n hk dL_law_898 rfl ?_
  refine g_aload_n hk dL_law_899 rfl ?_
  refine g_iload_n hk dL_law_900 rfl ?_
  refine g_iconst (v := 1) hk dL_law_901 (by decide) ?_
  refine g_iadd hk dL_law_902 ?_
  refine g_topi (fun y6 ey6 => ?_)
  have qy6 : y6 = y1 := ey6.trans ey1.symm
  subst qy6
  refine g_sld (v := xs y6.toNatClampNeg) hk hX (vp_in_iff.mpr ⟨by omega, by omega⟩) rfl dL_law_903 ?_
  refine g_aload_n hk dL_law_904 rfl ?_
  refine g_iload_n hk dL_law_905 rfl ?_
  refine g_iconst (v := 2) hk dL_law_906 (by decide) ?_
  refine g_iadd hk dL_law_907 ?_
  refine g_topi (fun y7 ey7 => ?_)
  have qy7 : y7 = y2 := ey7.trans ey2.symm
  subst qy7
  refine g_sld (v := xs y7.toNatClampNeg) hk hX (vp_in_iff.mpr ⟨by omega, by omega⟩) rfl dL_law_908 ?_
  refine g_aload_n hk dL_law_909 rfl ?_
  refine g_iload_n hk dL_law_910 rfl ?_
  refine g_iconst (v := 3) hk dL_law_911 (by decide) ?_
  refine g_iadd hk dL_law_912 ?_
  refine g_topi (fun y8 ey8 => ?_)
  have qy8 : y8 = y3 := ey8.trans ey3.symm
  subst qy8
  refine g_sld (v := xs y8.toNatClampNeg) hk hX (vp_in_iff.mpr ⟨by omega, by omega⟩) rfl dL_law_913 ?_
  refine g_callV (n := 3) hk (j194_X12_way l D zt r g J B M (xs y6.toNatClampNeg) (xs y7.toNatClampNeg) (xs y8.toNatClampNeg) hJ) (SP.pre _ _) (fun q h => List.mem_append_right _ h) (gi_V zw_1828 zw_1829 zw_1830 zw_115 (gi_sub zi_j194_X12_way zg_j194_X12_way)) rfl rfl rfl (by decide +kernel) ⟨Nat.le_of_ble_eq_true rfl, Nat.le_of_ble_eq_true rfl⟩ 0 rfl rfl rfl rfl (Nat.le_of_ble_eq_true rfl) ⟨Nat.le_of_ble_eq_true rfl, Nat.le_of_ble_eq_true rfl⟩ dL_law_914 (fun v ty' w' hp hk' => ?_)
  obtain ⟨I10, A10, L10, d10, a10, h10, v9, l10, e10, rfl, rfl⟩ := hp
  show GW κ 4 82 21282 (wX q d I5 A5 ++ wM r g I10 A10 L10) 917 [(3, .int i), (2, .ref (r 0)), (1, .ref (q 0)), (0, .ref b)] [.int v9]
  refine g_pop hk dL_law_917 rfl ?_
  refine g_goto (tgt := 1465) hk dL_law_918 (by decide) ?_
  exact tail I5 A5 I10 A10 L10 h5 h10 ⟨⟨(RT.keep hS.1.1 (d5 0 rfl) (a5 0 rfl) (d10 1 rfl) (a10 0 rfl) l10), (((d5 12 rfl).trans hS.1.2.1).trans (d10 10 rfl).symm), (((d5 13 rfl).trans hS.1.2.2).trans (d10 14 rfl).symm)⟩, (hS.2.1.keep (d5 17 rfl) (d5 18 rfl) (d5 20 rfl) (d5 21 rfl) (a5 7 rfl) (a5 10 rfl) (a5 11 rfl) (a5 12 rfl) (a5 13 rfl) (d10 22 rfl) (a10 17 rfl) (a10 22 rfl)), (hS.2.2.1.keep (d5 19 rfl) (a5 8 rfl) (a5 9 rfl) (d10 15 rfl) (a10 10 rfl) (a10 11 rfl) (a10 12 rfl)), (hS.2.2.2.keep (d5 22 rfl) (d5 23 rfl) (d5 24 rfl) (d5 25 rfl) (d5 26 rfl) (d5 27 rfl) (a5 15 rfl) (a5 16 rfl) (a5 17 rfl) (a5 18 rfl) (a5 19 rfl) (a5 20 rfl) (a10 27 rfl) (a10 28 rfl))⟩
set_option maxHeartbeats 4000000 in
set_option maxRecDepth 100000 in
theorem law_23 {κ : Cx} {l : Launch} {D : va_G} {zt : Nat × Nat × Nat × (Nat → Nat) × (Nat → Nat)} {q r : Nat → Nat} {d g : Nat → ClassId} {b L : Nat} {xs : Nat → Int32} (hk : GC κ l D zt code 4 RL lw_tbl (tyX d ++ tyM g) room_1) (hX : GX κ b L xs) (i : Int32) (h0 : 0 ≤ i.toInt) (h6 : i.toInt + 6 ≤ (L : Int)) (hL : L ≤ 3072) (I : Nat → Int32) (A : Nat → Nat → Int32) (J : Nat → Int32) (B : Nat → Nat → Int32) (M : Nat → Nat → Int64) (hI : IvX I A) (hJ : IvM J B) (hS : RA I A J B M) (tail : ∀ (I : Nat → Int32) (A : Nat → Nat → Int32) (J : Nat → Int32) (B : Nat → Nat → Int32) (M : Nat → Nat → Int64), IvX I A → IvM J B → RA I A J B M → GW κ 4 82 21282 (wX q d I A ++ wM r g J B M) 1465 [(3, .int i), (2, .ref (r 0)), (1, .ref (q 0)), (0, .ref b)] []) : GW κ 4 82 21282 (wX q d I A ++ wM r g J B M) 921 [(3, .int i), (2, .ref (r 0)), (1, .ref (q 0)), (0, .ref b)] [] := by
  refine g_aload_n hk dL_law_921 rfl ?_
  refine g_aload_n hk dL_law_922 rfl ?_
  refine g_iload_n hk dL_law_923 rfl ?_
  refine g_iconst (v := 1) hk dL_law_924 (by decide) ?_
  refine g_iadd hk dL_law_925 ?_
  refine g_topi (fun y1 ey1 => ?_)
  have hy1 : y1.toInt = i.toInt + 1 := i32_add ey1 rfl (by decide) (by omega) (by omega)
  refine g_sld (v := xs y1.toNatClampNeg) hk hX (vp_in_iff.mpr ⟨by omega, by omega⟩) rfl dL_law_926 ?_
  refine g_aload_n hk dL_law_927 rfl ?_
  refine g_iload_n hk dL_law_928 rfl ?_
  refine g_iconst (v := 2) hk dL_law_929 (by decide) ?_
  refine g_iadd hk dL_law_930 ?_
  refine g_topi (fun y2 ey2 => ?_)
  have hy2 : y2.toInt = i.toInt + 2 := i32_add ey2 rfl (by decide) (by omega) (by omega)
  refine g_sld (v := xs y2.toNatClampNeg) hk hX (vp_in_iff.mpr ⟨by omega, by omega⟩) rfl dL_law_931 ?_
  refine g_callV (n := 2) hk (k280_X11_needs l D zt q d I A (xs y1.toNatClampNeg) (xs y2.toNatClampNeg) hI) (SP.pre _ _) (fun q h => List.mem_append_left _ h) (gi_V zw_1194 zw_1195 zw_1196 zw_103 (gi_sub zi_k280_X11_needs zg_k280_X11_needs)) rfl rfl rfl (by decide +kernel) ⟨Nat.le_of_ble_eq_true rfl, Nat.le_of_ble_eq_true rfl⟩ 0 rfl rfl rfl rfl (Nat.le_of_ble_eq_true rfl) ⟨Nat.le_of_ble_eq_true rfl, Nat.le_of_ble_eq_true rfl⟩ dL_law_932 (fun v ty' w' hp hk' => ?_)
  obtain ⟨I4, A4, d4, a4, h4, v3, c5, c6, e4, rfl, rfl⟩ := hp
  show GW κ 4 82 21282 (wM r g J B M ++ wX q d I4 A4) 935 [(3, .int i), (2, .ref (r 0)), (1, .ref (q 0)), (0, .ref b)] [.int v3]
  refine g_pop hk dL_law_935 rfl ?_
  refine g_aload_n hk dL_law_936 rfl ?_
  refine g_aload_n hk dL_law_937 rfl ?_
  refine g_iload_n hk dL_law_938 rfl ?_
  refine g_iconst (v := 1) hk dL_law_939 (by decide) ?_
  refine g_iadd hk dL_law_940 ?_
  refine g_topi (fun y7 ey7 => ?_)
  have qy7 : y7 = y1 := ey7.trans ey1.symm
  subst qy7
  refine g_sld (v := xs y7.toNatClampNeg) hk hX (vp_in_iff.mpr ⟨by omega, by omega⟩) rfl dL_law_941 ?_
  refine g_aload_n hk dL_law_942 rfl ?_
  refine g_iload_n hk dL_law_943 rfl ?_
  refine g_iconst (v := 2) hk dL_law_944 (by decide) ?_
  refine g_iadd hk dL_law_945 ?_
  refine g_topi (fun y8 ey8 => ?_)
  have qy8 : y8 = y2 := ey8.trans ey2.symm
  subst qy8
  refine g_sld (v := xs y8.toNatClampNeg) hk hX (vp_in_iff.mpr ⟨by omega, by omega⟩) rfl dL_law_946 ?_
  refine g_callV (n := 2) hk (j196_X12_needs l D zt r g J B M (xs y7.toNatClampNeg) (xs y8.toNatClampNeg) hJ) (SP.pre _ _) (fun q h => List.mem_append_right _ h) (gi_V zw_1852 zw_1853 zw_1854 zw_115 (gi_sub zi_j196_X12_needs zg_j196_X12_needs)) rfl rfl rfl (by decide +kernel) ⟨Nat.le_of_ble_eq_true rfl, Nat.le_of_ble_eq_true rfl⟩ 0 rfl rfl rfl rfl (Nat.le_of_ble_eq_true rfl) ⟨Nat.le_of_ble_eq_true rfl, Nat.le_of_ble_eq_true rfl⟩ dL_law_947 (fun v ty' w' hp hk' => ?_)
  obtain ⟨I10, A10, L10, d10, a10, h10, v9, l10, c11, c12, e10, rfl, rfl⟩ := hp
  show GW κ 4 82 21282 (wX q d I4 A4 ++ wM r g I10 A10 L10) 950 [(3, .int i), (2, .ref (r 0)), (1, .ref (q 0)), (0, .ref b)] [.int v9]
  refine g_pop hk dL_law_950 rfl ?_
  refine g_goto (tgt := 1465) hk dL_law_951 (by decide) ?_
  exact tail I4 A4 I10 A10 L10 h4 h10 ⟨⟨(RT.keep hS.1.1 (d4 0 rfl) (a4 0 rfl) (d10 1 rfl) (a10 0 rfl) l10), (((d4 12 rfl).trans hS.1.2.1).trans (d10 10 rfl).symm), (((d4 13 rfl).trans hS.1.2.2).trans (d10 14 rfl).symm)⟩, (hS.2.1.keep (d4 17 rfl) (d4 18 rfl) (d4 20 rfl) (d4 21 rfl) (a4 7 rfl) (a4 10 rfl) (a4 11 rfl) (a4 12 rfl) (a4 13 rfl) (d10 22 rfl) (needs_17 e10 h10) (a10 22 rfl)), (hS.2.2.1.keep (d4 19 rfl) (a4 8 rfl) (a4 9 rfl) (d10 15 rfl) (a10 10 rfl) (a10 11 rfl) (a10 12 rfl)), (hS.2.2.2.keep (d4 22 rfl) (d4 23 rfl) (d4 24 rfl) (d4 25 rfl) (d4 26 rfl) (d4 27 rfl) (a4 15 rfl) (a4 16 rfl) (a4 17 rfl) (a4 18 rfl) (a4 19 rfl) (a4 20 rfl) (a10 27 rfl) (a10 28 rfl))⟩
set_option maxHeartbeats 4000000 in
set_option maxRecDepth 100000 in
theorem law_24 {κ : Cx} {l : Launch} {D : va_G} {zt : Nat × Nat × Nat × (Nat → Nat) × (Nat → Nat)} {q r : Nat → Nat} {d g : Nat → ClassId} {b L : Nat} {xs : Nat → Int32} (hk : GC κ l D zt code 4 RL lw_tbl (tyX d ++ tyM g) room_1) (hX : GX κ b L xs) (i : Int32) (h0 : 0 ≤ i.toInt) (h6 : i.toInt + 6 ≤ (L : Int)) (hL : L ≤ 3072) (I : Nat → Int32) (A : Nat → Nat → Int32) (J : Nat → Int32) (B : Nat → Nat → Int32) (M : Nat → Nat → Int64) (hI : IvX I A) (hJ : IvM J B) (hS : RA I A J B M) (tail : ∀ (I : Nat → Int32) (A : Nat → Nat → Int32) (J : Nat → Int32) (B : Nat → Nat → Int32) (M : Nat → Nat → Int64), IvX I A → IvM J B → RA I A J B M → GW κ 4 82 21282 (wX q d I A ++ wM r g J B M) 1465 [(3, .int i), (2, .ref (r 0)), (1, .ref (q 0)), (0, .ref b)] []) : GW κ 4 82 21282 (wX q d I A ++ wM r g J B M) 954 [(3, .int i), (2, .ref (r 0)), (1, .ref (q 0)), (0, .ref b)] [] := by
  refine g_aload_n hk dL_law_954 rfl ?_
  refine g_aload_n hk dL_law_955 rfl ?_
  refine g_iload_n hk dL_law_956 rfl ?_
  refine g_iconst (v := 1) hk dL_law_957 (by decide) ?_
  refine g_iadd hk dL_law_958 ?_
  refine g_topi (fun y1 ey1 => ?_)
  have hy1 : y1.toInt = i.toInt + 1 := i32_add ey1 rfl (by decide) (by omega) (by omega)
  refine g_sld (v := xs y1.toNatClampNeg) hk hX (vp_in_iff.mpr ⟨by omega, by omega⟩) rfl dL_law_959 ?_
  refine g_aload_n hk dL_law_960 rfl ?_
  refine g_iload_n hk dL_law_961 rfl ?_
  refine g_iconst (v := 2) hk dL_law_962 (by decide) ?_
  refine g_iadd hk dL_law_963 ?_
  refine g_topi (fun y2 ey2 => ?_)
  have hy2 : y2.toInt = i.toInt + 2 := i32_add ey2 rfl (by decide) (by omega) (by omega)
  refine g_sld (v := xs y2.toNatClampNeg) hk hX (vp_in_iff.mpr ⟨by omega, by omega⟩) rfl dL_law_964 ?_
  refine g_callV (n := 2) hk (k255_X11_alike l D zt q d I A (xs y1.toNatClampNeg) (xs y2.toNatClampNeg) hI) (SP.pre _ _) (fun q h => List.mem_append_left _ h) (gi_V zw_1082 zw_1083 zw_1084 zw_103 (gi_sub zi_k255_X11_alike zg_k255_X11_alike)) rfl rfl rfl (by decide +kernel) ⟨Nat.le_of_ble_eq_true rfl, Nat.le_of_ble_eq_true rfl⟩ 0 rfl rfl rfl rfl (Nat.le_of_ble_eq_true rfl) ⟨Nat.le_of_ble_eq_true rfl, Nat.le_of_ble_eq_true rfl⟩ dL_law_965 (fun v ty' w' hp hk' => ?_)
  obtain ⟨I4, A4, d4, a4, h4, v3, e4, rfl, rfl⟩ := hp
  show GW κ 4 82 21282 (wM r g J B M ++ wX q d I4 A4) 968 [(3, .int i), (2, .ref (r 0)), (1, .ref (q 0)), (0, .ref b)] [.int v3]
  refine g_pop hk dL_law_968 rfl ?_
  refine g_aload_n hk dL_law_969 rfl ?_
  refine g_aload_n hk dL_law_970 rfl ?_
  refine g_iload_n hk dL_law_971 rfl ?_
  refine g_iconst (v := 1) hk dL_law_972 (by decide) ?_
  refine g_iadd hk dL_law_973 ?_
  refine g_topi (fun y5 ey5 => ?_)
  have qy5 : y5 = y1 := ey5.trans ey1.symm
  subst qy5
  refine g_sld (v := xs y5.toNatClampNeg) hk hX (vp_in_iff.mpr ⟨by omega, by omega⟩) rfl dL_law_974 ?_
  refine g_aload_n hk dL_law_975 rfl ?_
  refine g_iload_n hk dL_law_976 rfl ?_
  refine g_iconst (v := 2) hk dL_law_977 (by decide) ?_
  refine g_iadd hk dL_law_978 ?_
  refine g_topi (fun y6 ey6 => ?_)
  have qy6 : y6 = y2 := ey6.trans ey2.symm
  subst qy6
  refine g_sld (v := xs y6.toNatClampNeg) hk hX (vp_in_iff.mpr ⟨by omega, by omega⟩) rfl dL_law_979 ?_
  refine g_callV (n := 2) hk (j197_X12_alike l D zt r g J B M (xs y5.toNatClampNeg) (xs y6.toNatClampNeg) hJ) (SP.pre _ _) (fun q h => List.mem_append_right _ h) (gi_V zw_1824 zw_1825 zw_1826 zw_115 (gi_sub zi_j197_X12_alike zg_j197_X12_alike)) rfl rfl rfl (by decide +kernel) ⟨Nat.le_of_ble_eq_true rfl, Nat.le_of_ble_eq_true rfl⟩ 0 rfl rfl rfl rfl (Nat.le_of_ble_eq_true rfl) ⟨Nat.le_of_ble_eq_true rfl, Nat.le_of_ble_eq_true rfl⟩ dL_law_980 (fun v ty' w' hp hk' => ?_)
  obtain ⟨I8, A8, L8, d8, a8, h8, v7, l8, e8, rfl, rfl⟩ := hp
  show GW κ 4 82 21282 (wX q d I4 A4 ++ wM r g I8 A8 L8) 983 [(3, .int i), (2, .ref (r 0)), (1, .ref (q 0)), (0, .ref b)] [.int v7]
  refine g_pop hk dL_law_983 rfl ?_
  refine g_goto (tgt := 1465) hk dL_law_984 (by decide) ?_
  exact tail I4 A4 I8 A8 L8 h4 h8 ⟨⟨(RT.keep hS.1.1 (d4 0 rfl) (a4 0 rfl) (d8 1 rfl) (a8 0 rfl) l8), (((d4 12 rfl).trans hS.1.2.1).trans (d8 10 rfl).symm), (((d4 13 rfl).trans hS.1.2.2).trans (d8 14 rfl).symm)⟩, (hS.2.1.keep (d4 17 rfl) (d4 18 rfl) (d4 20 rfl) (d4 21 rfl) (a4 7 rfl) (a4 10 rfl) (a4 11 rfl) (a4 12 rfl) (a4 13 rfl) (d8 22 rfl) (a8 17 rfl) (a8 22 rfl)), (hS.2.2.1.keep (d4 19 rfl) (a4 8 rfl) (a4 9 rfl) (d8 15 rfl) (a8 10 rfl) (a8 11 rfl) (a8 12 rfl)), (hS.2.2.2.keep (d4 22 rfl) (d4 23 rfl) (d4 24 rfl) (d4 25 rfl) (d4 26 rfl) (d4 27 rfl) (a4 15 rfl) (a4 16 rfl) (a4 17 rfl) (a4 18 rfl) (a4 19 rfl) (a4 20 rfl) (a8 27 rfl) (a8 28 rfl))⟩
set_option maxHeartbeats 4000000 in
set_option maxRecDepth 100000 in
theorem law_25 {κ : Cx} {l : Launch} {D : va_G} {zt : Nat × Nat × Nat × (Nat → Nat) × (Nat → Nat)} {q r : Nat → Nat} {d g : Nat → ClassId} {b L : Nat} {xs : Nat → Int32} (hk : GC κ l D zt code 4 RL lw_tbl (tyX d ++ tyM g) room_1) (hX : GX κ b L xs) (i : Int32) (h0 : 0 ≤ i.toInt) (h6 : i.toInt + 6 ≤ (L : Int)) (hL : L ≤ 3072) (I : Nat → Int32) (A : Nat → Nat → Int32) (J : Nat → Int32) (B : Nat → Nat → Int32) (M : Nat → Nat → Int64) (hI : IvX I A) (hJ : IvM J B) (hS : RA I A J B M) (tail : ∀ (I : Nat → Int32) (A : Nat → Nat → Int32) (J : Nat → Int32) (B : Nat → Nat → Int32) (M : Nat → Nat → Int64), IvX I A → IvM J B → RA I A J B M → GW κ 4 82 21282 (wX q d I A ++ wM r g J B M) 1465 [(3, .int i), (2, .ref (r 0)), (1, .ref (q 0)), (0, .ref b)] []) : GW κ 4 82 21282 (wX q d I A ++ wM r g J B M) 987 [(3, .int i), (2, .ref (r 0)), (1, .ref (q 0)), (0, .ref b)] [] := by
  refine g_aload_n hk dL_law_987 rfl ?_
  refine g_aload_n hk dL_law_988 rfl ?_
  refine g_iload_n hk dL_law_989 rfl ?_
  refine g_iconst (v := 1) hk dL_law_990 (by decide) ?_
  refine g_iadd hk dL_law_991 ?_
  refine g_topi (fun y1 ey1 => ?_)
  have hy1 : y1.toInt = i.toInt + 1 := i32_add ey1 rfl (by decide) (by omega) (by omega)
  refine g_sld (v := xs y1.toNatClampNeg) hk hX (vp_in_iff.mpr ⟨by omega, by omega⟩) rfl dL_law_992 ?_
  refine g_aload_n hk dL_law_993 rfl ?_
  refine g_iload_n hk dL_law_994 rfl ?_
  refine g_iconst (v := 2) hk dL_law_995 (by decide) ?_
  refine g_iadd hk dL_law_996 ?_
  refine g_topi (fun y2 ey2 => ?_)
  have hy2 : y2.toInt = i.toInt + 2 := i32_add ey2 rfl (by decide) (by omega) (by omega)
  refine g_sld (v := xs y2.toNatClampNeg) hk hX (vp_in_iff.mpr ⟨by omega, by omega⟩) rfl dL_law_997 ?_
  refine g_aload_n hk dL_law_998 rfl ?_
  refine g_iload_n hk dL_law_999 rfl ?_
  refine g_iconst (v := 3) hk dL_law_1000 (by decide) ?_
  refine g_iadd hk dL_law_1001 ?_
  refine g_topi (fun y3 ey3 => ?_)
  have hy3 : y3.toInt = i.toInt + 3 := i32_add ey3 rfl (by decide) (by omega) (by omega)
  refine g_sld (v := xs y3.toNatClampNeg) hk hX (vp_in_iff.mpr ⟨by omega, by omega⟩) rfl dL_law_1002 ?_
  refine g_callV (n := 3) hk (k291_X11_near l D zt q d I A (xs y1.toNatClampNeg) (xs y2.toNatClampNeg) (xs y3.toNatClampNeg) hI) (SP.pre _ _) (fun q h => List.mem_append_left _ h) (gi_V zw_1247 zw_1248 zw_1249 zw_103 (gi_sub zi_k291_X11_near zg_k291_X11_near)) rfl rfl rfl (by decide +kernel) ⟨Nat.le_of_ble_eq_true rfl, Nat.le_of_ble_eq_true rfl⟩ 0 rfl rfl rfl rfl (Nat.le_of_ble_eq_true rfl) ⟨Nat.le_of_ble_eq_true rfl, Nat.le_of_ble_eq_true rfl⟩ dL_law_1003 (fun v ty' w' hp hk' => ?_)
  obtain ⟨I5, A5, d5, a5, h5, v4, e5, rfl, rfl⟩ := hp
  show GW κ 4 82 21282 (wM r g J B M ++ wX q d I5 A5) 1006 [(3, .int i), (2, .ref (r 0)), (1, .ref (q 0)), (0, .ref b)] [.int v4]
  refine g_pop hk dL_law_1006 rfl ?_
  refine g_aload_n hk dL_law_1007 rfl ?_
  refine g_aload_n hk dL_law_1008 rfl ?_
  refine g_iload_n hk dL_law_1009 rfl ?_
  refine g_iconst (v := 1) hk dL_law_1010 (by decide) ?_
  refine g_iadd hk dL_law_1011 ?_
  refine g_topi (fun y6 ey6 => ?_)
  have qy6 : y6 = y1 := ey6.trans ey1.symm
  subst qy6
  refine g_sld (v := xs y6.toNatClampNeg) hk hX (vp_in_iff.mpr ⟨by omega, by omega⟩) rfl dL_law_1012 ?_
  refine g_aload_n hk dL_law_1013 rfl ?_
  refine g_iload_n hk dL_law_1014 rfl ?_
  refine g_iconst (v := 2) hk dL_law_1015 (by decide) ?_
  refine g_iadd hk dL_law_1016 ?_
  refine g_topi (fun y7 ey7 => ?_)
  have qy7 : y7 = y2 := ey7.trans ey2.symm
  subst qy7
  refine g_sld (v := xs y7.toNatClampNeg) hk hX (vp_in_iff.mpr ⟨by omega, by omega⟩) rfl dL_law_1017 ?_
  refine g_aload_n hk dL_law_1018 rfl ?_
  refine g_iload_n hk dL_law_1019 rfl ?_
  refine g_iconst (v := 3) hk dL_law_1020 (by decide) ?_
  refine g_iadd hk dL_law_1021 ?_
  refine g_topi (fun y8 ey8 => ?_)
  have qy8 : y8 = y3 := ey8.trans ey3.symm
  subst qy8
  refine g_sld (v := xs y8.toNatClampNeg) hk hX (vp_in_iff.mpr ⟨by omega, by omega⟩) rfl dL_law_1022 ?_
  refine g_callV (n := 3) hk (j198_X12_near l D zt r g J B M (xs y6.toNatClampNeg) (xs y7.toNatClampNeg) (xs y8.toNatClampNeg) hJ) (SP.pre _ _) (fun q h => List.mem_append_right _ h) (gi_V zw_1915 zw_1916 zw_1917 zw_115 (gi_sub zi_j198_X12_near zg_j198_X12_near)) rfl rfl rfl (by decide +kernel) ⟨Nat.le_of_ble_eq_true rfl, Nat.le_of_ble_eq_true rfl⟩ 0 rfl rfl rfl rfl (Nat.le_of_ble_eq_true rfl) ⟨Nat.le_of_ble_eq_true rfl, Nat.le_of_ble_eq_true rfl⟩ dL_law_1023 (fun v ty' w' hp hk' => ?_)
  obtain ⟨I10, A10, L10, d10, a10, h10, v9, l10, e10, rfl, rfl⟩ := hp
  show GW κ 4 82 21282 (wX q d I5 A5 ++ wM r g I10 A10 L10) 1026 [(3, .int i), (2, .ref (r 0)), (1, .ref (q 0)), (0, .ref b)] [.int v9]
  refine g_pop hk dL_law_1026 rfl ?_
  refine g_goto (tgt := 1465) hk dL_law_1027 (by decide) ?_
  exact tail I5 A5 I10 A10 L10 h5 h10 ⟨⟨(RT.keep hS.1.1 (d5 0 rfl) (a5 0 rfl) (d10 1 rfl) (a10 0 rfl) l10), (((d5 12 rfl).trans hS.1.2.1).trans (d10 10 rfl).symm), (((d5 13 rfl).trans hS.1.2.2).trans (d10 14 rfl).symm)⟩, (hS.2.1.keep (d5 17 rfl) (d5 18 rfl) (d5 20 rfl) (d5 21 rfl) (a5 7 rfl) (a5 10 rfl) (a5 11 rfl) (a5 12 rfl) (a5 13 rfl) (d10 22 rfl) (a10 17 rfl) (a10 22 rfl)), (hS.2.2.1.keep (d5 19 rfl) (a5 8 rfl) (a5 9 rfl) (d10 15 rfl) (a10 10 rfl) (a10 11 rfl) (a10 12 rfl)), (hS.2.2.2.keep (d5 22 rfl) (d5 23 rfl) (d5 24 rfl) (d5 25 rfl) (d5 26 rfl) (d5 27 rfl) (a5 15 rfl) (a5 16 rfl) (a5 17 rfl) (a5 18 rfl) (a5 19 rfl) (a5 20 rfl) (a10 27 rfl) (a10 28 rfl))⟩
set_option maxHeartbeats 4000000 in
set_option maxRecDepth 100000 in
theorem law_26 {κ : Cx} {l : Launch} {D : va_G} {zt : Nat × Nat × Nat × (Nat → Nat) × (Nat → Nat)} {q r : Nat → Nat} {d g : Nat → ClassId} {b L : Nat} {xs : Nat → Int32} (hk : GC κ l D zt code 4 RL lw_tbl (tyX d ++ tyM g) room_1) (hX : GX κ b L xs) (i : Int32) (h0 : 0 ≤ i.toInt) (h6 : i.toInt + 6 ≤ (L : Int)) (hL : L ≤ 3072) (I : Nat → Int32) (A : Nat → Nat → Int32) (J : Nat → Int32) (B : Nat → Nat → Int32) (M : Nat → Nat → Int64) (hI : IvX I A) (hJ : IvM J B) (hS : RA I A J B M) (tail : ∀ (I : Nat → Int32) (A : Nat → Nat → Int32) (J : Nat → Int32) (B : Nat → Nat → Int32) (M : Nat → Nat → Int64), IvX I A → IvM J B → RA I A J B M → GW κ 4 82 21282 (wX q d I A ++ wM r g J B M) 1465 [(3, .int i), (2, .ref (r 0)), (1, .ref (q 0)), (0, .ref b)] []) : GW κ 4 82 21282 (wX q d I A ++ wM r g J B M) 1030 [(3, .int i), (2, .ref (r 0)), (1, .ref (q 0)), (0, .ref b)] [] := by
  refine g_aload_n hk dL_law_1030 rfl ?_
  refine g_aload_n hk dL_law_1031 rfl ?_
  refine g_iload_n hk dL_law_1032 rfl ?_
  refine g_iconst (v := 1) hk dL_law_1033 (by decide) ?_
  refine g_iadd hk dL_law_1034 ?_
  refine g_topi (fun y1 ey1 => ?_)
  have hy1 : y1.toInt = i.toInt + 1 := i32_add ey1 rfl (by decide) (by omega) (by omega)
  refine g_sld (v := xs y1.toNatClampNeg) hk hX (vp_in_iff.mpr ⟨by omega, by omega⟩) rfl dL_law_1035 ?_
  refine g_aload_n hk dL_law_1036 rfl ?_
  refine g_iload_n hk dL_law_1037 rfl ?_
  refine g_iconst (v := 2) hk dL_law_1038 (by decide) ?_
  refine g_iadd hk dL_law_1039 ?_
  refine g_topi (fun y2 ey2 => ?_)
  have hy2 : y2.toInt = i.toInt + 2 := i32_add ey2 rfl (by decide) (by omega) (by omega)
  refine g_sld (v := xs y2.toNatClampNeg) hk hX (vp_in_iff.mpr ⟨by omega, by omega⟩) rfl dL_law_1040 ?_
  refine g_callV (n := 2) hk (k301_X11_pair l D zt q d I A (xs y1.toNatClampNeg) (xs y2.toNatClampNeg) hI) (SP.pre _ _) (fun q h => List.mem_append_left _ h) (gi_V zw_1285 zw_1286 zw_1287 zw_103 (gi_sub zi_k301_X11_pair zg_k301_X11_pair)) rfl rfl rfl (by decide +kernel) ⟨Nat.le_of_ble_eq_true rfl, Nat.le_of_ble_eq_true rfl⟩ 0 rfl rfl rfl rfl (Nat.le_of_ble_eq_true rfl) ⟨Nat.le_of_ble_eq_true rfl, Nat.le_of_ble_eq_true rfl⟩ dL_law_1041 (fun v ty' w' hp hk' => ?_)
  obtain ⟨I4, A4, d4, a4, h4, v3, e4, rfl, rfl⟩ := hp
  show GW κ 4 82 21282 (wM r g J B M ++ wX q d I4 A4) 1044 [(3, .int i), (2, .ref (r 0)), (1, .ref (q 0)), (0, .ref b)] [.int v3]
  refine g_aload_n hk dL_law_1044 rfl ?_
  refine g_aload_n hk dL_law_1045 rfl ?_
  refine g_iload_n hk dL_law_1046 rfl ?_
  refine g_iconst (v := 1) hk dL_law_1047 (by decide) ?_
  refine g_iadd hk dL_law_1048 ?_
  refine g_topi (fun y5 ey5 => ?_)
  have qy5 : y5 = y1 := ey5.trans ey1.symm
  subst qy5
  refine g_sld (v := xs y5.toNatClampNeg) hk hX (vp_in_iff.mpr ⟨by omega, by omega⟩) rfl dL_law_1049 ?_
  refine g_aload_n hk dL_law_1050 rfl ?_
  refine g_iload_n hk dL_law_1051 rfl ?_
  refine g_iconst (v := 2) hk dL_law_1052 (by decide) ?_
  refine g_iadd hk dL_law_1053 ?_
  refine g_topi (fun y6 ey6 => ?_)
  have qy6 : y6 = y2 := ey6.trans ey2.symm
  subst qy6
  refine g_sld (v := xs y6.toNatClampNeg) hk hX (vp_in_iff.mpr ⟨by omega, by omega⟩) rfl dL_law_1054 ?_
  refine g_callV (n := 2) hk (j201_X12_pair l D zt r g J B M (xs y5.toNatClampNeg) (xs y6.toNatClampNeg) hJ) (SP.pre _ _) (fun q h => List.mem_append_right _ h) (gi_V zw_1927 zw_1928 zw_1929 zw_115 (gi_sub zi_j201_X12_pair zg_j201_X12_pair)) rfl rfl rfl (by decide +kernel) ⟨Nat.le_of_ble_eq_true rfl, Nat.le_of_ble_eq_true rfl⟩ 0 rfl rfl rfl rfl (Nat.le_of_ble_eq_true rfl) ⟨Nat.le_of_ble_eq_true rfl, Nat.le_of_ble_eq_true rfl⟩ dL_law_1055 (fun v ty' w' hp hk' => ?_)
  obtain ⟨I8, A8, L8, d8, a8, h8, v7, l8, e8, rfl, rfl⟩ := hp
  show GW κ 4 82 21282 (wX q d I4 A4 ++ wM r g I8 A8 L8) 1058 [(3, .int i), (2, .ref (r 0)), (1, .ref (q 0)), (0, .ref b)] [.int v7, .int v3]
  refine g_icmp_eq (tgt := 1465) (a := v3.toInt) (b := v7.toInt) hk dL_law_1058 (by decide) rfl rfl (fun _ => ?_) (fun z9 => absurd (show v3.toInt = v7.toInt from by rw [(ans_pair hS hI hJ e4 e8)]) z9)
  exact tail I4 A4 I8 A8 L8 h4 h8 ⟨⟨(RT.keep hS.1.1 (d4 0 rfl) (a4 0 rfl) (d8 1 rfl) (a8 0 rfl) l8), (((d4 12 rfl).trans hS.1.2.1).trans (d8 10 rfl).symm), (((d4 13 rfl).trans hS.1.2.2).trans (d8 14 rfl).symm)⟩, (hS.2.1.keep (d4 17 rfl) (d4 18 rfl) (d4 20 rfl) (d4 21 rfl) (a4 7 rfl) (a4 10 rfl) (a4 11 rfl) (a4 12 rfl) (a4 13 rfl) (d8 22 rfl) (a8 17 rfl) (a8 22 rfl)), (hS.2.2.1.keep (d4 19 rfl) (a4 8 rfl) (a4 9 rfl) (d8 15 rfl) (a8 10 rfl) (a8 11 rfl) (a8 12 rfl)), (hS.2.2.2.keep (d4 22 rfl) (d4 23 rfl) (d4 24 rfl) (d4 25 rfl) (d4 26 rfl) (d4 27 rfl) (a4 15 rfl) (a4 16 rfl) (a4 17 rfl) (a4 18 rfl) (a4 19 rfl) (a4 20 rfl) (a8 27 rfl) (a8 28 rfl))⟩
set_option maxHeartbeats 4000000 in
set_option maxRecDepth 100000 in
theorem law_27 {κ : Cx} {l : Launch} {D : va_G} {zt : Nat × Nat × Nat × (Nat → Nat) × (Nat → Nat)} {q r : Nat → Nat} {d g : Nat → ClassId} {b L : Nat} {xs : Nat → Int32} (hk : GC κ l D zt code 4 RL lw_tbl (tyX d ++ tyM g) room_1) (hX : GX κ b L xs) (i : Int32) (h0 : 0 ≤ i.toInt) (h6 : i.toInt + 6 ≤ (L : Int)) (hL : L ≤ 3072) (I : Nat → Int32) (A : Nat → Nat → Int32) (J : Nat → Int32) (B : Nat → Nat → Int32) (M : Nat → Nat → Int64) (hI : IvX I A) (hJ : IvM J B) (hS : RA I A J B M) (tail : ∀ (I : Nat → Int32) (A : Nat → Nat → Int32) (J : Nat → Int32) (B : Nat → Nat → Int32) (M : Nat → Nat → Int64), IvX I A → IvM J B → RA I A J B M → GW κ 4 82 21282 (wX q d I A ++ wM r g J B M) 1465 [(3, .int i), (2, .ref (r 0)), (1, .ref (q 0)), (0, .ref b)] []) : GW κ 4 82 21282 (wX q d I A ++ wM r g J B M) 1063 [(3, .int i), (2, .ref (r 0)), (1, .ref (q 0)), (0, .ref b)] [] := by
  refine g_aload_n hk dL_law_1063 rfl ?_
  refine g_aload_n hk dL_law_1064 rfl ?_
  refine g_iload_n hk dL_law_1065 rfl ?_
  refine g_iconst (v := 1) hk dL_law_1066 (by decide) ?_
  refine g_iadd hk dL_law_1067 ?_
  refine g_topi (fun y1 ey1 => ?_)
  have hy1 : y1.toInt = i.toInt + 1 := i32_add ey1 rfl (by decide) (by omega) (by omega)
  refine g_sld (v := xs y1.toNatClampNeg) hk hX (vp_in_iff.mpr ⟨by omega, by omega⟩) rfl dL_law_1068 ?_
  refine g_aload_n hk dL_law_1069 rfl ?_
  refine g_iload_n hk dL_law_1070 rfl ?_
  refine g_iconst (v := 2) hk dL_law_1071 (by decide) ?_
  refine g_iadd hk dL_law_1072 ?_
  refine g_topi (fun y2 ey2 => ?_)
  have hy2 : y2.toInt = i.toInt + 2 := i32_add ey2 rfl (by decide) (by omega) (by omega)
  refine g_sld (v := xs y2.toNatClampNeg) hk hX (vp_in_iff.mpr ⟨by omega, by omega⟩) rfl dL_law_1073 ?_
  refine g_callV (n := 2) hk (k304_X11_odd l D zt q d I A (xs y1.toNatClampNeg) (xs y2.toNatClampNeg) hI) (SP.pre _ _) (fun q h => List.mem_append_left _ h) (gi_V zw_1297 zw_1298 zw_1299 zw_103 (gi_sub zi_k304_X11_odd zg_k304_X11_odd)) rfl rfl rfl (by decide +kernel) ⟨Nat.le_of_ble_eq_true rfl, Nat.le_of_ble_eq_true rfl⟩ 0 rfl rfl rfl rfl (Nat.le_of_ble_eq_true rfl) ⟨Nat.le_of_ble_eq_true rfl, Nat.le_of_ble_eq_true rfl⟩ dL_law_1074 (fun v ty' w' hp hk' => ?_)
  obtain ⟨I4, A4, d4, a4, h4, v3, e4, rfl, rfl⟩ := hp
  show GW κ 4 82 21282 (wM r g J B M ++ wX q d I4 A4) 1077 [(3, .int i), (2, .ref (r 0)), (1, .ref (q 0)), (0, .ref b)] [.int v3]
  refine g_pop hk dL_law_1077 rfl ?_
  refine g_aload_n hk dL_law_1078 rfl ?_
  refine g_aload_n hk dL_law_1079 rfl ?_
  refine g_iload_n hk dL_law_1080 rfl ?_
  refine g_iconst (v := 1) hk dL_law_1081 (by decide) ?_
  refine g_iadd hk dL_law_1082 ?_
  refine g_topi (fun y5 ey5 => ?_)
  have qy5 : y5 = y1 := ey5.trans ey1.symm
  subst qy5
  refine g_sld (v := xs y5.toNatClampNeg) hk hX (vp_in_iff.mpr ⟨by omega, by omega⟩) rfl dL_law_1083 ?_
  refine g_aload_n hk dL_law_1084 rfl ?_
  refine g_iload_n hk dL_law_1085 rfl ?_
  refine g_iconst (v := 2) hk dL_law_1086 (by decide) ?_
  refine g_iadd hk dL_law_1087 ?_
  refine g_topi (fun y6 ey6 => ?_)
  have qy6 : y6 = y2 := ey6.trans ey2.symm
  subst qy6
  refine g_sld (v := xs y6.toNatClampNeg) hk hX (vp_in_iff.mpr ⟨by omega, by omega⟩) rfl dL_law_1088 ?_
  refine g_callV (n := 2) hk (j202_X12_odd l D zt r g J B M (xs y5.toNatClampNeg) (xs y6.toNatClampNeg) hJ) (SP.pre _ _) (fun q h => List.mem_append_right _ h) (gi_V zw_1931 zw_1932 zw_1933 zw_115 (gi_sub zi_j202_X12_odd zg_j202_X12_odd)) rfl rfl rfl (by decide +kernel) ⟨Nat.le_of_ble_eq_true rfl, Nat.le_of_ble_eq_true rfl⟩ 0 rfl rfl rfl rfl (Nat.le_of_ble_eq_true rfl) ⟨Nat.le_of_ble_eq_true rfl, Nat.le_of_ble_eq_true rfl⟩ dL_law_1089 (fun v ty' w' hp hk' => ?_)
  obtain ⟨I8, A8, L8, d8, a8, h8, v7, l8, c9, e8, rfl, rfl⟩ := hp
  show GW κ 4 82 21282 (wX q d I4 A4 ++ wM r g I8 A8 L8) 1092 [(3, .int i), (2, .ref (r 0)), (1, .ref (q 0)), (0, .ref b)] [.int v7]
  refine g_pop hk dL_law_1092 rfl ?_
  refine g_goto (tgt := 1465) hk dL_law_1093 (by decide) ?_
  exact tail I4 A4 I8 A8 L8 h4 h8 ⟨⟨(RT.keep hS.1.1 (d4 0 rfl) (a4 0 rfl) (d8 1 rfl) (a8 0 rfl) l8), (((d4 12 rfl).trans hS.1.2.1).trans (d8 10 rfl).symm), (((d4 13 rfl).trans hS.1.2.2).trans (d8 14 rfl).symm)⟩, (hS.2.1.keep (d4 17 rfl) (d4 18 rfl) (d4 20 rfl) (d4 21 rfl) (a4 7 rfl) (a4 10 rfl) (a4 11 rfl) (a4 12 rfl) (a4 13 rfl) (d8 22 rfl) (a8 17 rfl) (a8 22 rfl)), (hS.2.2.1.keep (d4 19 rfl) (a4 8 rfl) (a4 9 rfl) (d8 15 rfl) (a8 10 rfl) (a8 11 rfl) (a8 12 rfl)), (hS.2.2.2.keep (d4 22 rfl) (d4 23 rfl) (d4 24 rfl) (d4 25 rfl) (d4 26 rfl) (d4 27 rfl) (a4 15 rfl) (a4 16 rfl) (a4 17 rfl) (a4 18 rfl) (a4 19 rfl) (a4 20 rfl) (a8 27 rfl) (a8 28 rfl))⟩
set_option maxHeartbeats 4000000 in
set_option maxRecDepth 100000 in
theorem law_28 {κ : Cx} {l : Launch} {D : va_G} {zt : Nat × Nat × Nat × (Nat → Nat) × (Nat → Nat)} {q r : Nat → Nat} {d g : Nat → ClassId} {b L : Nat} {xs : Nat → Int32} (hk : GC κ l D zt code 4 RL lw_tbl (tyX d ++ tyM g) room_1) (hX : GX κ b L xs) (i : Int32) (h0 : 0 ≤ i.toInt) (h6 : i.toInt + 6 ≤ (L : Int)) (hL : L ≤ 3072) (I : Nat → Int32) (A : Nat → Nat → Int32) (J : Nat → Int32) (B : Nat → Nat → Int32) (M : Nat → Nat → Int64) (hI : IvX I A) (hJ : IvM J B) (hS : RA I A J B M) (tail : ∀ (I : Nat → Int32) (A : Nat → Nat → Int32) (J : Nat → Int32) (B : Nat → Nat → Int32) (M : Nat → Nat → Int64), IvX I A → IvM J B → RA I A J B M → GW κ 4 82 21282 (wX q d I A ++ wM r g J B M) 1465 [(3, .int i), (2, .ref (r 0)), (1, .ref (q 0)), (0, .ref b)] []) : GW κ 4 82 21282 (wX q d I A ++ wM r g J B M) 1096 [(3, .int i), (2, .ref (r 0)), (1, .ref (q 0)), (0, .ref b)] [] := by
  refine g_aload_n hk dL_law_1096 rfl ?_
  refine g_aload_n hk dL_law_1097 rfl ?_
  refine g_iload_n hk dL_law_1098 rfl ?_
  refine g_iconst (v := 1) hk dL_law_1099 (by decide) ?_
  refine g_iadd hk dL_law_1100 ?_
  refine g_topi (fun y1 ey1 => ?_)
  have hy1 : y1.toInt = i.toInt + 1 := i32_add ey1 rfl (by decide) (by omega) (by omega)
  refine g_sld (v := xs y1.toNatClampNeg) hk hX (vp_in_iff.mpr ⟨by omega, by omega⟩) rfl dL_law_1101 ?_
  refine g_aload_n hk dL_law_1102 rfl ?_
  refine g_iload_n hk dL_law_1103 rfl ?_
  refine g_iconst (v := 2) hk dL_law_1104 (by decide) ?_
  refine g_iadd hk dL_law_1105 ?_
  refine g_topi (fun y2 ey2 => ?_)
  have hy2 : y2.toInt = i.toInt + 2 := i32_add ey2 rfl (by decide) (by omega) (by omega)
  refine g_sld (v := xs y2.toNatClampNeg) hk hX (vp_in_iff.mpr ⟨by omega, by omega⟩) rfl dL_law_1106 ?_
  refine g_callV (n := 2) hk (k277_X11_cover l D zt q d I A (xs y1.toNatClampNeg) (xs y2.toNatClampNeg) hI) (SP.pre _ _) (fun q h => List.mem_append_left _ h) (gi_V zw_1181 zw_1182 zw_1183 zw_103 (gi_sub zi_k277_X11_cover zg_k277_X11_cover)) rfl rfl rfl (by decide +kernel) ⟨Nat.le_of_ble_eq_true rfl, Nat.le_of_ble_eq_true rfl⟩ 0 rfl rfl rfl rfl (Nat.le_of_ble_eq_true rfl) ⟨Nat.le_of_ble_eq_true rfl, Nat.le_of_ble_eq_true rfl⟩ dL_law_1107 (fun v ty' w' hp hk' => ?_)
  obtain ⟨I4, A4, d4, a4, h4, v3, e4, rfl, rfl⟩ := hp
  show GW κ 4 82 21282 (wM r g J B M ++ wX q d I4 A4) 1110 [(3, .int i), (2, .ref (r 0)), (1, .ref (q 0)), (0, .ref b)] [.int v3]
  refine g_pop hk dL_law_1110 rfl ?_
  refine g_aload_n hk dL_law_1111 rfl ?_
  refine g_aload_n hk dL_law_1112 rfl ?_
  refine g_iload_n hk dL_law_1113 rfl ?_
  refine g_iconst (v := 1) hk dL_law_1114 (by decide) ?_
  refine g_iadd hk dL_law_1115 ?_
  refine g_topi (fun y5 ey5 => ?_)
  have qy5 : y5 = y1 := ey5.trans ey1.symm
  subst qy5
  refine g_sld (v := xs y5.toNatClampNeg) hk hX (vp_in_iff.mpr ⟨by omega, by omega⟩) rfl dL_law_1116 ?_
  refine g_aload_n hk dL_law_1117 rfl ?_
  refine g_iload_n hk dL_law_1118 rfl ?_
  refine g_iconst (v := 2) hk dL_law_1119 (by decide) ?_
  refine g_iadd hk dL_law_1120 ?_
  refine g_topi (fun y6 ey6 => ?_)
  have qy6 : y6 = y2 := ey6.trans ey2.symm
  subst qy6
  refine g_sld (v := xs y6.toNatClampNeg) hk hX (vp_in_iff.mpr ⟨by omega, by omega⟩) rfl dL_law_1121 ?_
  refine g_callV (n := 2) hk (j203_X12_cover l D zt r g J B M (xs y5.toNatClampNeg) (xs y6.toNatClampNeg) hJ) (SP.pre _ _) (fun q h => List.mem_append_right _ h) (gi_V zw_1880 zw_1881 zw_1882 zw_115 (gi_sub zi_j203_X12_cover zg_j203_X12_cover)) rfl rfl rfl (by decide +kernel) ⟨Nat.le_of_ble_eq_true rfl, Nat.le_of_ble_eq_true rfl⟩ 0 rfl rfl rfl rfl (Nat.le_of_ble_eq_true rfl) ⟨Nat.le_of_ble_eq_true rfl, Nat.le_of_ble_eq_true rfl⟩ dL_law_1122 (fun v ty' w' hp hk' => ?_)
  obtain ⟨I8, A8, L8, d8, a8, h8, v7, l8, e8, rfl, rfl⟩ := hp
  show GW κ 4 82 21282 (wX q d I4 A4 ++ wM r g I8 A8 L8) 1125 [(3, .int i), (2, .ref (r 0)), (1, .ref (q 0)), (0, .ref b)] [.int v7]
  refine g_pop hk dL_law_1125 rfl ?_
  refine g_goto (tgt := 1465) hk dL_law_1126 (by decide) ?_
  exact tail I4 A4 I8 A8 L8 h4 h8 ⟨⟨(RT.keep hS.1.1 (d4 0 rfl) (a4 0 rfl) (d8 1 rfl) (a8 0 rfl) l8), (((d4 12 rfl).trans hS.1.2.1).trans (d8 10 rfl).symm), (((d4 13 rfl).trans hS.1.2.2).trans (d8 14 rfl).symm)⟩, (hS.2.1.keep (d4 17 rfl) (d4 18 rfl) (d4 20 rfl) (d4 21 rfl) (a4 7 rfl) (a4 10 rfl) (a4 11 rfl) (a4 12 rfl) (a4 13 rfl) (d8 22 rfl) (a8 17 rfl) (a8 22 rfl)), (hS.2.2.1.keep (d4 19 rfl) (a4 8 rfl) (a4 9 rfl) (d8 15 rfl) (a8 10 rfl) (a8 11 rfl) (a8 12 rfl)), (hS.2.2.2.keep (d4 22 rfl) (d4 23 rfl) (d4 24 rfl) (d4 25 rfl) (d4 26 rfl) (d4 27 rfl) (a4 15 rfl) (a4 16 rfl) (a4 17 rfl) (a4 18 rfl) (a4 19 rfl) (a4 20 rfl) (a8 27 rfl) (a8 28 rfl))⟩
set_option maxHeartbeats 4000000 in
set_option maxRecDepth 100000 in
theorem law_29 {κ : Cx} {l : Launch} {D : va_G} {zt : Nat × Nat × Nat × (Nat → Nat) × (Nat → Nat)} {q r : Nat → Nat} {d g : Nat → ClassId} {b L : Nat} {xs : Nat → Int32} (hk : GC κ l D zt code 4 RL lw_tbl (tyX d ++ tyM g) room_1) (hX : GX κ b L xs) (i : Int32) (h0 : 0 ≤ i.toInt) (h6 : i.toInt + 6 ≤ (L : Int)) (hL : L ≤ 3072) (I : Nat → Int32) (A : Nat → Nat → Int32) (J : Nat → Int32) (B : Nat → Nat → Int32) (M : Nat → Nat → Int64) (hI : IvX I A) (hJ : IvM J B) (hS : RA I A J B M) (tail : ∀ (I : Nat → Int32) (A : Nat → Nat → Int32) (J : Nat → Int32) (B : Nat → Nat → Int32) (M : Nat → Nat → Int64), IvX I A → IvM J B → RA I A J B M → GW κ 4 82 21282 (wX q d I A ++ wM r g J B M) 1465 [(3, .int i), (2, .ref (r 0)), (1, .ref (q 0)), (0, .ref b)] []) : GW κ 4 82 21282 (wX q d I A ++ wM r g J B M) 1129 [(3, .int i), (2, .ref (r 0)), (1, .ref (q 0)), (0, .ref b)] [] := by
  refine g_aload_n hk dL_law_1129 rfl ?_
  refine g_aload_n hk dL_law_1130 rfl ?_
  refine g_iload_n hk dL_law_1131 rfl ?_
  refine g_iconst (v := 1) hk dL_law_1132 (by decide) ?_
  refine g_iadd hk dL_law_1133 ?_
  refine g_topi (fun y1 ey1 => ?_)
  have hy1 : y1.toInt = i.toInt + 1 := i32_add ey1 rfl (by decide) (by omega) (by omega)
  refine g_sld (v := xs y1.toNatClampNeg) hk hX (vp_in_iff.mpr ⟨by omega, by omega⟩) rfl dL_law_1134 ?_
  refine g_aload_n hk dL_law_1135 rfl ?_
  refine g_iload_n hk dL_law_1136 rfl ?_
  refine g_iconst (v := 2) hk dL_law_1137 (by decide) ?_
  refine g_iadd hk dL_law_1138 ?_
  refine g_topi (fun y2 ey2 => ?_)
  have hy2 : y2.toInt = i.toInt + 2 := i32_add ey2 rfl (by decide) (by omega) (by omega)
  refine g_sld (v := xs y2.toNatClampNeg) hk hX (vp_in_iff.mpr ⟨by omega, by omega⟩) rfl dL_law_1139 ?_
  refine g_aload_n hk dL_law_1140 rfl ?_
  refine g_iload_n hk dL_law_1141 rfl ?_
  refine g_iconst (v := 3) hk dL_law_1142 (by decide) ?_
  refine g_iadd hk dL_law_1143 ?_
  refine g_topi (fun y3 ey3 => ?_)
  have hy3 : y3.toInt = i.toInt + 3 := i32_add ey3 rfl (by decide) (by omega) (by omega)
  refine g_sld (v := xs y3.toNatClampNeg) hk hX (vp_in_iff.mpr ⟨by omega, by omega⟩) rfl dL_law_1144 ?_
  refine g_callV (n := 3) hk (k252_X11_lean l D zt q d I A (xs y1.toNatClampNeg) (xs y2.toNatClampNeg) (xs y3.toNatClampNeg) hI) (SP.pre _ _) (fun q h => List.mem_append_left _ h) (gi_V zw_1066 zw_1067 zw_1068 zw_103 (gi_sub zi_k252_X11_lean zg_k252_X11_lean)) rfl rfl rfl (by decide +kernel) ⟨Nat.le_of_ble_eq_true rfl, Nat.le_of_ble_eq_true rfl⟩ 0 rfl rfl rfl rfl (Nat.le_of_ble_eq_true rfl) ⟨Nat.le_of_ble_eq_true rfl, Nat.le_of_ble_eq_true rfl⟩ dL_law_1145 (fun v ty' w' hp hk' => ?_)
  obtain ⟨I5, A5, d5, a5, h5, v4, e5, rfl, rfl⟩ := hp
  show GW κ 4 82 21282 (wM r g J B M ++ wX q d I5 A5) 1148 [(3, .int i), (2, .ref (r 0)), (1, .ref (q 0)), (0, .ref b)] [.int v4]
  refine g_pop hk dL_law_1148 rfl ?_
  refine g_aload_n hk dL_law_1149 rfl ?_
  refine g_aload_n hk dL_law_1150 rfl ?_
  refine g_iload_n hk dL_law_1151 rfl ?_
  refine g_iconst (v := 1) hk dL_law_1152 (by decide) ?_
  refine g_iadd hk dL_law_1153 ?_
  refine g_topi (fun y6 ey6 => ?_)
  have qy6 : y6 = y1 := ey6.trans ey1.symm
  subst qy6
  refine g_sld (v := xs y6.toNatClampNeg) hk hX (vp_in_iff.mpr ⟨by omega, by omega⟩) rfl dL_law_1154 ?_
  refine g_aload_n hk dL_law_1155 rfl ?_
  refine g_iload_n hk dL_law_1156 rfl ?_
  refine g_iconst (v := 2) hk dL_law_1157 (by decide) ?_
  refine g_iadd hk dL_law_1158 ?_
  refine g_topi (fun y7 ey7 => ?_)
  have qy7 : y7 = y2 := ey7.trans ey2.symm
  subst qy7
  refine g_sld (v := xs y7.toNatClampNeg) hk hX (vp_in_iff.mpr ⟨by omega, by omega⟩) rfl dL_law_1159 ?_
  refine g_aload_n hk dL_law_1160 rfl ?_
  refine g_iload_n hk dL_law_1161 rfl ?_
  refine g_iconst (v := 3) hk dL_law_1162 (by decide) ?_
  refine g_iadd hk dL_law_1163 ?_
  refine g_topi (fun y8 ey8 => ?_)
  have qy8 : y8 = y3 := ey8.trans ey3.symm
  subst qy8
  refine g_sld (v := xs y8.toNatClampNeg) hk hX (vp_in_iff.mpr ⟨by omega, by omega⟩) rfl dL_law_1164 ?_
  refine g_callV (n := 3) hk (j204_X12_lean l D zt r g J B M (xs y6.toNatClampNeg) (xs y7.toNatClampNeg) (xs y8.toNatClampNeg) hJ) (SP.pre _ _) (fun q h => List.mem_append_right _ h) (gi_V zw_1836 zw_1837 zw_1838 zw_115 (gi_sub zi_j204_X12_lean zg_j204_X12_lean)) rfl rfl rfl (by decide +kernel) ⟨Nat.le_of_ble_eq_true rfl, Nat.le_of_ble_eq_true rfl⟩ 0 rfl rfl rfl rfl (Nat.le_of_ble_eq_true rfl) ⟨Nat.le_of_ble_eq_true rfl, Nat.le_of_ble_eq_true rfl⟩ dL_law_1165 (fun v ty' w' hp hk' => ?_)
  obtain ⟨I10, A10, L10, d10, a10, h10, v9, l10, e10, rfl, rfl⟩ := hp
  show GW κ 4 82 21282 (wX q d I5 A5 ++ wM r g I10 A10 L10) 1168 [(3, .int i), (2, .ref (r 0)), (1, .ref (q 0)), (0, .ref b)] [.int v9]
  refine g_pop hk dL_law_1168 rfl ?_
  refine g_goto (tgt := 1465) hk dL_law_1169 (by decide) ?_
  exact tail I5 A5 I10 A10 L10 h5 h10 ⟨⟨(RT.keep hS.1.1 (d5 0 rfl) (a5 0 rfl) (d10 1 rfl) (a10 0 rfl) l10), (((d5 12 rfl).trans hS.1.2.1).trans (d10 10 rfl).symm), (((d5 13 rfl).trans hS.1.2.2).trans (d10 14 rfl).symm)⟩, (hS.2.1.keep (d5 17 rfl) (d5 18 rfl) (d5 20 rfl) (d5 21 rfl) (a5 7 rfl) (a5 10 rfl) (a5 11 rfl) (a5 12 rfl) (a5 13 rfl) (d10 22 rfl) (a10 17 rfl) (a10 22 rfl)), (hS.2.2.1.keep (d5 19 rfl) (a5 8 rfl) (a5 9 rfl) (d10 15 rfl) (a10 10 rfl) (a10 11 rfl) (a10 12 rfl)), (hS.2.2.2.keep (d5 22 rfl) (d5 23 rfl) (d5 24 rfl) (d5 25 rfl) (d5 26 rfl) (d5 27 rfl) (a5 15 rfl) (a5 16 rfl) (a5 17 rfl) (a5 18 rfl) (a5 19 rfl) (a5 20 rfl) (a10 27 rfl) (a10 28 rfl))⟩
set_option maxHeartbeats 4000000 in
set_option maxRecDepth 100000 in
theorem law_30 {κ : Cx} {l : Launch} {D : va_G} {zt : Nat × Nat × Nat × (Nat → Nat) × (Nat → Nat)} {q r : Nat → Nat} {d g : Nat → ClassId} {b L : Nat} {xs : Nat → Int32} (hk : GC κ l D zt code 4 RL lw_tbl (tyX d ++ tyM g) room_1) (hX : GX κ b L xs) (i : Int32) (h0 : 0 ≤ i.toInt) (h6 : i.toInt + 6 ≤ (L : Int)) (hL : L ≤ 3072) (I : Nat → Int32) (A : Nat → Nat → Int32) (J : Nat → Int32) (B : Nat → Nat → Int32) (M : Nat → Nat → Int64) (hI : IvX I A) (hJ : IvM J B) (hS : RA I A J B M) (tail : ∀ (I : Nat → Int32) (A : Nat → Nat → Int32) (J : Nat → Int32) (B : Nat → Nat → Int32) (M : Nat → Nat → Int64), IvX I A → IvM J B → RA I A J B M → GW κ 4 82 21282 (wX q d I A ++ wM r g J B M) 1465 [(3, .int i), (2, .ref (r 0)), (1, .ref (q 0)), (0, .ref b)] []) : GW κ 4 82 21282 (wX q d I A ++ wM r g J B M) 1172 [(3, .int i), (2, .ref (r 0)), (1, .ref (q 0)), (0, .ref b)] [] := by
  refine g_aload_n hk dL_law_1172 rfl ?_
  refine g_aload_n hk dL_law_1173 rfl ?_
  refine g_iload_n hk dL_law_1174 rfl ?_
  refine g_iconst (v := 1) hk dL_law_1175 (by decide) ?_
  refine g_iadd hk dL_law_1176 ?_
  refine g_topi (fun y1 ey1 => ?_)
  have hy1 : y1.toInt = i.toInt + 1 := i32_add ey1 rfl (by decide) (by omega) (by omega)
  refine g_sld (v := xs y1.toNatClampNeg) hk hX (vp_in_iff.mpr ⟨by omega, by omega⟩) rfl dL_law_1177 ?_
  refine g_aload_n hk dL_law_1178 rfl ?_
  refine g_iload_n hk dL_law_1179 rfl ?_
  refine g_iconst (v := 2) hk dL_law_1180 (by decide) ?_
  refine g_iadd hk dL_law_1181 ?_
  refine g_topi (fun y2 ey2 => ?_)
  have hy2 : y2.toInt = i.toInt + 2 := i32_add ey2 rfl (by decide) (by omega) (by omega)
  refine g_sld (v := xs y2.toNatClampNeg) hk hX (vp_in_iff.mpr ⟨by omega, by omega⟩) rfl dL_law_1182 ?_
  refine g_callV (n := 2) hk (k258_X11_whose l D zt q d I A (xs y1.toNatClampNeg) (xs y2.toNatClampNeg) hI) (SP.pre _ _) (fun q h => List.mem_append_left _ h) (gi_V zw_1093 zw_1094 zw_1095 zw_103 (gi_sub zi_k258_X11_whose zg_k258_X11_whose)) rfl rfl rfl (by decide +kernel) ⟨Nat.le_of_ble_eq_true rfl, Nat.le_of_ble_eq_true rfl⟩ 0 rfl rfl rfl rfl (Nat.le_of_ble_eq_true rfl) ⟨Nat.le_of_ble_eq_true rfl, Nat.le_of_ble_eq_true rfl⟩ dL_law_1183 (fun v ty' w' hp hk' => ?_)
  obtain ⟨I4, A4, d4, a4, h4, v3, c5, c6, e4, rfl, rfl⟩ := hp
  show GW κ 4 82 21282 (wM r g J B M ++ wX q d I4 A4) 1186 [(3, .int i), (2, .ref (r 0)), (1, .ref (q 0)), (0, .ref b)] [.int v3]
  refine g_pop hk dL_law_1186 rfl ?_
  refine g_aload_n hk dL_law_1187 rfl ?_
  refine g_aload_n hk dL_law_1188 rfl ?_
  refine g_iload_n hk dL_law_1189 rfl ?_
  refine g_iconst (v := 1) hk dL_law_1190 (by decide) ?_
  refine g_iadd hk dL_law_1191 ?_
  refine g_topi (fun y7 ey7 => ?_)
  have qy7 : y7 = y1 := ey7.trans ey1.symm
  subst qy7
  refine g_sld (v := xs y7.toNatClampNeg) hk hX (vp_in_iff.mpr ⟨by omega, by omega⟩) rfl dL_law_1192 ?_
  refine g_aload_n hk dL_law_1193 rfl ?_
  refine g_iload_n hk dL_law_1194 rfl ?_
  refine g_iconst (v := 2) hk dL_law_1195 (by decide) ?_
  refine g_iadd hk dL_law_1196 ?_
  refine g_topi (fun y8 ey8 => ?_)
  have qy8 : y8 = y2 := ey8.trans ey2.symm
  subst qy8
  refine g_sld (v := xs y8.toNatClampNeg) hk hX (vp_in_iff.mpr ⟨by omega, by omega⟩) rfl dL_law_1197 ?_
  refine g_callV (n := 2) hk (j205_X12_whose l D zt r g J B M (xs y7.toNatClampNeg) (xs y8.toNatClampNeg) hJ) (SP.pre _ _) (fun q h => List.mem_append_right _ h) (gi_V zw_1911 zw_1912 zw_1913 zw_115 (gi_sub zi_j205_X12_whose zg_j205_X12_whose)) rfl rfl rfl (by decide +kernel) ⟨Nat.le_of_ble_eq_true rfl, Nat.le_of_ble_eq_true rfl⟩ 0 rfl rfl rfl rfl (Nat.le_of_ble_eq_true rfl) ⟨Nat.le_of_ble_eq_true rfl, Nat.le_of_ble_eq_true rfl⟩ dL_law_1198 (fun v ty' w' hp hk' => ?_)
  obtain ⟨I10, A10, L10, d10, a10, h10, v9, l10, c11, c12, e10, rfl, rfl⟩ := hp
  show GW κ 4 82 21282 (wX q d I4 A4 ++ wM r g I10 A10 L10) 1201 [(3, .int i), (2, .ref (r 0)), (1, .ref (q 0)), (0, .ref b)] [.int v9]
  refine g_pop hk dL_law_1201 rfl ?_
  refine g_goto (tgt := 1465) hk dL_law_1202 (by decide) ?_
  exact tail I4 A4 I10 A10 L10 h4 h10 ⟨⟨(RT.keep hS.1.1 (d4 0 rfl) (a4 0 rfl) (d10 1 rfl) (a10 0 rfl) l10), (((d4 12 rfl).trans hS.1.2.1).trans (d10 10 rfl).symm), (((d4 13 rfl).trans hS.1.2.2).trans (d10 14 rfl).symm)⟩, (hS.2.1.keep (d4 17 rfl) (d4 18 rfl) (d4 20 rfl) (d4 21 rfl) (a4 7 rfl) (a4 10 rfl) (a4 11 rfl) (a4 12 rfl) (a4 13 rfl) (d10 22 rfl) (a10 17 rfl) (a10 22 rfl)), (hS.2.2.1.keep (d4 19 rfl) (a4 8 rfl) (a4 9 rfl) (d10 15 rfl) (a10 10 rfl) (a10 11 rfl) (a10 12 rfl)), (hS.2.2.2.keep (d4 22 rfl) (d4 23 rfl) (d4 24 rfl) (d4 25 rfl) (d4 26 rfl) (d4 27 rfl) (a4 15 rfl) (a4 16 rfl) (a4 17 rfl) (a4 18 rfl) (a4 19 rfl) (a4 20 rfl) (a10 27 rfl) (a10 28 rfl))⟩
set_option maxHeartbeats 4000000 in
set_option maxRecDepth 100000 in
theorem law_31 {κ : Cx} {l : Launch} {D : va_G} {zt : Nat × Nat × Nat × (Nat → Nat) × (Nat → Nat)} {q r : Nat → Nat} {d g : Nat → ClassId} {b L : Nat} {xs : Nat → Int32} (hk : GC κ l D zt code 4 RL lw_tbl (tyX d ++ tyM g) room_1) (hX : GX κ b L xs) (i : Int32) (h0 : 0 ≤ i.toInt) (h6 : i.toInt + 6 ≤ (L : Int)) (hL : L ≤ 3072) (I : Nat → Int32) (A : Nat → Nat → Int32) (J : Nat → Int32) (B : Nat → Nat → Int32) (M : Nat → Nat → Int64) (hI : IvX I A) (hJ : IvM J B) (hS : RA I A J B M) (tail : ∀ (I : Nat → Int32) (A : Nat → Nat → Int32) (J : Nat → Int32) (B : Nat → Nat → Int32) (M : Nat → Nat → Int64), IvX I A → IvM J B → RA I A J B M → GW κ 4 82 21282 (wX q d I A ++ wM r g J B M) 1465 [(3, .int i), (2, .ref (r 0)), (1, .ref (q 0)), (0, .ref b)] []) : GW κ 4 82 21282 (wX q d I A ++ wM r g J B M) 1205 [(3, .int i), (2, .ref (r 0)), (1, .ref (q 0)), (0, .ref b)] [] := by
  refine g_aload_n hk dL_law_1205 rfl ?_
  refine g_aload_n hk dL_law_1206 rfl ?_
  refine g_iload_n hk dL_law_1207 rfl ?_
  refine g_iconst (v := 1) hk dL_law_1208 (by decide) ?_
  refine g_iadd hk dL_law_1209 ?_
  refine g_topi (fun y1 ey1 => ?_)
  have hy1 : y1.toInt = i.toInt + 1 := i32_add ey1 rfl (by decide) (by omega) (by omega)
  refine g_sld (v := xs y1.toNatClampNeg) hk hX (vp_in_iff.mpr ⟨by omega, by omega⟩) rfl dL_law_1210 ?_
  refine g_aload_n hk dL_law_1211 rfl ?_
  refine g_iload_n hk dL_law_1212 rfl ?_
  refine g_iconst (v := 2) hk dL_law_1213 (by decide) ?_
  refine g_iadd hk dL_law_1214 ?_
  refine g_topi (fun y2 ey2 => ?_)
  have hy2 : y2.toInt = i.toInt + 2 := i32_add ey2 rfl (by decide) (by omega) (by omega)
  refine g_sld (v := xs y2.toNatClampNeg) hk hX (vp_in_iff.mpr ⟨by omega, by omega⟩) rfl dL_law_1215 ?_
  refine g_callV (n := 2) hk (k282_X11_rank l D zt q d I A (xs y1.toNatClampNeg) (xs y2.toNatClampNeg) hI) (SP.pre _ _) (fun q h => List.mem_append_left _ h) (gi_V zw_1204 zw_1205 zw_1206 zw_103 (gi_sub zi_k282_X11_rank zg_k282_X11_rank)) rfl rfl rfl (by decide +kernel) ⟨Nat.le_of_ble_eq_true rfl, Nat.le_of_ble_eq_true rfl⟩ 0 rfl rfl rfl rfl (Nat.le_of_ble_eq_true rfl) ⟨Nat.le_of_ble_eq_true rfl, Nat.le_of_ble_eq_true rfl⟩ dL_law_1216 (fun v ty' w' hp hk' => ?_)
  obtain ⟨I4, A4, d4, a4, h4, v3, e4, rfl, rfl⟩ := hp
  show GW κ 4 82 21282 (wM r g J B M ++ wX q d I4 A4) 1219 [(3, .int i), (2, .ref (r 0)), (1, .ref (q 0)), (0, .ref b)] [.int v3]
  refine g_pop hk dL_law_1219 rfl ?_
  refine g_aload_n hk dL_law_1220 rfl ?_
  refine g_aload_n hk dL_law_1221 rfl ?_
  refine g_iload_n hk dL_law_1222 rfl ?_
  refine g_iconst (v := 1) hk dL_law_1223 (by decide) ?_
  refine g_iadd hk dL_law_1224 ?_
  refine g_topi (fun y5 ey5 => ?_)
  have qy5 : y5 = y1 := ey5.trans ey1.symm
  subst qy5
  refine g_sld (v := xs y5.toNatClampNeg) hk hX (vp_in_iff.mpr ⟨by omega, by omega⟩) rfl dL_law_1225 ?_
  refine g_aload_n hk dL_law_1226 rfl ?_
  refine g_iload_n hk dL_law_1227 rfl ?_
  refine g_iconst (v := 2) hk dL_law_1228 (by decide) ?_
  refine g_iadd hk dL_law_1229 ?_
  refine g_topi (fun y6 ey6 => ?_)
  have qy6 : y6 = y2 := ey6.trans ey2.symm
  subst qy6
  refine g_sld (v := xs y6.toNatClampNeg) hk hX (vp_in_iff.mpr ⟨by omega, by omega⟩) rfl dL_law_1230 ?_
  refine g_callV (n := 2) hk (j206_X12_rank l D zt r g J B M (xs y5.toNatClampNeg) (xs y6.toNatClampNeg) hJ) (SP.pre _ _) (fun q h => List.mem_append_right _ h) (gi_V zw_1884 zw_1885 zw_1886 zw_115 (gi_sub zi_j206_X12_rank zg_j206_X12_rank)) rfl rfl rfl (by decide +kernel) ⟨Nat.le_of_ble_eq_true rfl, Nat.le_of_ble_eq_true rfl⟩ 0 rfl rfl rfl rfl (Nat.le_of_ble_eq_true rfl) ⟨Nat.le_of_ble_eq_true rfl, Nat.le_of_ble_eq_true rfl⟩ dL_law_1231 (fun v ty' w' hp hk' => ?_)
  obtain ⟨I8, A8, L8, d8, a8, h8, v7, l8, e8, rfl, rfl⟩ := hp
  show GW κ 4 82 21282 (wX q d I4 A4 ++ wM r g I8 A8 L8) 1234 [(3, .int i), (2, .ref (r 0)), (1, .ref (q 0)), (0, .ref b)] [.int v7]
  refine g_pop hk dL_law_1234 rfl ?_
  refine g_goto (tgt := 1465) hk dL_law_1235 (by decide) ?_
  exact tail I4 A4 I8 A8 L8 h4 h8 ⟨⟨(RT.keep hS.1.1 (d4 0 rfl) (a4 0 rfl) (d8 1 rfl) (a8 0 rfl) l8), (((d4 12 rfl).trans hS.1.2.1).trans (d8 10 rfl).symm), (((d4 13 rfl).trans hS.1.2.2).trans (d8 14 rfl).symm)⟩, (hS.2.1.keep (d4 17 rfl) (d4 18 rfl) (d4 20 rfl) (d4 21 rfl) (a4 7 rfl) (a4 10 rfl) (a4 11 rfl) (a4 12 rfl) (a4 13 rfl) (d8 22 rfl) (a8 17 rfl) (a8 22 rfl)), (hS.2.2.1.keep (d4 19 rfl) (a4 8 rfl) (a4 9 rfl) (d8 15 rfl) (a8 10 rfl) (a8 11 rfl) (a8 12 rfl)), (hS.2.2.2.keep (d4 22 rfl) (d4 23 rfl) (d4 24 rfl) (d4 25 rfl) (d4 26 rfl) (d4 27 rfl) (a4 15 rfl) (a4 16 rfl) (a4 17 rfl) (a4 18 rfl) (a4 19 rfl) (a4 20 rfl) (a8 27 rfl) (a8 28 rfl))⟩
set_option maxHeartbeats 4000000 in
set_option maxRecDepth 100000 in
theorem law_32 {κ : Cx} {l : Launch} {D : va_G} {zt : Nat × Nat × Nat × (Nat → Nat) × (Nat → Nat)} {q r : Nat → Nat} {d g : Nat → ClassId} {b L : Nat} {xs : Nat → Int32} (hk : GC κ l D zt code 4 RL lw_tbl (tyX d ++ tyM g) room_1) (hX : GX κ b L xs) (i : Int32) (h0 : 0 ≤ i.toInt) (h6 : i.toInt + 6 ≤ (L : Int)) (hL : L ≤ 3072) (I : Nat → Int32) (A : Nat → Nat → Int32) (J : Nat → Int32) (B : Nat → Nat → Int32) (M : Nat → Nat → Int64) (hI : IvX I A) (hJ : IvM J B) (hS : RA I A J B M) (tail : ∀ (I : Nat → Int32) (A : Nat → Nat → Int32) (J : Nat → Int32) (B : Nat → Nat → Int32) (M : Nat → Nat → Int64), IvX I A → IvM J B → RA I A J B M → GW κ 4 82 21282 (wX q d I A ++ wM r g J B M) 1465 [(3, .int i), (2, .ref (r 0)), (1, .ref (q 0)), (0, .ref b)] []) : GW κ 4 82 21282 (wX q d I A ++ wM r g J B M) 1238 [(3, .int i), (2, .ref (r 0)), (1, .ref (q 0)), (0, .ref b)] [] := by
  refine g_aload_n hk dL_law_1238 rfl ?_
  refine g_aload_n hk dL_law_1239 rfl ?_
  refine g_iload_n hk dL_law_1240 rfl ?_
  refine g_iconst (v := 1) hk dL_law_1241 (by decide) ?_
  refine g_iadd hk dL_law_1242 ?_
  refine g_topi (fun y1 ey1 => ?_)
  have hy1 : y1.toInt = i.toInt + 1 := i32_add ey1 rfl (by decide) (by omega) (by omega)
  refine g_sld (v := xs y1.toNatClampNeg) hk hX (vp_in_iff.mpr ⟨by omega, by omega⟩) rfl dL_law_1243 ?_
  refine g_aload_n hk dL_law_1244 rfl ?_
  refine g_iload_n hk dL_law_1245 rfl ?_
  refine g_iconst (v := 2) hk dL_law_1246 (by decide) ?_
  refine g_iadd hk dL_law_1247 ?_
  refine g_topi (fun y2 ey2 => ?_)
  have hy2 : y2.toInt = i.toInt + 2 := i32_add ey2 rfl (by decide) (by omega) (by omega)
  refine g_sld (v := xs y2.toNatClampNeg) hk hX (vp_in_iff.mpr ⟨by omega, by omega⟩) rfl dL_law_1248 ?_
  refine g_aload_n hk dL_law_1249 rfl ?_
  refine g_iload_n hk dL_law_1250 rfl ?_
  refine g_iconst (v := 3) hk dL_law_1251 (by decide) ?_
  refine g_iadd hk dL_law_1252 ?_
  refine g_topi (fun y3 ey3 => ?_)
  have hy3 : y3.toInt = i.toInt + 3 := i32_add ey3 rfl (by decide) (by omega) (by omega)
  refine g_sld (v := xs y3.toNatClampNeg) hk hX (vp_in_iff.mpr ⟨by omega, by omega⟩) rfl dL_law_1253 ?_
  refine g_callV (n := 3) hk (k285_X11_kth l D zt q d I A (xs y1.toNatClampNeg) (xs y2.toNatClampNeg) (xs y3.toNatClampNeg) hI) (SP.pre _ _) (fun q h => List.mem_append_left _ h) (gi_V zw_1217 zw_1218 zw_1219 zw_103 (gi_sub zi_k285_X11_kth zg_k285_X11_kth)) rfl rfl rfl (by decide +kernel) ⟨Nat.le_of_ble_eq_true rfl, Nat.le_of_ble_eq_true rfl⟩ 0 rfl rfl rfl rfl (Nat.le_of_ble_eq_true rfl) ⟨Nat.le_of_ble_eq_true rfl, Nat.le_of_ble_eq_true rfl⟩ dL_law_1254 (fun v ty' w' hp hk' => ?_)
  obtain ⟨I5, A5, d5, a5, h5, v4, e5, rfl, rfl⟩ := hp
  show GW κ 4 82 21282 (wM r g J B M ++ wX q d I5 A5) 1257 [(3, .int i), (2, .ref (r 0)), (1, .ref (q 0)), (0, .ref b)] [.int v4]
  refine g_pop hk dL_law_1257 rfl ?_
  refine g_aload_n hk dL_law_1258 rfl ?_
  refine g_aload_n hk dL_law_1259 rfl ?_
  refine g_iload_n hk dL_law_1260 rfl ?_
  refine g_iconst (v := 1) hk dL_law_1261 (by decide) ?_
  refine g_iadd hk dL_law_1262 ?_
  refine g_topi (fun y6 ey6 => ?_)
  have qy6 : y6 = y1 := ey6.trans ey1.symm
  subst qy6
  refine g_sld (v := xs y6.toNatClampNeg) hk hX (vp_in_iff.mpr ⟨by omega, by omega⟩) rfl dL_law_1263 ?_
  refine g_aload_n hk dL_law_1264 rfl ?_
  refine g_iload_n hk dL_law_1265 rfl ?_
  refine g_iconst (v := 2) hk dL_law_1266 (by decide) ?_
  refine g_iadd hk dL_law_1267 ?_
  refine g_topi (fun y7 ey7 => ?_)
  have qy7 : y7 = y2 := ey7.trans ey2.symm
  subst qy7
  refine g_sld (v := xs y7.toNatClampNeg) hk hX (vp_in_iff.mpr ⟨by omega, by omega⟩) rfl dL_law_1268 ?_
  refine g_aload_n hk dL_law_1269 rfl ?_
  refine g_iload_n hk dL_law_1270 rfl ?_
  refine g_iconst (v := 3) hk dL_law_1271 (by decide) ?_
  refine g_iadd hk dL_law_1272 ?_
  refine g_topi (fun y8 ey8 => ?_)
  have qy8 : y8 = y3 := ey8.trans ey3.symm
  subst qy8
  refine g_sld (v := xs y8.toNatClampNeg) hk hX (vp_in_iff.mpr ⟨by omega, by omega⟩) rfl dL_law_1273 ?_
  refine g_callV (n := 3) hk (j208_X12_kth l D zt r g J B M (xs y6.toNatClampNeg) (xs y7.toNatClampNeg) (xs y8.toNatClampNeg) hJ) (SP.pre _ _) (fun q h => List.mem_append_right _ h) (gi_V zw_1892 zw_1893 zw_1894 zw_115 (gi_sub zi_j208_X12_kth zg_j208_X12_kth)) rfl rfl rfl (by decide +kernel) ⟨Nat.le_of_ble_eq_true rfl, Nat.le_of_ble_eq_true rfl⟩ 0 rfl rfl rfl rfl (Nat.le_of_ble_eq_true rfl) ⟨Nat.le_of_ble_eq_true rfl, Nat.le_of_ble_eq_true rfl⟩ dL_law_1274 (fun v ty' w' hp hk' => ?_)
  obtain ⟨I10, A10, L10, d10, a10, h10, v9, l10, c11, e10, rfl, rfl⟩ := hp
  show GW κ 4 82 21282 (wX q d I5 A5 ++ wM r g I10 A10 L10) 1277 [(3, .int i), (2, .ref (r 0)), (1, .ref (q 0)), (0, .ref b)] [.int v9]
  refine g_pop hk dL_law_1277 rfl ?_
  refine g_goto (tgt := 1465) hk dL_law_1278 (by decide) ?_
  exact tail I5 A5 I10 A10 L10 h5 h10 ⟨⟨(RT.keep hS.1.1 (d5 0 rfl) (a5 0 rfl) (d10 1 rfl) (a10 0 rfl) l10), (((d5 12 rfl).trans hS.1.2.1).trans (d10 10 rfl).symm), (((d5 13 rfl).trans hS.1.2.2).trans (d10 14 rfl).symm)⟩, (hS.2.1.keep (d5 17 rfl) (d5 18 rfl) (d5 20 rfl) (d5 21 rfl) (a5 7 rfl) (a5 10 rfl) (a5 11 rfl) (a5 12 rfl) (a5 13 rfl) (d10 22 rfl) (a10 17 rfl) (a10 22 rfl)), (hS.2.2.1.keep (d5 19 rfl) (a5 8 rfl) (a5 9 rfl) (d10 15 rfl) (a10 10 rfl) (a10 11 rfl) (a10 12 rfl)), (hS.2.2.2.keep (d5 22 rfl) (d5 23 rfl) (d5 24 rfl) (d5 25 rfl) (d5 26 rfl) (d5 27 rfl) (a5 15 rfl) (a5 16 rfl) (a5 17 rfl) (a5 18 rfl) (a5 19 rfl) (a5 20 rfl) (a10 27 rfl) (a10 28 rfl))⟩
set_option maxHeartbeats 4000000 in
set_option maxRecDepth 100000 in
theorem law_33 {κ : Cx} {l : Launch} {D : va_G} {zt : Nat × Nat × Nat × (Nat → Nat) × (Nat → Nat)} {q r : Nat → Nat} {d g : Nat → ClassId} {b L : Nat} {xs : Nat → Int32} (hk : GC κ l D zt code 4 RL lw_tbl (tyX d ++ tyM g) room_1) (hX : GX κ b L xs) (i : Int32) (h0 : 0 ≤ i.toInt) (h6 : i.toInt + 6 ≤ (L : Int)) (hL : L ≤ 3072) (I : Nat → Int32) (A : Nat → Nat → Int32) (J : Nat → Int32) (B : Nat → Nat → Int32) (M : Nat → Nat → Int64) (hI : IvX I A) (hJ : IvM J B) (hS : RA I A J B M) (tail : ∀ (I : Nat → Int32) (A : Nat → Nat → Int32) (J : Nat → Int32) (B : Nat → Nat → Int32) (M : Nat → Nat → Int64), IvX I A → IvM J B → RA I A J B M → GW κ 4 82 21282 (wX q d I A ++ wM r g J B M) 1465 [(3, .int i), (2, .ref (r 0)), (1, .ref (q 0)), (0, .ref b)] []) : GW κ 4 82 21282 (wX q d I A ++ wM r g J B M) 1281 [(3, .int i), (2, .ref (r 0)), (1, .ref (q 0)), (0, .ref b)] [] := by
  refine g_aload_n hk dL_law_1281 rfl ?_
  refine g_aload_n hk dL_law_1282 rfl ?_
  refine g_iload_n hk dL_law_1283 rfl ?_
  refine g_iconst (v := 1) hk dL_law_1284 (by decide) ?_
  refine g_iadd hk dL_law_1285 ?_
  refine g_topi (fun y1 ey1 => ?_)
  have hy1 : y1.toInt = i.toInt + 1 := i32_add ey1 rfl (by decide) (by omega) (by omega)
  refine g_sld (v := xs y1.toNatClampNeg) hk hX (vp_in_iff.mpr ⟨by omega, by omega⟩) rfl dL_law_1286 ?_
  refine g_callV (n := 1) hk (k287_X11_slack l D zt q d I A (xs y1.toNatClampNeg) hI) (SP.pre _ _) (fun q h => List.mem_append_left _ h) (gi_V zw_1227 zw_1228 zw_1229 zw_103 (gi_sub zi_k287_X11_slack zg_k287_X11_slack)) rfl rfl rfl (by decide +kernel) ⟨Nat.le_of_ble_eq_true rfl, Nat.le_of_ble_eq_true rfl⟩ 0 rfl rfl rfl rfl (Nat.le_of_ble_eq_true rfl) ⟨Nat.le_of_ble_eq_true rfl, Nat.le_of_ble_eq_true rfl⟩ dL_law_1287 (fun v ty' w' hp hk' => ?_)
  obtain ⟨I3, A3, d3, a3, h3, v2, e3, rfl, rfl⟩ := hp
  show GW κ 4 82 21282 (wM r g J B M ++ wX q d I3 A3) 1290 [(3, .int i), (2, .ref (r 0)), (1, .ref (q 0)), (0, .ref b)] [.int v2]
  refine g_pop hk dL_law_1290 rfl ?_
  refine g_aload_n hk dL_law_1291 rfl ?_
  refine g_aload_n hk dL_law_1292 rfl ?_
  refine g_iload_n hk dL_law_1293 rfl ?_
  refine g_iconst (v := 1) hk dL_law_1294 (by decide) ?_
  refine g_iadd hk dL_law_1295 ?_
  refine g_topi (fun y4 ey4 => ?_)
  have qy4 : y4 = y1 := ey4.trans ey1.symm
  subst qy4
  refine g_sld (v := xs y4.toNatClampNeg) hk hX (vp_in_iff.mpr ⟨by omega, by omega⟩) rfl dL_law_1296 ?_
  refine g_callV (n := 1) hk (j209_X12_slack l D zt r g J B M (xs y4.toNatClampNeg) hJ) (SP.pre _ _) (fun q h => List.mem_append_right _ h) (gi_V zw_1896 zw_1897 zw_1898 zw_115 (gi_sub zi_j209_X12_slack zg_j209_X12_slack)) rfl rfl rfl (by decide +kernel) ⟨Nat.le_of_ble_eq_true rfl, Nat.le_of_ble_eq_true rfl⟩ 0 rfl rfl rfl rfl (Nat.le_of_ble_eq_true rfl) ⟨Nat.le_of_ble_eq_true rfl, Nat.le_of_ble_eq_true rfl⟩ dL_law_1297 (fun v ty' w' hp hk' => ?_)
  obtain ⟨I6, A6, L6, d6, a6, h6, v5, l6, e6, rfl, rfl⟩ := hp
  show GW κ 4 82 21282 (wX q d I3 A3 ++ wM r g I6 A6 L6) 1300 [(3, .int i), (2, .ref (r 0)), (1, .ref (q 0)), (0, .ref b)] [.int v5]
  refine g_pop hk dL_law_1300 rfl ?_
  refine g_goto (tgt := 1465) hk dL_law_1301 (by decide) ?_
  exact tail I3 A3 I6 A6 L6 h3 h6 ⟨⟨(RT.keep hS.1.1 (d3 0 rfl) (a3 0 rfl) (d6 1 rfl) (a6 0 rfl) l6), (((d3 12 rfl).trans hS.1.2.1).trans (d6 10 rfl).symm), (((d3 13 rfl).trans hS.1.2.2).trans (d6 14 rfl).symm)⟩, (hS.2.1.keep (d3 17 rfl) (d3 18 rfl) (d3 20 rfl) (d3 21 rfl) (a3 7 rfl) (a3 10 rfl) (a3 11 rfl) (a3 12 rfl) (a3 13 rfl) (d6 22 rfl) (a6 17 rfl) (a6 22 rfl)), (hS.2.2.1.keep (d3 19 rfl) (a3 8 rfl) (a3 9 rfl) (d6 15 rfl) (a6 10 rfl) (a6 11 rfl) (a6 12 rfl)), (hS.2.2.2.keep (d3 22 rfl) (d3 23 rfl) (d3 24 rfl) (d3 25 rfl) (d3 26 rfl) (d3 27 rfl) (a3 15 rfl) (a3 16 rfl) (a3 17 rfl) (a3 18 rfl) (a3 19 rfl) (a3 20 rfl) (a6 27 rfl) (a6 28 rfl))⟩
set_option maxHeartbeats 4000000 in
set_option maxRecDepth 100000 in
theorem law_34 {κ : Cx} {l : Launch} {D : va_G} {zt : Nat × Nat × Nat × (Nat → Nat) × (Nat → Nat)} {q r : Nat → Nat} {d g : Nat → ClassId} {b L : Nat} {xs : Nat → Int32} (hk : GC κ l D zt code 4 RL lw_tbl (tyX d ++ tyM g) room_1) (hX : GX κ b L xs) (i : Int32) (h0 : 0 ≤ i.toInt) (h6 : i.toInt + 6 ≤ (L : Int)) (hL : L ≤ 3072) (I : Nat → Int32) (A : Nat → Nat → Int32) (J : Nat → Int32) (B : Nat → Nat → Int32) (M : Nat → Nat → Int64) (hI : IvX I A) (hJ : IvM J B) (hS : RA I A J B M) (tail : ∀ (I : Nat → Int32) (A : Nat → Nat → Int32) (J : Nat → Int32) (B : Nat → Nat → Int32) (M : Nat → Nat → Int64), IvX I A → IvM J B → RA I A J B M → GW κ 4 82 21282 (wX q d I A ++ wM r g J B M) 1465 [(3, .int i), (2, .ref (r 0)), (1, .ref (q 0)), (0, .ref b)] []) : GW κ 4 82 21282 (wX q d I A ++ wM r g J B M) 1304 [(3, .int i), (2, .ref (r 0)), (1, .ref (q 0)), (0, .ref b)] [] := by
  refine g_aload_n hk dL_law_1304 rfl ?_
  refine g_aload_n hk dL_law_1305 rfl ?_
  refine g_iload_n hk dL_law_1306 rfl ?_
  refine g_iconst (v := 1) hk dL_law_1307 (by decide) ?_
  refine g_iadd hk dL_law_1308 ?_
  refine g_topi (fun y1 ey1 => ?_)
  have hy1 : y1.toInt = i.toInt + 1 := i32_add ey1 rfl (by decide) (by omega) (by omega)
  refine g_sld (v := xs y1.toNatClampNeg) hk hX (vp_in_iff.mpr ⟨by omega, by omega⟩) rfl dL_law_1309 ?_
  refine g_callV (n := 1) hk (k289_X11_turns l D zt q d I A (xs y1.toNatClampNeg) hI) (SP.pre _ _) (fun q h => List.mem_append_left _ h) (gi_V zw_1239 zw_1240 zw_1241 zw_103 (gi_sub zi_k289_X11_turns zg_k289_X11_turns)) rfl rfl rfl (by decide +kernel) ⟨Nat.le_of_ble_eq_true rfl, Nat.le_of_ble_eq_true rfl⟩ 0 rfl rfl rfl rfl (Nat.le_of_ble_eq_true rfl) ⟨Nat.le_of_ble_eq_true rfl, Nat.le_of_ble_eq_true rfl⟩ dL_law_1310 (fun v ty' w' hp hk' => ?_)
  obtain ⟨I3, A3, d3, a3, h3, v2, e3, rfl, rfl⟩ := hp
  show GW κ 4 82 21282 (wM r g J B M ++ wX q d I3 A3) 1313 [(3, .int i), (2, .ref (r 0)), (1, .ref (q 0)), (0, .ref b)] [.int v2]
  refine g_pop hk dL_law_1313 rfl ?_
  refine g_aload_n hk dL_law_1314 rfl ?_
  refine g_aload_n hk dL_law_1315 rfl ?_
  refine g_iload_n hk dL_law_1316 rfl ?_
  refine g_iconst (v := 1) hk dL_law_1317 (by decide) ?_
  refine g_iadd hk dL_law_1318 ?_
  refine g_topi (fun y4 ey4 => ?_)
  have qy4 : y4 = y1 := ey4.trans ey1.symm
  subst qy4
  refine g_sld (v := xs y4.toNatClampNeg) hk hX (vp_in_iff.mpr ⟨by omega, by omega⟩) rfl dL_law_1319 ?_
  refine g_callV (n := 1) hk (j211_X12_turns l D zt r g J B M (xs y4.toNatClampNeg) hJ) (SP.pre _ _) (fun q h => List.mem_append_right _ h) (gi_V zw_1903 zw_1904 zw_1905 zw_115 (gi_sub zi_j211_X12_turns zg_j211_X12_turns)) rfl rfl rfl (by decide +kernel) ⟨Nat.le_of_ble_eq_true rfl, Nat.le_of_ble_eq_true rfl⟩ 0 rfl rfl rfl rfl (Nat.le_of_ble_eq_true rfl) ⟨Nat.le_of_ble_eq_true rfl, Nat.le_of_ble_eq_true rfl⟩ dL_law_1320 (fun v ty' w' hp hk' => ?_)
  obtain ⟨I6, A6, L6, d6, a6, h6, v5, l6, e6, rfl, rfl⟩ := hp
  show GW κ 4 82 21282 (wX q d I3 A3 ++ wM r g I6 A6 L6) 1323 [(3, .int i), (2, .ref (r 0)), (1, .ref (q 0)), (0, .ref b)] [.int v5]
  refine g_pop hk dL_law_1323 rfl ?_
  refine g_goto (tgt := 1465) hk dL_law_1324 (by decide) ?_
  exact tail I3 A3 I6 A6 L6 h3 h6 ⟨⟨(RT.keep hS.1.1 (d3 0 rfl) (a3 0 rfl) (d6 1 rfl) (a6 0 rfl) l6), (((d3 12 rfl).trans hS.1.2.1).trans (d6 10 rfl).symm), (((d3 13 rfl).trans hS.1.2.2).trans (d6 14 rfl).symm)⟩, (hS.2.1.keep (d3 17 rfl) (d3 18 rfl) (d3 20 rfl) (d3 21 rfl) (a3 7 rfl) (a3 10 rfl) (a3 11 rfl) (a3 12 rfl) (a3 13 rfl) (d6 22 rfl) (a6 17 rfl) (a6 22 rfl)), (hS.2.2.1.keep (d3 19 rfl) (a3 8 rfl) (a3 9 rfl) (d6 15 rfl) (a6 10 rfl) (a6 11 rfl) (a6 12 rfl)), (hS.2.2.2.keep (d3 22 rfl) (d3 23 rfl) (d3 24 rfl) (d3 25 rfl) (d3 26 rfl) (d3 27 rfl) (a3 15 rfl) (a3 16 rfl) (a3 17 rfl) (a3 18 rfl) (a3 19 rfl) (a3 20 rfl) (a6 27 rfl) (a6 28 rfl))⟩
set_option maxHeartbeats 4000000 in
set_option maxRecDepth 100000 in
theorem law_35 {κ : Cx} {l : Launch} {D : va_G} {zt : Nat × Nat × Nat × (Nat → Nat) × (Nat → Nat)} {q r : Nat → Nat} {d g : Nat → ClassId} {b L : Nat} {xs : Nat → Int32} (hk : GC κ l D zt code 4 RL lw_tbl (tyX d ++ tyM g) room_1) (hX : GX κ b L xs) (i : Int32) (h0 : 0 ≤ i.toInt) (h6 : i.toInt + 6 ≤ (L : Int)) (hL : L ≤ 3072) (I : Nat → Int32) (A : Nat → Nat → Int32) (J : Nat → Int32) (B : Nat → Nat → Int32) (M : Nat → Nat → Int64) (hI : IvX I A) (hJ : IvM J B) (hS : RA I A J B M) (tail : ∀ (I : Nat → Int32) (A : Nat → Nat → Int32) (J : Nat → Int32) (B : Nat → Nat → Int32) (M : Nat → Nat → Int64), IvX I A → IvM J B → RA I A J B M → GW κ 4 82 21282 (wX q d I A ++ wM r g J B M) 1465 [(3, .int i), (2, .ref (r 0)), (1, .ref (q 0)), (0, .ref b)] []) : GW κ 4 82 21282 (wX q d I A ++ wM r g J B M) 1327 [(3, .int i), (2, .ref (r 0)), (1, .ref (q 0)), (0, .ref b)] [] := by
  refine g_aload_n hk dL_law_1327 rfl ?_
  refine g_aload_n hk dL_law_1328 rfl ?_
  refine g_iload_n hk dL_law_1329 rfl ?_
  refine g_iconst (v := 1) hk dL_law_1330 (by decide) ?_
  refine g_iadd hk dL_law_1331 ?_
  refine g_topi (fun y1 ey1 => ?_)
  have hy1 : y1.toInt = i.toInt + 1 := i32_add ey1 rfl (by decide) (by omega) (by omega)
  refine g_sld (v := xs y1.toNatClampNeg) hk hX (vp_in_iff.mpr ⟨by omega, by omega⟩) rfl dL_law_1332 ?_
  refine g_callV (n := 1) hk (k306_X11_flat l D zt q d I A (xs y1.toNatClampNeg) hI) (SP.pre _ _) (fun q h => List.mem_append_left _ h) (gi_V zw_1305 zw_1306 zw_1307 zw_103 (gi_sub zi_k306_X11_flat zg_k306_X11_flat)) rfl rfl rfl (by decide +kernel) ⟨Nat.le_of_ble_eq_true rfl, Nat.le_of_ble_eq_true rfl⟩ 0 rfl rfl rfl rfl (Nat.le_of_ble_eq_true rfl) ⟨Nat.le_of_ble_eq_true rfl, Nat.le_of_ble_eq_true rfl⟩ dL_law_1333 (fun v ty' w' hp hk' => ?_)
  obtain ⟨v2, e3, rfl, rfl⟩ := hp
  show GW κ 4 82 21282 (wM r g J B M ++ wX q d I A) 1336 [(3, .int i), (2, .ref (r 0)), (1, .ref (q 0)), (0, .ref b)] [.int v2]
  refine g_pop hk dL_law_1336 rfl ?_
  refine g_aload_n hk dL_law_1337 rfl ?_
  refine g_aload_n hk dL_law_1338 rfl ?_
  refine g_iload_n hk dL_law_1339 rfl ?_
  refine g_iconst (v := 1) hk dL_law_1340 (by decide) ?_
  refine g_iadd hk dL_law_1341 ?_
  refine g_topi (fun y4 ey4 => ?_)
  have qy4 : y4 = y1 := ey4.trans ey1.symm
  subst qy4
  refine g_sld (v := xs y4.toNatClampNeg) hk hX (vp_in_iff.mpr ⟨by omega, by omega⟩) rfl dL_law_1342 ?_
  refine g_callV (n := 1) hk (j212_X12_flat l D zt r g J B M (xs y4.toNatClampNeg) hJ) (SP.pre _ _) (fun q h => List.mem_append_right _ h) (gi_V zw_1743 zw_1744 zw_1745 zw_115 (gi_sub zi_j212_X12_flat zg_j212_X12_flat)) rfl rfl rfl (by decide +kernel) ⟨Nat.le_of_ble_eq_true rfl, Nat.le_of_ble_eq_true rfl⟩ 0 rfl rfl rfl rfl (Nat.le_of_ble_eq_true rfl) ⟨Nat.le_of_ble_eq_true rfl, Nat.le_of_ble_eq_true rfl⟩ dL_law_1343 (fun v ty' w' hp hk' => ?_)
  obtain ⟨v5, e6, rfl, rfl⟩ := hp
  show GW κ 4 82 21282 (wX q d I A ++ wM r g J B M) 1346 [(3, .int i), (2, .ref (r 0)), (1, .ref (q 0)), (0, .ref b)] [.int v5]
  refine g_pop hk dL_law_1346 rfl ?_
  refine g_goto (tgt := 1465) hk dL_law_1347 (by decide) ?_
  exact tail I A J B M hI hJ ⟨⟨(RT.keep hS.1.1 rfl rfl rfl rfl rfl), hS.1.2.1, hS.1.2.2⟩, (hS.2.1.keep rfl rfl rfl rfl rfl rfl rfl rfl rfl rfl rfl rfl), (hS.2.2.1.keep rfl rfl rfl rfl rfl rfl rfl), (hS.2.2.2.keep rfl rfl rfl rfl rfl rfl rfl rfl rfl rfl rfl rfl rfl rfl)⟩
set_option maxHeartbeats 4000000 in
set_option maxRecDepth 100000 in
theorem law_36 {κ : Cx} {l : Launch} {D : va_G} {zt : Nat × Nat × Nat × (Nat → Nat) × (Nat → Nat)} {q r : Nat → Nat} {d g : Nat → ClassId} {b L : Nat} {xs : Nat → Int32} (hk : GC κ l D zt code 4 RL lw_tbl (tyX d ++ tyM g) room_1) (hX : GX κ b L xs) (i : Int32) (h0 : 0 ≤ i.toInt) (h6 : i.toInt + 6 ≤ (L : Int)) (hL : L ≤ 3072) (I : Nat → Int32) (A : Nat → Nat → Int32) (J : Nat → Int32) (B : Nat → Nat → Int32) (M : Nat → Nat → Int64) (hI : IvX I A) (hJ : IvM J B) (hS : RA I A J B M) (tail : ∀ (I : Nat → Int32) (A : Nat → Nat → Int32) (J : Nat → Int32) (B : Nat → Nat → Int32) (M : Nat → Nat → Int64), IvX I A → IvM J B → RA I A J B M → GW κ 4 82 21282 (wX q d I A ++ wM r g J B M) 1465 [(3, .int i), (2, .ref (r 0)), (1, .ref (q 0)), (0, .ref b)] []) : GW κ 4 82 21282 (wX q d I A ++ wM r g J B M) 1350 [(3, .int i), (2, .ref (r 0)), (1, .ref (q 0)), (0, .ref b)] [] := by
  refine g_aload_n hk dL_law_1350 rfl ?_
  refine g_aload_n hk dL_law_1351 rfl ?_
  refine g_iload_n hk dL_law_1352 rfl ?_
  refine g_iconst (v := 1) hk dL_law_1353 (by decide) ?_
  refine g_iadd hk dL_law_1354 ?_
  refine g_topi (fun y1 ey1 => ?_)
  have hy1 : y1.toInt = i.toInt + 1 := i32_add ey1 rfl (by decide) (by omega) (by omega)
  refine g_sld (v := xs y1.toNatClampNeg) hk hX (vp_in_iff.mpr ⟨by omega, by omega⟩) rfl dL_law_1355 ?_
  refine g_callV (n := 1) hk (k308_X11_whole l D zt q d I A (xs y1.toNatClampNeg) hI) (SP.pre _ _) (fun q h => List.mem_append_left _ h) (gi_V zw_1313 zw_1314 zw_1315 zw_103 (gi_sub zi_k308_X11_whole zg_k308_X11_whole)) rfl rfl rfl (by decide +kernel) ⟨Nat.le_of_ble_eq_true rfl, Nat.le_of_ble_eq_true rfl⟩ 0 rfl rfl rfl rfl (Nat.le_of_ble_eq_true rfl) ⟨Nat.le_of_ble_eq_true rfl, Nat.le_of_ble_eq_true rfl⟩ dL_law_1356 (fun v ty' w' hp hk' => ?_)
  obtain ⟨v2, e3, rfl, rfl⟩ := hp
  show GW κ 4 82 21282 (wM r g J B M ++ wX q d I A) 1359 [(3, .int i), (2, .ref (r 0)), (1, .ref (q 0)), (0, .ref b)] [.int v2]
  refine g_pop hk dL_law_1359 rfl ?_
  refine g_aload_n hk dL_law_1360 rfl ?_
  refine g_aload_n hk dL_law_1361 rfl ?_
  refine g_iload_n hk dL_law_1362 rfl ?_
  refine g_iconst (v := 1) hk dL_law_1363 (by decide) ?_
  refine g_iadd hk dL_law_1364 ?_
  refine g_topi (fun y4 ey4 => ?_)
  have qy4 : y4 = y1 := ey4.trans ey1.symm
  subst qy4
  refine g_sld (v := xs y4.toNatClampNeg) hk hX (vp_in_iff.mpr ⟨by omega, by omega⟩) rfl dL_law_1365 ?_
  refine g_callV (n := 1) hk (j213_X12_whole l D zt r g J B M (xs y4.toNatClampNeg) hJ) (SP.pre _ _) (fun q h => List.mem_append_right _ h) (gi_V zw_1747 zw_1748 zw_1749 zw_115 (gi_sub zi_j213_X12_whole zg_j213_X12_whole)) rfl rfl rfl (by decide +kernel) ⟨Nat.le_of_ble_eq_true rfl, Nat.le_of_ble_eq_true rfl⟩ 0 rfl rfl rfl rfl (Nat.le_of_ble_eq_true rfl) ⟨Nat.le_of_ble_eq_true rfl, Nat.le_of_ble_eq_true rfl⟩ dL_law_1366 (fun v ty' w' hp hk' => ?_)
  obtain ⟨v5, c6, c7, e8, rfl, rfl⟩ := hp
  show GW κ 4 82 21282 (wX q d I A ++ wM r g J B M) 1369 [(3, .int i), (2, .ref (r 0)), (1, .ref (q 0)), (0, .ref b)] [.int v5]
  refine g_pop hk dL_law_1369 rfl ?_
  refine g_goto (tgt := 1465) hk dL_law_1370 (by decide) ?_
  exact tail I A J B M hI hJ ⟨⟨(RT.keep hS.1.1 rfl rfl rfl rfl rfl), hS.1.2.1, hS.1.2.2⟩, (hS.2.1.keep rfl rfl rfl rfl rfl rfl rfl rfl rfl rfl rfl rfl), (hS.2.2.1.keep rfl rfl rfl rfl rfl rfl rfl), (hS.2.2.2.keep rfl rfl rfl rfl rfl rfl rfl rfl rfl rfl rfl rfl rfl rfl)⟩
set_option maxHeartbeats 4000000 in
set_option maxRecDepth 100000 in
theorem law_37 {κ : Cx} {l : Launch} {D : va_G} {zt : Nat × Nat × Nat × (Nat → Nat) × (Nat → Nat)} {q r : Nat → Nat} {d g : Nat → ClassId} {b L : Nat} {xs : Nat → Int32} (hk : GC κ l D zt code 4 RL lw_tbl (tyX d ++ tyM g) room_1) (hX : GX κ b L xs) (i : Int32) (h0 : 0 ≤ i.toInt) (h6 : i.toInt + 6 ≤ (L : Int)) (hL : L ≤ 3072) (I : Nat → Int32) (A : Nat → Nat → Int32) (J : Nat → Int32) (B : Nat → Nat → Int32) (M : Nat → Nat → Int64) (hI : IvX I A) (hJ : IvM J B) (hS : RA I A J B M) (tail : ∀ (I : Nat → Int32) (A : Nat → Nat → Int32) (J : Nat → Int32) (B : Nat → Nat → Int32) (M : Nat → Nat → Int64), IvX I A → IvM J B → RA I A J B M → GW κ 4 82 21282 (wX q d I A ++ wM r g J B M) 1465 [(3, .int i), (2, .ref (r 0)), (1, .ref (q 0)), (0, .ref b)] []) : GW κ 4 82 21282 (wX q d I A ++ wM r g J B M) 1373 [(3, .int i), (2, .ref (r 0)), (1, .ref (q 0)), (0, .ref b)] [] := by
  refine g_aload_n hk dL_law_1373 rfl ?_
  refine g_aload_n hk dL_law_1374 rfl ?_
  refine g_iload_n hk dL_law_1375 rfl ?_
  refine g_iconst (v := 1) hk dL_law_1376 (by decide) ?_
  refine g_iadd hk dL_law_1377 ?_
  refine g_topi (fun y1 ey1 => ?_)
  have hy1 : y1.toInt = i.toInt + 1 := i32_add ey1 rfl (by decide) (by omega) (by omega)
  refine g_sld (v := xs y1.toNatClampNeg) hk hX (vp_in_iff.mpr ⟨by omega, by omega⟩) rfl dL_law_1378 ?_
  refine g_callV (n := 1) hk (k260_X11_fired l D zt q d I A (xs y1.toNatClampNeg) hI) (SP.pre _ _) (fun q h => List.mem_append_left _ h) (gi_V zw_1105 zw_1106 zw_1107 zw_103 (gi_sub zi_k260_X11_fired zg_k260_X11_fired)) rfl rfl rfl (by decide +kernel) ⟨Nat.le_of_ble_eq_true rfl, Nat.le_of_ble_eq_true rfl⟩ 0 rfl rfl rfl rfl (Nat.le_of_ble_eq_true rfl) ⟨Nat.le_of_ble_eq_true rfl, Nat.le_of_ble_eq_true rfl⟩ dL_law_1379 (fun v ty' w' hp hk' => ?_)
  obtain ⟨I3, A3, d3, a3, h3, v2, e3, rfl, rfl⟩ := hp
  show GW κ 4 82 21282 (wM r g J B M ++ wX q d I3 A3) 1382 [(3, .int i), (2, .ref (r 0)), (1, .ref (q 0)), (0, .ref b)] [.int v2]
  refine g_pop hk dL_law_1382 rfl ?_
  refine g_aload_n hk dL_law_1383 rfl ?_
  refine g_aload_n hk dL_law_1384 rfl ?_
  refine g_iload_n hk dL_law_1385 rfl ?_
  refine g_iconst (v := 1) hk dL_law_1386 (by decide) ?_
  refine g_iadd hk dL_law_1387 ?_
  refine g_topi (fun y4 ey4 => ?_)
  have qy4 : y4 = y1 := ey4.trans ey1.symm
  subst qy4
  refine g_sld (v := xs y4.toNatClampNeg) hk hX (vp_in_iff.mpr ⟨by omega, by omega⟩) rfl dL_law_1388 ?_
  refine g_callV (n := 1) hk (j214_X12_fired l D zt r g J B M (xs y4.toNatClampNeg) hJ) (SP.pre _ _) (fun q h => List.mem_append_right _ h) (gi_V zw_1907 zw_1908 zw_1909 zw_115 (gi_sub zi_j214_X12_fired zg_j214_X12_fired)) rfl rfl rfl (by decide +kernel) ⟨Nat.le_of_ble_eq_true rfl, Nat.le_of_ble_eq_true rfl⟩ 0 rfl rfl rfl rfl (Nat.le_of_ble_eq_true rfl) ⟨Nat.le_of_ble_eq_true rfl, Nat.le_of_ble_eq_true rfl⟩ dL_law_1389 (fun v ty' w' hp hk' => ?_)
  obtain ⟨I6, A6, L6, d6, a6, h6, v5, l6, e6, rfl, rfl⟩ := hp
  show GW κ 4 82 21282 (wX q d I3 A3 ++ wM r g I6 A6 L6) 1392 [(3, .int i), (2, .ref (r 0)), (1, .ref (q 0)), (0, .ref b)] [.int v5]
  refine g_pop hk dL_law_1392 rfl ?_
  refine g_goto (tgt := 1465) hk dL_law_1393 (by decide) ?_
  exact tail I3 A3 I6 A6 L6 h3 h6 ⟨⟨(RT.keep hS.1.1 (d3 0 rfl) (a3 0 rfl) (d6 1 rfl) (a6 0 rfl) l6), (((d3 12 rfl).trans hS.1.2.1).trans (d6 10 rfl).symm), (((d3 13 rfl).trans hS.1.2.2).trans (d6 14 rfl).symm)⟩, (hS.2.1.keep (d3 17 rfl) (d3 18 rfl) (d3 20 rfl) (d3 21 rfl) (a3 7 rfl) (a3 10 rfl) (a3 11 rfl) (a3 12 rfl) (a3 13 rfl) (d6 22 rfl) (a6 17 rfl) (a6 22 rfl)), (hS.2.2.1.keep (d3 19 rfl) (a3 8 rfl) (a3 9 rfl) (d6 15 rfl) (a6 10 rfl) (a6 11 rfl) (a6 12 rfl)), (hS.2.2.2.keep (d3 22 rfl) (d3 23 rfl) (d3 24 rfl) (d3 25 rfl) (d3 26 rfl) (d3 27 rfl) (a3 15 rfl) (a3 16 rfl) (a3 17 rfl) (a3 18 rfl) (a3 19 rfl) (a3 20 rfl) (a6 27 rfl) (a6 28 rfl))⟩
set_option maxHeartbeats 4000000 in
set_option maxRecDepth 100000 in
theorem law_38 {κ : Cx} {l : Launch} {D : va_G} {zt : Nat × Nat × Nat × (Nat → Nat) × (Nat → Nat)} {q r : Nat → Nat} {d g : Nat → ClassId} {b L : Nat} {xs : Nat → Int32} (hk : GC κ l D zt code 4 RL lw_tbl (tyX d ++ tyM g) room_1) (hX : GX κ b L xs) (i : Int32) (h0 : 0 ≤ i.toInt) (h6 : i.toInt + 6 ≤ (L : Int)) (hL : L ≤ 3072) (I : Nat → Int32) (A : Nat → Nat → Int32) (J : Nat → Int32) (B : Nat → Nat → Int32) (M : Nat → Nat → Int64) (hI : IvX I A) (hJ : IvM J B) (hS : RA I A J B M) (tail : ∀ (I : Nat → Int32) (A : Nat → Nat → Int32) (J : Nat → Int32) (B : Nat → Nat → Int32) (M : Nat → Nat → Int64), IvX I A → IvM J B → RA I A J B M → GW κ 4 82 21282 (wX q d I A ++ wM r g J B M) 1465 [(3, .int i), (2, .ref (r 0)), (1, .ref (q 0)), (0, .ref b)] []) : GW κ 4 82 21282 (wX q d I A ++ wM r g J B M) 1396 [(3, .int i), (2, .ref (r 0)), (1, .ref (q 0)), (0, .ref b)] [] := by
  refine g_aload_n hk dL_law_1396 rfl ?_
  refine g_aload_n hk dL_law_1397 rfl ?_
  refine g_iload_n hk dL_law_1398 rfl ?_
  refine g_iconst (v := 1) hk dL_law_1399 (by decide) ?_
  refine g_iadd hk dL_law_1400 ?_
  refine g_topi (fun y1 ey1 => ?_)
  have hy1 : y1.toInt = i.toInt + 1 := i32_add ey1 rfl (by decide) (by omega) (by omega)
  refine g_sld (v := xs y1.toNatClampNeg) hk hX (vp_in_iff.mpr ⟨by omega, by omega⟩) rfl dL_law_1401 ?_
  refine g_callV (n := 1) hk (k311_X11_hold l D zt q d I A (xs y1.toNatClampNeg) hI) (SP.pre _ _) (fun q h => List.mem_append_left _ h) (gi_V zw_1326 zw_1327 zw_1328 zw_103 (gi_sub zi_k311_X11_hold zg_k311_X11_hold)) rfl rfl rfl (by decide +kernel) ⟨Nat.le_of_ble_eq_true rfl, Nat.le_of_ble_eq_true rfl⟩ 0 rfl rfl rfl rfl (Nat.le_of_ble_eq_true rfl) ⟨Nat.le_of_ble_eq_true rfl, Nat.le_of_ble_eq_true rfl⟩ dL_law_1402 (fun v ty' w' hp hk' => ?_)
  obtain ⟨I3, A3, d3, a3, h3, v2, r4, c5, c6, e3, rfl, rfl⟩ := hp
  show GW κ 4 82 21282 (wM r g J B M ++ wX q d I3 A3) 1405 [(3, .int i), (2, .ref (r 0)), (1, .ref (q 0)), (0, .ref b)] [.int v2]
  refine g_pop hk dL_law_1405 rfl ?_
  refine g_aload_n hk dL_law_1406 rfl ?_
  refine g_aload_n hk dL_law_1407 rfl ?_
  refine g_iload_n hk dL_law_1408 rfl ?_
  refine g_iconst (v := 1) hk dL_law_1409 (by decide) ?_
  refine g_iadd hk dL_law_1410 ?_
  refine g_topi (fun y7 ey7 => ?_)
  have qy7 : y7 = y1 := ey7.trans ey1.symm
  subst qy7
  refine g_sld (v := xs y7.toNatClampNeg) hk hX (vp_in_iff.mpr ⟨by omega, by omega⟩) rfl dL_law_1411 ?_
  refine g_callV (n := 1) hk (j215_X12_hold l D zt r g J B M (xs y7.toNatClampNeg) hJ) (SP.pre _ _) (fun q h => List.mem_append_right _ h) (gi_V zw_1935 zw_1936 zw_1937 zw_115 (gi_sub zi_j215_X12_hold zg_j215_X12_hold)) rfl rfl rfl (by decide +kernel) ⟨Nat.le_of_ble_eq_true rfl, Nat.le_of_ble_eq_true rfl⟩ 0 rfl rfl rfl rfl (Nat.le_of_ble_eq_true rfl) ⟨Nat.le_of_ble_eq_true rfl, Nat.le_of_ble_eq_true rfl⟩ dL_law_1412 (fun v ty' w' hp hk' => ?_)
  obtain ⟨I9, A9, L9, d9, a9, h9, v8, r10, l9, c11, c12, e9, rfl, rfl⟩ := hp
  show GW κ 4 82 21282 (wX q d I3 A3 ++ wM r g I9 A9 L9) 1415 [(3, .int i), (2, .ref (r 0)), (1, .ref (q 0)), (0, .ref b)] [.int v8]
  refine g_pop hk dL_law_1415 rfl ?_
  refine g_goto (tgt := 1465) hk dL_law_1416 (by decide) ?_
  exact tail I3 A3 I9 A9 L9 h3 h9 ⟨⟨(RT.keep hS.1.1 (d3 0 rfl) (a3 0 rfl) (d9 1 rfl) (a9 0 rfl) l9), (((d3 12 rfl).trans hS.1.2.1).trans (d9 10 rfl).symm), (((d3 13 rfl).trans hS.1.2.2).trans (d9 14 rfl).symm)⟩, (hS.2.1.keep (d3 17 rfl) (d3 18 rfl) (d3 20 rfl) (d3 21 rfl) (a3 7 rfl) (a3 10 rfl) (a3 11 rfl) (a3 12 rfl) (a3 13 rfl) (d9 22 rfl) (a9 17 rfl) (a9 22 rfl)), (hS.2.2.1.keep (d3 19 rfl) (a3 8 rfl) (a3 9 rfl) (d9 15 rfl) (a9 10 rfl) (a9 11 rfl) (a9 12 rfl)), (SLS.hold hS.2.2.2 hS.2.1 e3 e9).1⟩
set_option maxHeartbeats 4000000 in
set_option maxRecDepth 100000 in
theorem law_39 {κ : Cx} {l : Launch} {D : va_G} {zt : Nat × Nat × Nat × (Nat → Nat) × (Nat → Nat)} {q r : Nat → Nat} {d g : Nat → ClassId} {b L : Nat} {xs : Nat → Int32} (hk : GC κ l D zt code 4 RL lw_tbl (tyX d ++ tyM g) room_1) (hX : GX κ b L xs) (i : Int32) (h0 : 0 ≤ i.toInt) (h6 : i.toInt + 6 ≤ (L : Int)) (hL : L ≤ 3072) (I : Nat → Int32) (A : Nat → Nat → Int32) (J : Nat → Int32) (B : Nat → Nat → Int32) (M : Nat → Nat → Int64) (hI : IvX I A) (hJ : IvM J B) (hS : RA I A J B M) (tail : ∀ (I : Nat → Int32) (A : Nat → Nat → Int32) (J : Nat → Int32) (B : Nat → Nat → Int32) (M : Nat → Nat → Int64), IvX I A → IvM J B → RA I A J B M → GW κ 4 82 21282 (wX q d I A ++ wM r g J B M) 1465 [(3, .int i), (2, .ref (r 0)), (1, .ref (q 0)), (0, .ref b)] []) : GW κ 4 82 21282 (wX q d I A ++ wM r g J B M) 1419 [(3, .int i), (2, .ref (r 0)), (1, .ref (q 0)), (0, .ref b)] [] := by
  refine g_aload_n hk dL_law_1419 rfl ?_
  refine g_aload_n hk dL_law_1420 rfl ?_
  refine g_iload_n hk dL_law_1421 rfl ?_
  refine g_iconst (v := 1) hk dL_law_1422 (by decide) ?_
  refine g_iadd hk dL_law_1423 ?_
  refine g_topi (fun y1 ey1 => ?_)
  have hy1 : y1.toInt = i.toInt + 1 := i32_add ey1 rfl (by decide) (by omega) (by omega)
  refine g_sld (v := xs y1.toNatClampNeg) hk hX (vp_in_iff.mpr ⟨by omega, by omega⟩) rfl dL_law_1424 ?_
  refine g_callV (n := 1) hk (k321_X11_restore l D zt q d I A (xs y1.toNatClampNeg) hI) (SP.pre _ _) (fun q h => List.mem_append_left _ h) (gi_V zw_1335 zw_1336 zw_1337 zw_103 (gi_sub zi_k321_X11_restore zg_k321_X11_restore)) rfl rfl rfl (by decide +kernel) ⟨Nat.le_of_ble_eq_true rfl, Nat.le_of_ble_eq_true rfl⟩ 0 rfl rfl rfl rfl (Nat.le_of_ble_eq_true rfl) ⟨Nat.le_of_ble_eq_true rfl, Nat.le_of_ble_eq_true rfl⟩ dL_law_1425 (fun v ty' w' hp hk' => ?_)
  obtain ⟨I3, A3, d3, a3, h3, v2, c4, c5, e3, rfl, rfl⟩ := hp
  show GW κ 4 82 21282 (wM r g J B M ++ wX q d I3 A3) 1428 [(3, .int i), (2, .ref (r 0)), (1, .ref (q 0)), (0, .ref b)] [.int v2]
  refine g_pop hk dL_law_1428 rfl ?_
  refine g_aload_n hk dL_law_1429 rfl ?_
  refine g_aload_n hk dL_law_1430 rfl ?_
  refine g_iload_n hk dL_law_1431 rfl ?_
  refine g_iconst (v := 1) hk dL_law_1432 (by decide) ?_
  refine g_iadd hk dL_law_1433 ?_
  refine g_topi (fun y6 ey6 => ?_)
  have qy6 : y6 = y1 := ey6.trans ey1.symm
  subst qy6
  refine g_sld (v := xs y6.toNatClampNeg) hk hX (vp_in_iff.mpr ⟨by omega, by omega⟩) rfl dL_law_1434 ?_
  refine g_callV (n := 1) hk (j216_X12_restore l D zt r g J B M (xs y6.toNatClampNeg) hJ) (SP.pre _ _) (fun q h => List.mem_append_right _ h) (gi_V zw_1939 zw_1940 zw_1941 zw_115 (gi_sub zi_j216_X12_restore zg_j216_X12_restore)) rfl rfl rfl (by decide +kernel) ⟨Nat.le_of_ble_eq_true rfl, Nat.le_of_ble_eq_true rfl⟩ 0 rfl rfl rfl rfl (Nat.le_of_ble_eq_true rfl) ⟨Nat.le_of_ble_eq_true rfl, Nat.le_of_ble_eq_true rfl⟩ dL_law_1435 (fun v ty' w' hp hk' => ?_)
  obtain ⟨I8, A8, L8, d8, a8, h8, v7, l8, c9, c10, e8, rfl, rfl⟩ := hp
  show GW κ 4 82 21282 (wX q d I3 A3 ++ wM r g I8 A8 L8) 1438 [(3, .int i), (2, .ref (r 0)), (1, .ref (q 0)), (0, .ref b)] [.int v7]
  refine g_pop hk dL_law_1438 rfl ?_
  refine g_goto (tgt := 1465) hk dL_law_1439 (by decide) ?_
  exact tail I3 A3 I8 A8 L8 h3 h8 ⟨⟨(RT.keep hS.1.1 (d3 0 rfl) (a3 0 rfl) (d8 1 rfl) (a8 0 rfl) l8), (((d3 12 rfl).trans hS.1.2.1).trans (d8 10 rfl).symm), (((d3 13 rfl).trans hS.1.2.2).trans (d8 14 rfl).symm)⟩, (HS.restore hS.2.2.2 hS.2.1 e3 e8).1, (hS.2.2.1.keep (d3 19 rfl) (a3 8 rfl) (a3 9 rfl) (d8 15 rfl) (a8 10 rfl) (a8 11 rfl) (a8 12 rfl)), (hS.2.2.2.keep (d3 22 rfl) (d3 23 rfl) (d3 24 rfl) (d3 25 rfl) (d3 26 rfl) (d3 27 rfl) (a3 15 rfl) (a3 16 rfl) (a3 17 rfl) (a3 18 rfl) (a3 19 rfl) (a3 20 rfl) (a8 27 rfl) (a8 28 rfl))⟩
set_option maxHeartbeats 4000000 in
set_option maxRecDepth 100000 in
theorem law_40 {κ : Cx} {l : Launch} {D : va_G} {zt : Nat × Nat × Nat × (Nat → Nat) × (Nat → Nat)} {q r : Nat → Nat} {d g : Nat → ClassId} {b L : Nat} {xs : Nat → Int32} (hk : GC κ l D zt code 4 RL lw_tbl (tyX d ++ tyM g) room_1) (hX : GX κ b L xs) (i : Int32) (h0 : 0 ≤ i.toInt) (h6 : i.toInt + 6 ≤ (L : Int)) (hL : L ≤ 3072) (I : Nat → Int32) (A : Nat → Nat → Int32) (J : Nat → Int32) (B : Nat → Nat → Int32) (M : Nat → Nat → Int64) (hI : IvX I A) (hJ : IvM J B) (hS : RA I A J B M) (tail : ∀ (I : Nat → Int32) (A : Nat → Nat → Int32) (J : Nat → Int32) (B : Nat → Nat → Int32) (M : Nat → Nat → Int64), IvX I A → IvM J B → RA I A J B M → GW κ 4 82 21282 (wX q d I A ++ wM r g J B M) 1465 [(3, .int i), (2, .ref (r 0)), (1, .ref (q 0)), (0, .ref b)] []) : GW κ 4 82 21282 (wX q d I A ++ wM r g J B M) 1442 [(3, .int i), (2, .ref (r 0)), (1, .ref (q 0)), (0, .ref b)] [] := by
  refine g_aload_n hk dL_law_1442 rfl ?_
  refine g_aload_n hk dL_law_1443 rfl ?_
  refine g_iload_n hk dL_law_1444 rfl ?_
  refine g_iconst (v := 1) hk dL_law_1445 (by decide) ?_
  refine g_iadd hk dL_law_1446 ?_
  refine g_topi (fun y1 ey1 => ?_)
  have hy1 : y1.toInt = i.toInt + 1 := i32_add ey1 rfl (by decide) (by omega) (by omega)
  refine g_sld (v := xs y1.toNatClampNeg) hk hX (vp_in_iff.mpr ⟨by omega, by omega⟩) rfl dL_law_1447 ?_
  refine g_callV (n := 1) hk (k337_X11_count l D zt q d I A (xs y1.toNatClampNeg) hI) (SP.pre _ _) (fun q h => List.mem_append_left _ h) (gi_V zw_1339 zw_1340 zw_1341 zw_103 (gi_sub zi_k337_X11_count zg_k337_X11_count)) rfl rfl rfl (by decide +kernel) ⟨Nat.le_of_ble_eq_true rfl, Nat.le_of_ble_eq_true rfl⟩ 0 rfl rfl rfl rfl (Nat.le_of_ble_eq_true rfl) ⟨Nat.le_of_ble_eq_true rfl, Nat.le_of_ble_eq_true rfl⟩ dL_law_1448 (fun v ty' w' hp hk' => ?_)
  obtain ⟨v2, e3, rfl, rfl⟩ := hp
  show GW κ 4 82 21282 (wM r g J B M ++ wX q d I A) 1451 [(3, .int i), (2, .ref (r 0)), (1, .ref (q 0)), (0, .ref b)] [.int v2]
  refine g_pop hk dL_law_1451 rfl ?_
  refine g_aload_n hk dL_law_1452 rfl ?_
  refine g_aload_n hk dL_law_1453 rfl ?_
  refine g_iload_n hk dL_law_1454 rfl ?_
  refine g_iconst (v := 1) hk dL_law_1455 (by decide) ?_
  refine g_iadd hk dL_law_1456 ?_
  refine g_topi (fun y4 ey4 => ?_)
  have qy4 : y4 = y1 := ey4.trans ey1.symm
  subst qy4
  refine g_sld (v := xs y4.toNatClampNeg) hk hX (vp_in_iff.mpr ⟨by omega, by omega⟩) rfl dL_law_1457 ?_
  refine g_callV (n := 1) hk (j217_X12_count l D zt r g J B M (xs y4.toNatClampNeg) hJ) (SP.pre _ _) (fun q h => List.mem_append_right _ h) (gi_V zw_1943 zw_1944 zw_1945 zw_115 (gi_sub zi_j217_X12_count zg_j217_X12_count)) rfl rfl rfl (by decide +kernel) ⟨Nat.le_of_ble_eq_true rfl, Nat.le_of_ble_eq_true rfl⟩ 0 rfl rfl rfl rfl (Nat.le_of_ble_eq_true rfl) ⟨Nat.le_of_ble_eq_true rfl, Nat.le_of_ble_eq_true rfl⟩ dL_law_1458 (fun v ty' w' hp hk' => ?_)
  obtain ⟨v5, e6, rfl, rfl⟩ := hp
  show GW κ 4 82 21282 (wX q d I A ++ wM r g J B M) 1461 [(3, .int i), (2, .ref (r 0)), (1, .ref (q 0)), (0, .ref b)] [.int v5]
  refine g_pop hk dL_law_1461 rfl ?_
  refine g_goto (tgt := 1465) hk dL_law_1462 (by decide) ?_
  exact tail I A J B M hI hJ ⟨⟨(RT.keep hS.1.1 rfl rfl rfl rfl rfl), hS.1.2.1, hS.1.2.2⟩, (hS.2.1.keep rfl rfl rfl rfl rfl rfl rfl rfl rfl rfl rfl rfl), (hS.2.2.1.keep rfl rfl rfl rfl rfl rfl rfl), (hS.2.2.2.keep rfl rfl rfl rfl rfl rfl rfl rfl rfl rfl rfl rfl rfl rfl)⟩
end
section
set_option maxHeartbeats 4000000 in
set_option maxRecDepth 100000 in
theorem law_loop {κ : Cx} {l : Launch} {D : va_G} {zt : Nat × Nat × Nat × (Nat → Nat) × (Nat → Nat)} {q r : Nat → Nat} {d g : Nat → ClassId} {b L : Nat} {xs : Nat → Int32} (hk : GC κ l D zt code 4 RL lw_tbl (tyX d ++ tyM g) room_1) (hX : GX κ b L xs) (hL : L ≤ 3072) (hret : ∀ (ws : va_W) (pc : Nat) (lv : List (Nat × Value)) (n1 n2 : Nat), n1 ≤ 600000 → n2 ≤ 7302249 → decode code pc = .ok (.ireturn, 1) → GW κ 4 n1 n2 ws pc lv [.int 1]) : ∀ (n : Nat) (i : Int32) (I : Nat → Int32) (A : Nat → Nat → Int32) (J : Nat → Int32) (B : Nat → Nat → Int32) (M : Nat → Nat → Int64), 0 ≤ i.toInt → i.toInt ≤ (L : Int) → (L : Int) - i.toInt < (n : Int) → IvX I A → IvM J B → RA I A J B M → GW κ 4 82 21282 (wX q d I A ++ wM r g J B M) 18 [(3, .int i), (2, .ref (r 0)), (1, .ref (q 0)), (0, .ref b)] [] := by
  intro n
  induction n with
  | zero => intro i I A J B M h0 h1 h2; exact absurd h2 (by omega)
  | succ n ih =>
    intro i I A J B M h0 h1 h2 hI hJ hS
    refine g_iload_n hk dL_law_18 rfl ?_
    refine g_aload_n hk dL_law_19 rfl ?_
    refine g_slen hk hX dL_law_20 ?_
    refine g_bipush (v := 6) hk dL_law_21 (by decide) ?_
    refine g_isub hk dL_law_23 ?_
    refine g_topi (fun y ey => ?_)
    have hy : y.toInt = (L : Int) - 6 := i32_sub ey (nI_toInt (by omega)) rfl (by omega) (by omega)
    refine g_icmp_gt (tgt := 1471) (a := i.toInt) (b := y.toInt) hk dL_law_24 (by decide) rfl rfl (fun c1 => ?_) (fun c1 => ?_)
    · refine g_iconst (v := 1) hk dL_law_1471 (by decide) ?_
      exact hret _ _ _ _ _ (Nat.le_of_ble_eq_true rfl) (Nat.le_of_ble_eq_true rfl) dL_law_1472
    have h6 : i.toInt + 6 ≤ (L : Int) := by omega
    have tail : ∀ (I : Nat → Int32) (A : Nat → Nat → Int32) (J : Nat → Int32) (B : Nat → Nat → Int32) (M : Nat → Nat → Int64), IvX I A → IvM J B → RA I A J B M → GW κ 4 82 21282 (wX q d I A ++ wM r g J B M) 1465 [(3, .int i), (2, .ref (r 0)), (1, .ref (q 0)), (0, .ref b)] [] := by
      intro I A J B M hI hJ hS
      obtain ⟨i6, e6⟩ : ∃ y : Int32, y = i + Int32.ofInt 6 := ⟨_, rfl⟩
      have g6 : i6.toInt = i.toInt + 6 := i32_add e6 rfl (by decide) (by omega) (by omega)
      refine g_iinc (v := i6) (lv' := [(3, .int i6), (2, .ref (r 0)), (1, .ref (q 0)), (0, .ref b)]) hk 0 dL_law_1465 rfl e6.symm (by decide) rfl ?_
      refine g_goto (tgt := 18) hk dL_law_1468 (by decide) ?_
      exact ih i6 I A J B M (by omega) (by omega) (by omega) hI hJ hS
    refine g_aload_n hk dL_law_27 rfl ?_
    refine g_iload_n hk dL_law_28 rfl ?_
    refine g_sld (v := xs i.toNatClampNeg) hk hX (vp_in_iff.mpr ⟨by omega, by omega⟩) rfl dL_law_29 ?_
    refine g_bipush (v := 63) hk dL_law_30 (by decide) ?_
    refine g_iand hk dL_law_32 ?_
    refine g_topi (fun z ez => ?_)
    by_cases c10 : z.toInt = 0
    · exact g_tabIn (tgt := 212) (a := 0) hk dL_law_33 c10 (by decide) (by decide) rfl (by decide) (law_0 hk hX i h0 h6 hL I A J B M hI hJ hS tail)
    by_cases c11 : z.toInt = 1
    · exact g_tabIn (tgt := 275) (a := 1) hk dL_law_33 c11 (by decide) (by decide) rfl (by decide) (law_1 hk hX i h0 h6 hL I A J B M hI hJ hS tail)
    by_cases c12 : z.toInt = 2
    · exact g_tabIn (tgt := 298) (a := 2) hk dL_law_33 c12 (by decide) (by decide) rfl (by decide) (law_2 hk hX i h0 h6 hL I A J B M hI hJ hS tail)
    by_cases c13 : z.toInt = 3
    · exact g_tabIn (tgt := 311) (a := 3) hk dL_law_33 c13 (by decide) (by decide) rfl (by decide) (law_3 hk hX i h0 h6 hL I A J B M hI hJ hS tail)
    by_cases c14 : z.toInt = 4
    · exact g_tabIn (tgt := 324) (a := 4) hk dL_law_33 c14 (by decide) (by decide) rfl (by decide) (law_4 hk hX i h0 h6 hL I A J B M hI hJ hS tail)
    by_cases c15 : z.toInt = 5
    · exact g_tabIn (tgt := 337) (a := 5) hk dL_law_33 c15 (by decide) (by decide) rfl (by decide) (law_5 hk hX i h0 h6 hL I A J B M hI hJ hS tail)
    by_cases c16 : z.toInt = 6
    · exact g_tabIn (tgt := 360) (a := 6) hk dL_law_33 c16 (by decide) (by decide) rfl (by decide) (law_6 hk hX i h0 h6 hL I A J B M hI hJ hS tail)
    by_cases c17 : z.toInt = 7
    · exact g_tabIn (tgt := 393) (a := 7) hk dL_law_33 c17 (by decide) (by decide) rfl (by decide) (law_7 hk hX i h0 h6 hL I A J B M hI hJ hS tail)
    by_cases c18 : z.toInt = 8
    · exact g_tabIn (tgt := 416) (a := 8) hk dL_law_33 c18 (by decide) (by decide) rfl (by decide) (law_8 hk hX i h0 h6 hL I A J B M hI hJ hS tail)
    by_cases c19 : z.toInt = 9
    · exact g_tabIn (tgt := 429) (a := 9) hk dL_law_33 c19 (by decide) (by decide) rfl (by decide) (law_9 hk hX i h0 h6 hL I A J B M hI hJ hS tail)
    by_cases c20 : z.toInt = 10
    · exact g_tabIn (tgt := 452) (a := 10) hk dL_law_33 c20 (by decide) (by decide) rfl (by decide) (law_10 hk hX i h0 h6 hL I A J B M hI hJ hS tail)
    by_cases c21 : z.toInt = 11
    · exact g_tabIn (tgt := 475) (a := 11) hk dL_law_33 c21 (by decide) (by decide) rfl (by decide) (law_11 hk hX i h0 h6 hL I A J B M hI hJ hS tail)
    by_cases c22 : z.toInt = 12
    · exact g_tabIn (tgt := 508) (a := 12) hk dL_law_33 c22 (by decide) (by decide) rfl (by decide) (law_12 hk hX i h0 h6 hL I A J B M hI hJ hS tail)
    by_cases c23 : z.toInt = 13
    · exact g_tabIn (tgt := 521) (a := 13) hk dL_law_33 c23 (by decide) (by decide) rfl (by decide) (law_13 hk hX i h0 h6 hL I A J B M hI hJ hS tail)
    by_cases c24 : z.toInt = 14
    · exact g_tabIn (tgt := 564) (a := 14) hk dL_law_33 c24 (by decide) (by decide) rfl (by decide) (law_14 hk hX i h0 h6 hL I A J B M hI hJ hS tail)
    by_cases c25 : z.toInt = 15
    · exact g_tabIn (tgt := 607) (a := 15) hk dL_law_33 c25 (by decide) (by decide) rfl (by decide) (law_15 hk hX i h0 h6 hL I A J B M hI hJ hS tail)
    by_cases c26 : z.toInt = 16
    · exact g_tabIn (tgt := 640) (a := 16) hk dL_law_33 c26 (by decide) (by decide) rfl (by decide) (law_16 hk hX i h0 h6 hL I A J B M hI hJ hS tail)
    by_cases c27 : z.toInt = 17
    · exact g_tabIn (tgt := 683) (a := 17) hk dL_law_33 c27 (by decide) (by decide) rfl (by decide) (law_17 hk hX i h0 h6 hL I A J B M hI hJ hS tail)
    by_cases c28 : z.toInt = 18
    · exact g_tabIn (tgt := 736) (a := 18) hk dL_law_33 c28 (by decide) (by decide) rfl (by decide) (law_18 hk hX i h0 h6 hL I A J B M hI hJ hS tail)
    by_cases c29 : z.toInt = 19
    · exact g_tabIn (tgt := 769) (a := 19) hk dL_law_33 c29 (by decide) (by decide) rfl (by decide) (law_19 hk hX i h0 h6 hL I A J B M hI hJ hS tail)
    by_cases c30 : z.toInt = 20
    · exact g_tabIn (tgt := 802) (a := 20) hk dL_law_33 c30 (by decide) (by decide) rfl (by decide) (law_20 hk hX i h0 h6 hL I A J B M hI hJ hS tail)
    by_cases c31 : z.toInt = 21
    · exact g_tabIn (tgt := 845) (a := 21) hk dL_law_33 c31 (by decide) (by decide) rfl (by decide) (law_21 hk hX i h0 h6 hL I A J B M hI hJ hS tail)
    by_cases c32 : z.toInt = 22
    · exact g_tabIn (tgt := 878) (a := 22) hk dL_law_33 c32 (by decide) (by decide) rfl (by decide) (law_22 hk hX i h0 h6 hL I A J B M hI hJ hS tail)
    by_cases c33 : z.toInt = 23
    · exact g_tabIn (tgt := 921) (a := 23) hk dL_law_33 c33 (by decide) (by decide) rfl (by decide) (law_23 hk hX i h0 h6 hL I A J B M hI hJ hS tail)
    by_cases c34 : z.toInt = 24
    · exact g_tabIn (tgt := 954) (a := 24) hk dL_law_33 c34 (by decide) (by decide) rfl (by decide) (law_24 hk hX i h0 h6 hL I A J B M hI hJ hS tail)
    by_cases c35 : z.toInt = 25
    · exact g_tabIn (tgt := 987) (a := 25) hk dL_law_33 c35 (by decide) (by decide) rfl (by decide) (law_25 hk hX i h0 h6 hL I A J B M hI hJ hS tail)
    by_cases c36 : z.toInt = 26
    · exact g_tabIn (tgt := 1030) (a := 26) hk dL_law_33 c36 (by decide) (by decide) rfl (by decide) (law_26 hk hX i h0 h6 hL I A J B M hI hJ hS tail)
    by_cases c37 : z.toInt = 27
    · exact g_tabIn (tgt := 1063) (a := 27) hk dL_law_33 c37 (by decide) (by decide) rfl (by decide) (law_27 hk hX i h0 h6 hL I A J B M hI hJ hS tail)
    by_cases c38 : z.toInt = 28
    · exact g_tabIn (tgt := 1096) (a := 28) hk dL_law_33 c38 (by decide) (by decide) rfl (by decide) (law_28 hk hX i h0 h6 hL I A J B M hI hJ hS tail)
    by_cases c39 : z.toInt = 29
    · exact g_tabIn (tgt := 1129) (a := 29) hk dL_law_33 c39 (by decide) (by decide) rfl (by decide) (law_29 hk hX i h0 h6 hL I A J B M hI hJ hS tail)
    by_cases c40 : z.toInt = 30
    · exact g_tabIn (tgt := 1172) (a := 30) hk dL_law_33 c40 (by decide) (by decide) rfl (by decide) (law_30 hk hX i h0 h6 hL I A J B M hI hJ hS tail)
    by_cases c41 : z.toInt = 31
    · exact g_tabIn (tgt := 1205) (a := 31) hk dL_law_33 c41 (by decide) (by decide) rfl (by decide) (law_31 hk hX i h0 h6 hL I A J B M hI hJ hS tail)
    by_cases c42 : z.toInt = 32
    · exact g_tabIn (tgt := 1238) (a := 32) hk dL_law_33 c42 (by decide) (by decide) rfl (by decide) (law_32 hk hX i h0 h6 hL I A J B M hI hJ hS tail)
    by_cases c43 : z.toInt = 33
    · exact g_tabIn (tgt := 1281) (a := 33) hk dL_law_33 c43 (by decide) (by decide) rfl (by decide) (law_33 hk hX i h0 h6 hL I A J B M hI hJ hS tail)
    by_cases c44 : z.toInt = 34
    · exact g_tabIn (tgt := 1304) (a := 34) hk dL_law_33 c44 (by decide) (by decide) rfl (by decide) (law_34 hk hX i h0 h6 hL I A J B M hI hJ hS tail)
    by_cases c45 : z.toInt = 35
    · exact g_tabIn (tgt := 1327) (a := 35) hk dL_law_33 c45 (by decide) (by decide) rfl (by decide) (law_35 hk hX i h0 h6 hL I A J B M hI hJ hS tail)
    by_cases c46 : z.toInt = 36
    · exact g_tabIn (tgt := 1350) (a := 36) hk dL_law_33 c46 (by decide) (by decide) rfl (by decide) (law_36 hk hX i h0 h6 hL I A J B M hI hJ hS tail)
    by_cases c47 : z.toInt = 37
    · exact g_tabIn (tgt := 1373) (a := 37) hk dL_law_33 c47 (by decide) (by decide) rfl (by decide) (law_37 hk hX i h0 h6 hL I A J B M hI hJ hS tail)
    by_cases c48 : z.toInt = 38
    · exact g_tabIn (tgt := 1396) (a := 38) hk dL_law_33 c48 (by decide) (by decide) rfl (by decide) (law_38 hk hX i h0 h6 hL I A J B M hI hJ hS tail)
    by_cases c49 : z.toInt = 39
    · exact g_tabIn (tgt := 1419) (a := 39) hk dL_law_33 c49 (by decide) (by decide) rfl (by decide) (law_39 hk hX i h0 h6 hL I A J B M hI hJ hS tail)
    by_cases c50 : z.toInt = 40
    · exact g_tabIn (tgt := 1442) (a := 40) hk dL_law_33 c50 (by decide) (by decide) rfl (by decide) (law_40 hk hX i h0 h6 hL I A J B M hI hJ hS tail)
    exact g_tabOut (tgt := 1465) (a := z.toInt) hk dL_law_33 rfl (by omega) (by decide) (tail I A J B M hI hJ hS)
theorem iv_X0 : IvX iX0 aX0 := ⟨⟨by decide, by decide⟩, ⟨by decide, by decide⟩, ⟨by decide, by decide⟩, ⟨by decide, by decide⟩, fun j => (show 0 ≤ (0 : Int32).toInt ∧ (0 : Int32).toInt ≤ 16 from ⟨by decide, by decide⟩), fun j => (show 0 ≤ (0 : Int32).toInt ∧ (0 : Int32).toInt ≤ 16 from ⟨by decide, by decide⟩), trivial⟩
set_option maxRecDepth 100000 in
theorem iv_M1 : IvM iM1 aM1 := ⟨⟨by decide, by decide⟩, ⟨by decide, by decide⟩, ⟨by decide, by decide⟩, ⟨by decide, by decide⟩, ⟨by decide, by decide⟩, ⟨by decide, by decide⟩, ⟨by decide, by decide⟩, ⟨by decide, by decide⟩, ⟨by decide, by decide⟩, ⟨by decide, by decide⟩, ⟨by decide, by decide⟩, ⟨by decide, by decide⟩, ⟨by decide, by decide⟩, fun j => (show 0 ≤ (0 : Int32).toInt ∧ (0 : Int32).toInt ≤ 16 from ⟨by decide, by decide⟩), fun j => (show 0 ≤ (0 : Int32).toInt ∧ (0 : Int32).toInt ≤ 159 from ⟨by decide, by decide⟩), ⟨by decide +kernel, by decide +kernel⟩, ⟨by decide +kernel, by decide +kernel⟩, ⟨by decide +kernel, by decide +kernel⟩, ⟨by decide +kernel, by decide +kernel⟩, ⟨by decide +kernel, by decide +kernel⟩, ⟨by decide +kernel, by decide +kernel⟩, ⟨fun _ => ghf_0 (by decide +kernel) (by decide +kernel), fun _ => ghf_0 (by decide +kernel) (by decide +kernel)⟩, Or.inr (Or.inr ⟨fun _ => ghf_0 (by decide +kernel) (by decide +kernel), fun _ => ghf_0 (by decide +kernel) (by decide +kernel)⟩), ⟨fun _ => by decide +kernel, fun _ => by decide +kernel⟩, fun j hj => absurd (show (j : Int) < (0 : Int32).toInt from hj) (by have : (0 : Int32).toInt = 0 := rfl; omega), fun s hs h => absurd (show (0 : Int32).toInt = 0 from rfl) h, trivial⟩
theorem lk_0 : ∀ k, k < 13 → (lM1 6 k).toInt = keyN.getD k 0 := by decide +kernel
theorem sl_0 (s : Nat) (h1 : (iX0 (23 + 2 * s)).toInt = 0) (h2 : (aM1 27 s).toInt = 0) : SL s iX0 aX0 aM1 := ⟨⟨fun h => absurd h1 h, fun h => absurd h2 h⟩, fun h => absurd h1 h⟩
theorem rt_0 : RA iX0 aX0 iM1 aM1 lM1 := ⟨⟨⟨⟨by decide +kernel, fun j hj => absurd (show (j : Int) < (0 : Int32).toInt from hj) (by have : (0 : Int32).toInt = 0 := rfl; omega)⟩, lk_0⟩, by decide +kernel, by decide +kernel⟩, ⟨0, 0, 0, by decide +kernel, by decide +kernel, by decide +kernel, by decide, by decide +kernel, by decide, ⟨by decide +kernel, by decide +kernel, by decide +kernel, fun i hi => absurd (show (i : Int) < (0 : Int32).toInt from hi) (by have : (0 : Int32).toInt = 0 := rfl; omega), ⟨by decide +kernel, by decide +kernel, by decide +kernel⟩, ⟨by decide +kernel, by decide +kernel, by decide +kernel⟩, ⟨by decide +kernel, by decide +kernel, by decide +kernel⟩, ⟨by decide +kernel, by decide +kernel, by decide +kernel⟩⟩, trivial⟩, ⟨0, 0, by decide +kernel, by decide, by decide +kernel, by decide +kernel, by decide, fun q hq => absurd hq (by omega)⟩, ⟨sl_0 0 (by decide +kernel) (by decide +kernel), sl_0 1 (by decide +kernel) (by decide +kernel), sl_0 2 (by decide +kernel) (by decide +kernel)⟩⟩
set_option maxHeartbeats 4000000 in
set_option maxRecDepth 100000 in
theorem m1_pack {h0 : Nat} {v : Option Value} {ty' : Tys} {w' : va_W} (hp : ∃ (q1 : Nat), ∃ (q4 : Nat), ∃ (d5 : ClassId), ∃ (q6 : Nat), ∃ (q33 : Nat), ∃ (q34 : Nat), ∃ (d35 : ClassId), ∃ (q36 : Nat), ∃ (q37 : Nat), ∃ (d38 : ClassId), ∃ (q39 : Nat), ∃ (q40 : Nat), ∃ (d41 : ClassId), ∃ (q42 : Nat), ∃ (d43 : ClassId), ∃ (q44 : Nat), ∃ (d45 : ClassId), ∃ (q46 : Nat), ∃ (d47 : ClassId), ∃ (q48 : Nat), ∃ (q51 : Nat), ∃ (d52 : ClassId), ∃ (q53 : Nat), ∃ (q58 : Nat), ∃ (d59 : ClassId), ∃ (q60 : Nat), ∃ (d61 : ClassId), ∃ (q62 : Nat), ∃ (q65 : Nat), ∃ (d66 : ClassId), ∃ (q67 : Nat), ∃ (q74 : Nat), ∃ (d75 : ClassId), ∃ (q76 : Nat), ∃ (d77 : ClassId), ∃ (q78 : Nat), ∃ (d79 : ClassId), ∃ (q80 : Nat), ∃ (d81 : ClassId), ∃ (q82 : Nat), ∃ (q90 : Nat), ∃ (d91 : ClassId), ∃ (q92 : Nat), ∃ (q93 : Nat), ∃ (d94 : ClassId), ∃ (q95 : Nat), ∃ (q103 : Nat), ∃ (d104 : ClassId), ∃ (q105 : Nat), ∃ (q106 : Nat), ∃ (d107 : ClassId), ∃ (q108 : Nat), ∃ (q116 : Nat), ∃ (d117 : ClassId), ∃ (q118 : Nat), ∃ (q119 : Nat), ∃ (d120 : ClassId), ∃ (q121 : Nat), ∃ (q139 : Nat), ∃ (q140 : Nat), ∃ (d141 : ClassId), ∃ (q142 : Nat), ∃ (d143 : ClassId), ∃ (q144 : Nat), ∃ (d145 : ClassId), ∃ (q146 : Nat), ∃ (d147 : ClassId), ∃ (q148 : Nat), ∃ (q159 : Nat), ∃ (d160 : ClassId), ∃ (q161 : Nat), ∃ (d162 : ClassId), ∃ (q163 : Nat), ∃ (d164 : ClassId), ∃ (q165 : Nat), ∃ (d166 : ClassId), ∃ (q167 : Nat), ∃ (d168 : ClassId), ∃ (q169 : Nat), ∃ (q174 : Nat), ∃ (d175 : ClassId), ∃ (q176 : Nat), ∃ (d177 : ClassId), v = none ∧ ty' = [(d5, .int), (d35, .int), (d38, .int), (d41, .int), (d43, .int), (d45, .int), (d47, .int), (d52, .int), (d59, .int), (d61, .int), (d66, .int), (d75, .int), (d77, .int), (d79, .int), (d81, .object RX8), (d91, .int), (d94, .int), (d104, .int), (d107, .int), (d117, .int), (d120, .int), (d141, .int), (d143, .int), (d145, .int), (d147, .int), (d160, .int), (d162, .int), (d164, .int), (d166, .int), (d168, .boolean), (d175, .int), (d177, .boolean)] ∧ w' = [(h0, .inr (11, [.ref q1, .ref q6, .ref q48, .ref q53, .ref q62, .ref q67, .ref q80, .ref q121, .ref q148, .ref q169])), (q1, .inr (10, [.ref q4, .int 0, .int 0, .int 0, .int 0, .int 0, .int 0])), (q4, .inl (d5, 2000, .inl (fun _ => 0))), (q6, .inr (5, [.ref q1, .ref q33, .ref q39, .ref q44, .ref q46, .int 0, .int 0, .int 0, .int (-2), .int 0, .int 0, .int (-1), .int (-1)])), (q33, .inr (8, [.ref q34, .int 0, .ref q36, .int 0])), (q34, .inl (d35, 160, .inl (fun _ => 0))), (q36, .inr (7, [.ref q37])), (q37, .inl (d38, 4, .inl unI)), (q39, .inr (4, [.ref q40, .ref q42, .int 0])), (q40, .inl (d41, 80, .inl (fun _ => 0))), (q42, .inl (d43, 5, .inl (fun _ => 0))), (q44, .inl (d45, 5, .inl (fun _ => 0))), (q46, .inl (d47, 5, .inl (fun _ => 0))), (q48, .inr (6, [.ref q51, .int 0, .int 0])), (q51, .inl (d52, 256, .inl (fun _ => 0))), (q53, .inr (4, [.ref q58, .ref q60, .int 0])), (q58, .inl (d59, 80, .inl (fun _ => 0))), (q60, .inl (d61, 5, .inl (fun _ => 0))), (q62, .inr (7, [.ref q65])), (q65, .inl (d66, 4, .inl unI)), (q67, .inr (3, [.ref q74, .ref q76, .ref q78, .int 0, .int 0])), (q74, .inl (d75, 40, .inl (fun _ => 0))), (q76, .inl (d77, 40, .inl (fun _ => 0))), (q78, .inl (d79, 40, .inl (fun _ => 0))), (q80, .inl (d81, 3, .inr (.inr (.inr (.inr (va_up (va_up (va_up (fun _ => none) 0 (some q82)) 1 (some q95)) 2 (some q108))))))), (q82, .inr (8, [.ref q90, .int 0, .ref q92, .int 0])), (q90, .inl (d91, 160, .inl (fun _ => 0))), (q92, .inr (7, [.ref q93])), (q93, .inl (d94, 4, .inl unI)), (q95, .inr (8, [.ref q103, .int 0, .ref q105, .int 0])), (q103, .inl (d104, 160, .inl (fun _ => 0))), (q105, .inr (7, [.ref q106])), (q106, .inl (d107, 4, .inl unI)), (q108, .inr (8, [.ref q116, .int 0, .ref q118, .int 0])), (q116, .inl (d117, 160, .inl (fun _ => 0))), (q118, .inr (7, [.ref q119])), (q119, .inl (d120, 4, .inl unI)), (q121, .inr (0, [.ref q48, .ref q53, .ref q62, .ref q139, .int 0])), (q139, .inr (2, [.ref q140, .ref q142, .ref q144, .ref q146, .int 0, .int 1, .int 0, .int 0, .int 0, .int 0])), (q140, .inl (d141, 16, .inl (fun _ => 0))), (q142, .inl (d143, 16, .inl (fun _ => 0))), (q144, .inl (d145, 256, .inl (fun _ => 0))), (q146, .inl (d147, 32, .inl (fun _ => 0))), (q148, .inr (1, [.ref q121, .ref q48, .ref q53, .ref q159, .int 0, .int 0, .ref q161, .ref q163, .ref q165, .int 0, .ref q167])), (q159, .inl (d160, 9, .inl (fun _ => 0))), (q161, .inl (d162, 160, .inl (fun _ => 0))), (q163, .inl (d164, 160, .inl (fun _ => 0))), (q165, .inl (d166, 160, .inl (fun _ => 0))), (q167, .inl (d168, 160, .inl (fun _ => 0))), (q169, .inr (9, [.ref q121, .ref q139, .ref q174, .ref q176, .int 0, .int 0, .int 0, .int 0, .int 0, .int 0, .int 0])), (q174, .inl (d175, 2560, .inl (fun _ => 0))), (q176, .inl (d177, 160, .inl (fun _ => 0)))]) : ∃ (q : Nat → Nat) (d : Nat → ClassId), q 0 = h0 ∧ v = none ∧ ty' = tyX d ∧ w' = wX q d iX0 aX0 :=
  hp.elim fun q1 hp => hp.elim fun q4 hp => hp.elim fun d5 hp => hp.elim fun q6 hp => hp.elim fun q33 hp => hp.elim fun q34 hp => hp.elim fun d35 hp => hp.elim fun q36 hp => hp.elim fun q37 hp => hp.elim fun d38 hp => hp.elim fun q39 hp => hp.elim fun q40 hp => hp.elim fun d41 hp => hp.elim fun q42 hp => hp.elim fun d43 hp => hp.elim fun q44 hp => hp.elim fun d45 hp => hp.elim fun q46 hp => hp.elim fun d47 hp => hp.elim fun q48 hp => hp.elim fun q51 hp => hp.elim fun d52 hp => hp.elim fun q53 hp => hp.elim fun q58 hp => hp.elim fun d59 hp => hp.elim fun q60 hp => hp.elim fun d61 hp => hp.elim fun q62 hp => hp.elim fun q65 hp => hp.elim fun d66 hp => hp.elim fun q67 hp => hp.elim fun q74 hp => hp.elim fun d75 hp => hp.elim fun q76 hp => hp.elim fun d77 hp => hp.elim fun q78 hp => hp.elim fun d79 hp => hp.elim fun q80 hp => hp.elim fun d81 hp => hp.elim fun q82 hp => hp.elim fun q90 hp => hp.elim fun d91 hp => hp.elim fun q92 hp => hp.elim fun q93 hp => hp.elim fun d94 hp => hp.elim fun q95 hp => hp.elim fun q103 hp => hp.elim fun d104 hp => hp.elim fun q105 hp => hp.elim fun q106 hp => hp.elim fun d107 hp => hp.elim fun q108 hp => hp.elim fun q116 hp => hp.elim fun d117 hp => hp.elim fun q118 hp => hp.elim fun q119 hp => hp.elim fun d120 hp => hp.elim fun q121 hp => hp.elim fun q139 hp => hp.elim fun q140 hp => hp.elim fun d141 hp => hp.elim fun q142 hp => hp.elim fun d143 hp => hp.elim fun q144 hp => hp.elim fun d145 hp => hp.elim fun q146 hp => hp.elim fun d147 hp => hp.elim fun q148 hp => hp.elim fun q159 hp => hp.elim fun d160 hp => hp.elim fun q161 hp => hp.elim fun d162 hp => hp.elim fun q163 hp => hp.elim fun d164 hp => hp.elim fun q165 hp => hp.elim fun d166 hp => hp.elim fun q167 hp => hp.elim fun d168 hp => hp.elim fun q169 hp => hp.elim fun q174 hp => hp.elim fun d175 hp => hp.elim fun q176 hp => hp.elim fun d177 hp => ⟨fun k => ([h0, q1, q4, q6, q33, q34, q36, q37, q39, q40, q42, q44, q46, q48, q51, q53, q58, q60, q62, q65, q67, q74, q76, q78, q80, q82, q90, q92, q93, q95, q103, q105, q106, q108, q116, q118, q119, q121, q139, q140, q142, q144, q146, q148, q159, q161, q163, q165, q167, q169, q174, q176] : List Nat).getD k 0, fun k => ([d5, d35, d38, d41, d43, d45, d47, d52, d59, d61, d66, d75, d77, d79, d81, d91, d94, d104, d107, d117, d120, d141, d143, d145, d147, d160, d162, d164, d166, d168, d175, d177] : List ClassId).getD k d5, rfl, hp.1, hp.2.1, hp.2.2⟩
set_option maxHeartbeats 4000000 in
set_option maxRecDepth 100000 in
theorem law_walk {κ : Cx} {l : Launch} {D : va_G} {zt : Nat × Nat × Nat × (Nat → Nat) × (Nat → Nat)} {b L : Nat} {xs : Nat → Int32} (hk : GC κ l D zt code 4 RL lw_tbl [] room_1) (hX : GX κ b L xs) (hL : L ≤ 3072) (hret : ∀ (ws : va_W) (pc : Nat) (lv : List (Nat × Value)) (n1 n2 : Nat), n1 ≤ 600000 → n2 ≤ 7302249 → decode code pc = .ok (.ireturn, 1) → GW κ 4 n1 n2 ws pc lv [.int 1]) : GW κ 4 0 0 [] 0 [(0, .ref b)] [] := by
  refine g_new (ci := 11) (fs := [.null, .null, .null, .null, .null, .null, .null, .null, .null, .null]) hk inX11 tyX11 tyX11_ok zw_121 zw_122 zw_103 rfl (fun j hj => by rcases (show j = 0 ∨ j = 1 ∨ j = 2 ∨ j = 3 ∨ j = 4 ∨ j = 5 ∨ j = 6 ∨ j = 7 ∨ j = 8 ∨ j = 9 by omega) with rfl | rfl | rfl | rfl | rfl | rfl | rfl | rfl | rfl | rfl <;> rfl) (Nat.le_of_ble_eq_true rfl) (Nat.le_of_ble_eq_true rfl) dL_law_0 (fun h0 => ?_)
  show GW κ 4 1 10 [(h0, .inr (11, [.null, .null, .null, .null, .null, .null, .null, .null, .null, .null]))] 3 [(0, .ref b)] [.ref h0]
  refine g_dup hk dL_law_3 rfl ?_
  refine g_callI (n := 0) hk (m1_X11_init l D zt h0) (SP.same _) (fun _ h => absurd h List.not_mem_nil) (gi_sub zi_m1_X11_init zg_m1_X11_init) rfl rfl rfl zw_103 zw_123 zw_124 rfl (by decide +kernel) ⟨Nat.le_of_ble_eq_true rfl, Nat.le_of_ble_eq_true rfl⟩ rfl rfl (Nat.le_of_ble_eq_true rfl) ⟨Nat.le_of_ble_eq_true rfl, Nat.le_of_ble_eq_true rfl⟩ dL_law_4 (fun v ty' w' hp hk' => ?_)
  obtain ⟨q, d, hq0, rfl, rfl, rfl⟩ := m1_pack hp
  subst hq0
  show GW κ 4 52 7010 (wX q d iX0 aX0) 7 [(0, .ref b)] [.ref (q 0)]
  have hk : GC κ l D zt code 4 RL lw_tbl (tyX d) room_1 := hk'
  refine g_astore_n (lv' := [(1, .ref (q 0)), (0, .ref b)]) hk dL_law_7 (by decide) rfl ?_
  refine g_new (ci := 12) (fs := [.int 0, .null, .int 0, .null, .int 0, .null, .null, .null, .null, .null, .int 0, .int 0, .int 0, .int 0, .int 0, .int 0, .int 0, .int 0, .int 0, .int 0, .int 0, .int 0, .int 0, .int 0, .int 0, .null, .null, .null, .null, .null, .null, .null, .null, .null, .null, .null, .null, .int 0, .null, .null, .null, .int 0, .int 0, .int 0, .int 0, .null, .null, .int 0, .null, .null, .int 0, .null, .int 0, .null, .null]) hk inX12 tyX12 tyX12_ok zw_1355 zw_1356 zw_115 rfl (fun j hj => by rcases (show j = 0 ∨ j = 1 ∨ j = 2 ∨ j = 3 ∨ j = 4 ∨ j = 5 ∨ j = 6 ∨ j = 7 ∨ j = 8 ∨ j = 9 ∨ j = 10 ∨ j = 11 ∨ j = 12 ∨ j = 13 ∨ j = 14 ∨ j = 15 ∨ j = 16 ∨ j = 17 ∨ j = 18 ∨ j = 19 ∨ j = 20 ∨ j = 21 ∨ j = 22 ∨ j = 23 ∨ j = 24 ∨ j = 25 ∨ j = 26 ∨ j = 27 ∨ j = 28 ∨ j = 29 ∨ j = 30 ∨ j = 31 ∨ j = 32 ∨ j = 33 ∨ j = 34 ∨ j = 35 ∨ j = 36 ∨ j = 37 ∨ j = 38 ∨ j = 39 ∨ j = 40 ∨ j = 41 ∨ j = 42 ∨ j = 43 ∨ j = 44 ∨ j = 45 ∨ j = 46 ∨ j = 47 ∨ j = 48 ∨ j = 49 ∨ j = 50 ∨ j = 51 ∨ j = 52 ∨ j = 53 ∨ j = 54 by omega) with rfl | rfl | rfl | rfl | rfl | rfl | rfl | rfl | rfl | rfl | rfl | rfl | rfl | rfl | rfl | rfl | rfl | rfl | rfl | rfl | rfl | rfl | rfl | rfl | rfl | rfl | rfl | rfl | rfl | rfl | rfl | rfl | rfl | rfl | rfl | rfl | rfl | rfl | rfl | rfl | rfl | rfl | rfl | rfl | rfl | rfl | rfl | rfl | rfl | rfl | rfl | rfl | rfl | rfl | rfl <;> rfl) (Nat.le_of_ble_eq_true rfl) (Nat.le_of_ble_eq_true rfl) dL_law_8 (fun h1 => ?_)
  show GW κ 4 53 7065 (wX q d iX0 aX0 ++ [(h1, .inr (12, [.int 0, .null, .int 0, .null, .int 0, .null, .null, .null, .null, .null, .int 0, .int 0, .int 0, .int 0, .int 0, .int 0, .int 0, .int 0, .int 0, .int 0, .int 0, .int 0, .int 0, .int 0, .int 0, .null, .null, .null, .null, .null, .null, .null, .null, .null, .null, .null, .null, .int 0, .null, .null, .null, .int 0, .int 0, .int 0, .int 0, .null, .null, .int 0, .null, .null, .int 0, .null, .int 0, .null, .null]))]) 11 [(1, .ref (q 0)), (0, .ref b)] [.ref h1]
  refine g_dup hk dL_law_11 rfl ?_
  refine g_callI (n := 0) hk (m21_X12_init l D zt h1) (SP.suf (wX q d iX0 aX0) _) (fun _ h => absurd h List.not_mem_nil) (gi_sub zi_m21_X12_init zg_m21_X12_init) rfl rfl rfl zw_115 zw_1357 zw_1358 rfl (by decide +kernel) ⟨Nat.le_of_ble_eq_true rfl, Nat.le_of_ble_eq_true rfl⟩ rfl rfl (Nat.le_of_ble_eq_true rfl) ⟨Nat.le_of_ble_eq_true rfl, Nat.le_of_ble_eq_true rfl⟩ dL_law_12 (fun v ty' w' hp hk' => ?_)
  obtain ⟨r, g, hr0, rfl, rfl, rfl⟩ := hp
  subst hr0
  show GW κ 4 82 21282 (wX q d iX0 aX0 ++ wM r g iM1 aM1 lM1) 15 [(1, .ref (q 0)), (0, .ref b)] [.ref (r 0)]
  have hk : GC κ l D zt code 4 RL lw_tbl (tyX d ++ tyM g) room_1 := hk'
  refine g_astore_n (lv' := [(2, .ref (r 0)), (1, .ref (q 0)), (0, .ref b)]) hk dL_law_15 (by decide) rfl ?_
  refine g_iconst (v := 0) hk dL_law_16 (by decide) ?_
  refine g_istore_n (lv' := [(3, .int 0), (2, .ref (r 0)), (1, .ref (q 0)), (0, .ref b)]) hk dL_law_17 (by decide) rfl ?_
  exact law_loop hk hX hL hret 3073 0 iX0 aX0 iM1 aM1 lM1 (by decide) (by show (0 : Int) ≤ (L : Int); omega) (by show (L : Int) - 0 < _; omega) iv_X0 iv_M1 rt_0
end
section
theorem cf_l {a b c : Cond} (h : c ∈ flatC a) : c ∈ flatC (.and a b) := by
  show c ∈ flatC a ++ flatC b
  exact List.mem_append_left _ h
theorem cf_r {a b c : Cond} (h : c ∈ flatC b) : c ∈ flatC (.and a b) := by
  show c ∈ flatC a ++ flatC b
  exact List.mem_append_right _ h
theorem cf_s {c : Cond} (h : flatC c = [c]) : c ∈ flatC c := by
  rw [h]
  exact List.mem_cons_self
theorem len_lt {args : Array Value} {s : State} {t : Term} {v : Value} {a : Addr} {cell : Cell} (hv : (Term.length t).eval args s none [] s = some v) (ht : t.eval args s none [] s = some (.ref a)) (harr : s.arrayAt? a = some cell) : cell.slots.size < 2147483648 := by
  simp only [Term.eval, ht, harr, Option.bind_eq_bind, Option.bind_some] at hv
  by_cases hlt : cell.slots.size < 2147483648
  · exact hlt
  · simp [hlt] at hv
/-! THE CLAIM OUT OF ONE WALK OF THE LAW'S BODY. Your part is whole_start (and what it stands on); all else here is the same for every law, but numbers. -/
def R_law : String := "WarpDeskLaw"
def lw_P (b : Addr) (xs : List Int32) (args : Array Value) (s : State) : Prop := args = #[.ref b] ∧ s.IntsAt b xs ∧ xs.length ≤ 3072 ∧ (Jvm.Cond.and given_1 narrow_1).before args s = true
def lw_Q (_ : Array Value) (s : State) (o : Outcome) (t : State) : Prop := o = .returned (some (.int 1)) ∧ Framed s o t [] 600000 7302249
def lw_Z (below : List Frame) (a : Array Value) (s : State) : State → Prop := fun t => ∃ o, t.status = .running ∧ Ended t below o ∧ lw_Q a s o t
/-- the law's own end, with 1 on the stack, nothing written that was there before, its room as the claim has it -/
theorem lw_ret {p : Program} {l : Launch} {e : Env} {s : State} {m : MethodId} {below : List Frame} {meth : Method} {c : Code} {b : Nat} (hx : p.tables.exec = Jvm.exec) (hb : c.code = code) (hr : meth.sig.returnType = ret) (hlocks : meth.locks = false) {pc : Nat} {H : Heap} {ls : Array Slot} (hdg : decode code pc = .ok (.ireturn, 1)) : W p l e room_1 s m #[Value.ref b] below meth c H [] 600000 7302249 (lw_Z below #[Value.ref b] s) (F0 m pc ls [.int 1]) := by
  intro T hT X
  obtain ⟨fs, hret, hrun, hended, hW, hframe⟩ := X.leave (v := some (.int 1)) (hlocks := hlocks) (fun h => by rw [hr] at h; cases h)
  have hmeth' : T.vm.method? m = some meth := X.method'
  refine ⟨T.setFrames fs, ?_, .returned (some (.int 1)), hrun, hended, rfl, ⟨_, rfl⟩, hW, hframe⟩
  jvm_step X.here [X.here.top, hx, hb, hdg, hmeth', hr, ret, narrow_b1]
  (try refine ⟨rfl, ?_⟩); (try refine ⟨rfl, ?_⟩)
  first | (intro acts; rw [hret _ acts rfl rfl rfl]) | rw [hret _ _ rfl rfl rfl]
  exact Steps.refl _
/-- what holds at the law's entry: the machine, the code, the tables' words (any of lw_tbl by 'hts w (by decide +kernel)'), the script of L ints xs at the cell b, what the Statement gives of the start (any of its parts by flat_of_before) -/
def lw_At (p : Program) (s : State) (m : MethodId) (meth : Method) (c : Code) (b L : Nat) (xs : Nat → Int32) : Prop :=
  p.tables.exec = Jvm.exec ∧ c.code = code ∧ meth.sig.returnType = ret ∧ c.maxLocals = 4 ∧ s.vm.findClass R_law = some m.cls ∧ (∀ w ∈ lw_tbl, w.before #[Value.ref b] s = true) ∧ va_X b L xs s s.heap ∧ b < s.heap.size ∧ meth.locks = false ∧ (Jvm.Cond.and given_1 narrow_1).before #[Value.ref b] s = true
-- ===== YOUR PART BEGINS =====
set_option maxHeartbeats 4000000 in
set_option maxRecDepth 100000 in
/-- YOUR PART: from the entry, for every script of at most 3072 ints, the law comes to its end with true ('hflags': the launch's flags, for a law that throws: no stack traces) -/
theorem whole_start {p : Program} {e : Env} {s : State} {m : MethodId} {below : List Frame} {meth : Method} {c : Code} (l : Launch) (hflags : l.flags = flags0) {b L : Nat} {xs : Nat → Int32} (hL : L ≤ 3072) (C0 : lw_At p s m meth c b L xs) : W p l e room_1 s m #[Value.ref b] below meth c s.heap [] 0 0 (lw_Z below #[Value.ref b] s) (entryFrame m ([Value.ref b] : List Value).toArray 4) := by
  obtain ⟨hx, hb, hr, hml, hown, hts, hX, hbl, hlocks, hgv⟩ := id C0
  have hA' : ∀ a : Nat, a < s.heap.size → ¬ (fun q : Nat => s.heap.size ≤ q) a := fun a h => Nat.not_le.mpr h
  have hs := flat_of_before _ hgv
  obtain ⟨c0, iS0, hKn0⟩ := u_known (C := RX0) (T := TX0) (N := 5) (n := 5) hts inX0 (hts (.instantiable RX0 5) (ub_1_9 (List.mem_of_getElem? (i := 5) rfl)))
  obtain ⟨c1, iS1, hKn1⟩ := u_known (C := RX1) (T := TX1) (N := 11) (n := 11) hts inX1 (hts (.instantiable RX1 11) (ub_2_2 (List.mem_of_getElem? (i := 7) rfl)))
  obtain ⟨c2, iS2, hKn2⟩ := u_known (C := RX2) (T := TX2) (N := 10) (n := 10) hts inX2 (hts (.instantiable RX2 10) (ub_1_9 (List.mem_of_getElem? (i := 11) rfl)))
  obtain ⟨c3, iS3, hKn3⟩ := u_known (C := RX3) (T := TX3) (N := 5) (n := 5) hts inX3 (hts (.instantiable RX3 5) (ub_1_8 (List.mem_of_getElem? (i := 3) rfl)))
  obtain ⟨c4, iS4, hKn4⟩ := u_known (C := RX4) (T := TX4) (N := 3) (n := 3) hts inX4 (hts (.instantiable RX4 3) (ub_1_4 (List.mem_of_getElem? (i := 14) rfl)))
  obtain ⟨c5, iS5, hKn5⟩ := u_known (C := RX5) (T := TX5) (N := 13) (n := 13) hts inX5 (hts (.instantiable RX5 13) (ub_1_2 (List.mem_of_getElem? (i := 14) rfl)))
  obtain ⟨c6, iS6, hKn6⟩ := u_known (C := RX6) (T := TX6) (N := 3) (n := 3) hts inX6 (hts (.instantiable RX6 3) (ub_1_7 (List.mem_of_getElem? (i := 5) rfl)))
  obtain ⟨c7, iS7, hKn7⟩ := u_known (C := RX7) (T := TX7) (N := 1) (n := 1) hts inX7 (hts (.instantiable RX7 1) (ub_1_3 (List.mem_of_getElem? (i := 2) rfl)))
  obtain ⟨c8, iS8, hKn8⟩ := u_known (C := RX8) (T := TX8) (N := 4) (n := 4) hts inX8 (hts (.instantiable RX8 4) (ub_1_2 (List.mem_of_getElem? (i := 20) rfl)))
  obtain ⟨c9, iS9, hKn9⟩ := u_known (C := RX9) (T := TX9) (N := 11) (n := 11) hts inX9 (hts (.instantiable RX9 11) (ub_2_4 (List.mem_of_getElem? (i := 3) rfl)))
  obtain ⟨c10, iS10, hKn10⟩ := u_known (C := RX10) (T := TX10) (N := 7) (n := 7) hts inX10 (hts (.instantiable RX10 7) (ub_1_1 (List.mem_of_getElem? (i := 4) rfl)))
  obtain ⟨c11, iS11, hKn11⟩ := u_known (C := RX11) (T := TX11) (N := 10) (n := 10) hts inX11 (hts (.instantiable RX11 10) (ub_1_0 (List.mem_of_getElem? (i := 20) rfl)))
  obtain ⟨c12, iS12, hKn12⟩ := u_known (C := RX12) (T := TX12) (N := 55) (n := 55) hts inX12 (hts (.instantiable RX12 55) (ub_6_2 (List.mem_of_getElem? (i := 6) rfl)))
  obtain ⟨dC, dI, hKc⟩ : ∃ (dC : Nat → ClassId) (dI : Nat → Nat → Nat), ∀ (k : Nat) (q : vw_C), vwCl[k]? = some q → u_Kn s q.1 q.2.1 q.2.2 (dC k) (dI k) := by
    refine ⟨fun k => ([c0, c1, c2, c3, c4, c5, c6, c7, c8, c9, c10, c11, c12] : List ClassId).getD k c0, fun k => ([iS0, iS1, iS2, iS3, iS4, iS5, iS6, iS7, iS8, iS9, iS10, iS11, iS12] : List (Nat → Nat)).getD k iS0, ?_⟩
    intro k q hq
    match k, hq with
    | 0, hq => cases hq; exact hKn0
    | 1, hq => cases hq; exact hKn1
    | 2, hq => cases hq; exact hKn2
    | 3, hq => cases hq; exact hKn3
    | 4, hq => cases hq; exact hKn4
    | 5, hq => cases hq; exact hKn5
    | 6, hq => cases hq; exact hKn6
    | 7, hq => cases hq; exact hKn7
    | 8, hq => cases hq; exact hKn8
    | 9, hq => cases hq; exact hKn9
    | 10, hq => cases hq; exact hKn10
    | 11, hq => cases hq; exact hKn11
    | 12, hq => cases hq; exact hKn12
    | k + 13, hq => simp [vwCl] at hq
  obtain ⟨t0, ht0, hTt0⟩ := va_Tof (args := #[Value.ref b]) (s := s) (tm := .static "WarpDesk$Settings" "LOWEST" "[I") (ty := .int) (N := 4) (f := zLow) (A := fun q : Nat => s.heap.size ≤ q) (by decide) (hs _ (by decide +kernel)) (va_eqt (z := 4) (hs _ (by decide +kernel))) (fun j hj => by
    rcases (show j = 0 ∨ j = 1 ∨ j = 2 ∨ j = 3 by omega) with rfl | rfl | rfl | rfl
    · exact va_eqt (z := 0) (hs (.eq (.elem (.static "WarpDesk$Settings" "LOWEST" "[I") (.int 0)) (.int 0)) (cf_r (cf_l (cf_l (cf_l (cf_r (cf_l (cf_r (cf_l (cf_l (cf_s rfl)))))))))))
    · exact va_eqt (z := 0) (hs (.eq (.elem (.static "WarpDesk$Settings" "LOWEST" "[I") (.int 1)) (.int 0)) (cf_r (cf_l (cf_l (cf_l (cf_r (cf_l (cf_r (cf_l (cf_r (cf_s rfl)))))))))))
    · exact va_eqt (z := 0) (hs (.eq (.elem (.static "WarpDesk$Settings" "LOWEST" "[I") (.int 2)) (.int 0)) (cf_r (cf_l (cf_l (cf_l (cf_r (cf_l (cf_r (cf_r (cf_l (cf_s rfl)))))))))))
    · exact va_eqt (z := 1) (hs (.eq (.elem (.static "WarpDesk$Settings" "LOWEST" "[I") (.int 3)) (.int 1)) (cf_r (cf_l (cf_l (cf_l (cf_r (cf_l (cf_r (cf_r (cf_r (cf_s rfl)))))))))))) hA'
  have hZt0 : va_Z "WarpDesk$Settings" "LOWEST" "[I" (.ref t0) (fun q : Nat => s.heap.size ≤ q) s s.heap := va_Zof (hts (.laysStatic "WarpDesk$Settings" "LOWEST" "[I") (ub_3_6 (List.mem_of_getElem? (i := 0) rfl))) (hts (.initialized "WarpDesk$Settings") (ub_1_0 (List.mem_of_getElem? (i := 5) rfl))) ht0 hA'
  obtain ⟨t1, ht1, hTt1⟩ := va_Tof (args := #[Value.ref b]) (s := s) (tm := .static "WarpDesk$Settings" "HIGHEST" "[I") (ty := .int) (N := 4) (f := zHigh) (A := fun q : Nat => s.heap.size ≤ q) (by decide) (hs _ (by decide +kernel)) (va_eqt (z := 4) (hs _ (by decide +kernel))) (fun j hj => by
    rcases (show j = 0 ∨ j = 1 ∨ j = 2 ∨ j = 3 by omega) with rfl | rfl | rfl | rfl
    · exact va_eqt (z := 15) (hs (.eq (.elem (.static "WarpDesk$Settings" "HIGHEST" "[I") (.int 0)) (.int 15)) (cf_r (cf_l (cf_l (cf_l (cf_r (cf_r (cf_r (cf_l (cf_l (cf_s rfl)))))))))))
    · exact va_eqt (z := 3) (hs (.eq (.elem (.static "WarpDesk$Settings" "HIGHEST" "[I") (.int 1)) (.int 3)) (cf_r (cf_l (cf_l (cf_l (cf_r (cf_r (cf_r (cf_l (cf_r (cf_s rfl)))))))))))
    · exact va_eqt (z := 1) (hs (.eq (.elem (.static "WarpDesk$Settings" "HIGHEST" "[I") (.int 2)) (.int 1)) (cf_r (cf_l (cf_l (cf_l (cf_r (cf_r (cf_r (cf_r (cf_l (cf_s rfl)))))))))))
    · exact va_eqt (z := 99) (hs (.eq (.elem (.static "WarpDesk$Settings" "HIGHEST" "[I") (.int 3)) (.int 99)) (cf_r (cf_l (cf_l (cf_l (cf_r (cf_r (cf_r (cf_r (cf_r (cf_s rfl)))))))))))) hA'
  have hZt1 : va_Z "WarpDesk$Settings" "HIGHEST" "[I" (.ref t1) (fun q : Nat => s.heap.size ≤ q) s s.heap := va_Zof (hts (.laysStatic "WarpDesk$Settings" "HIGHEST" "[I") (ub_3_6 (List.mem_of_getElem? (i := 2) rfl))) (hts (.initialized "WarpDesk$Settings") (ub_1_0 (List.mem_of_getElem? (i := 5) rfl))) ht1 hA'
  obtain ⟨t2, ht2, hTt2⟩ := va_Tof (args := #[Value.ref b]) (s := s) (tm := .static "WarpDesk$Settings" "UNTOLD" "[I") (ty := .int) (N := 4) (f := zUn) (A := fun q : Nat => s.heap.size ≤ q) (by decide) (hs _ (by decide +kernel)) (va_eqt (z := 4) (hs _ (by decide +kernel))) (fun j hj => by
    rcases (show j = 0 ∨ j = 1 ∨ j = 2 ∨ j = 3 by omega) with rfl | rfl | rfl | rfl
    · exact va_eqt (z := 2) (hs (.eq (.elem (.static "WarpDesk$Settings" "UNTOLD" "[I") (.int 0)) (.int 2)) (cf_r (cf_l (cf_l (cf_l (cf_l (cf_l (cf_r (cf_r (cf_l (cf_s rfl)))))))))))
    · exact va_eqt (z := 0) (hs (.eq (.elem (.static "WarpDesk$Settings" "UNTOLD" "[I") (.int 1)) (.int 0)) (cf_r (cf_l (cf_l (cf_l (cf_l (cf_l (cf_r (cf_r (cf_r (cf_s rfl)))))))))))
    · exact va_eqt (z := 0) (hs (.eq (.elem (.static "WarpDesk$Settings" "UNTOLD" "[I") (.int 2)) (.int 0)) (cf_r (cf_l (cf_l (cf_l (cf_l (cf_r (cf_l (cf_l (cf_s rfl))))))))))
    · exact va_eqt (z := 8) (hs (.eq (.elem (.static "WarpDesk$Settings" "UNTOLD" "[I") (.int 3)) (.int 8)) (cf_r (cf_l (cf_l (cf_l (cf_l (cf_r (cf_l (cf_r (cf_l (cf_s rfl)))))))))))) hA'
  have hZt2 : va_Z "WarpDesk$Settings" "UNTOLD" "[I" (.ref t2) (fun q : Nat => s.heap.size ≤ q) s s.heap := va_Zof (hts (.laysStatic "WarpDesk$Settings" "UNTOLD" "[I") (ub_1_3 (List.mem_of_getElem? (i := 8) rfl))) (hts (.initialized "WarpDesk$Settings") (ub_1_0 (List.mem_of_getElem? (i := 5) rfl))) ht2 hA'
  have hZU : ZU t2 (fun q : Nat => s.heap.size ≤ q) s s.heap := by
    obtain ⟨cell, h1, h2, h3, h4, h5, h6, h7⟩ := hTt2
    obtain ⟨a9, c9, cell9, k9, g1, g2, g3, g4, g5, g6, -⟩ := Cond.exactly_spec (hs (.exactly (.static "WarpDesk$Settings" "UNTOLD" "[I") "[I") (cf_r (cf_r (cf_r (cf_r (cf_r (cf_r (cf_r (cf_l (cf_r (cf_s rfl)))))))))))
    cases ht2.symm.trans g1
    cases h1.symm.trans g3
    have hlen := va_eqt (z := 4) (hs (.eq (.length (.static "WarpDesk$Settings" "UNTOLD" "[I")) (.int 4)) (cf_r (cf_l (cf_l (cf_l (cf_l (cf_l (cf_r (cf_l (cf_r (cf_s rfl)))))))))))
    obtain ⟨b9, cell8, ht9, harr9, hv9⟩ := Term.length_spec hlen
    cases ht2.symm.trans ht9
    cases h1.symm.trans (State.arrayAt?_spec harr9).1
    have hlt : cell.slots.size < 2147483648 := len_lt hlen ht9 harr9
    have hsz : cell.slots.size = 4 := by
      have e := congrArg Int32.toInt (Value.int.inj hv9)
      have e2 : (nI cell.slots.size).toInt = (cell.slots.size : Int) := nI_toInt hlt
      have e3 : (4 : Int32).toInt = 4 := rfl
      have e4 : (4 : Int32).toInt = (nI cell.slots.size).toInt := e
      omega
    refine ⟨cell, h1, by rw [g2, g6], fun n z => ⟨fun k h => (by cases h), h2.2⟩, h2.1, h3, ?_, h7⟩
    apply Array.ext_getElem?
    intro i
    by_cases hi : i < 4
    · rw [h6 i hi, arrV_read _ _ hi]
      rcases (show i = 0 ∨ i = 1 ∨ i = 2 ∨ i = 3 by omega) with rfl | rfl | rfl | rfl <;> rfl
    · rw [Array.getElem?_eq_none (by rw [hsz]; omega), Array.getElem?_eq_none (by rw [arrV_size]; omega)]
  have sEx : ∀ i : Nat, i < 13 → (Cond.exactly (.string RX5 (kSt.getD i (0, "")).1) "java/lang/String").before #[Value.ref b] s = true := by
    intro i hi
    match i, hi with
    | 0, _ => exact hs (.exactly (.string "WarpDesk$Reader" 106) "java/lang/String") (cf_r (cf_l (cf_r (cf_r (cf_l (cf_r (cf_r (cf_r (cf_l (cf_s rfl))))))))))
    | 1, _ => exact hs (.exactly (.string "WarpDesk$Reader" 153) "java/lang/String") (cf_r (cf_l (cf_l (cf_r (cf_l (cf_l (cf_l (cf_l (cf_s rfl)))))))))
    | 2, _ => exact hs (.exactly (.string "WarpDesk$Reader" 155) "java/lang/String") (cf_r (cf_l (cf_l (cf_r (cf_l (cf_r (cf_r (cf_l (cf_l (cf_s rfl))))))))))
    | 3, _ => exact hs (.exactly (.string "WarpDesk$Reader" 157) "java/lang/String") (cf_r (cf_l (cf_l (cf_r (cf_r (cf_l (cf_r (cf_r (cf_r (cf_s rfl))))))))))
    | 4, _ => exact hs (.exactly (.string "WarpDesk$Reader" 159) "java/lang/String") (cf_r (cf_l (cf_r (cf_l (cf_l (cf_l (cf_l (cf_r (cf_r (cf_s rfl))))))))))
    | 5, _ => exact hs (.exactly (.string "WarpDesk$Reader" 161) "java/lang/String") (cf_r (cf_l (cf_r (cf_l (cf_r (cf_l (cf_l (cf_l (cf_s rfl)))))))))
    | 6, _ => exact hs (.exactly (.string "WarpDesk$Reader" 163) "java/lang/String") (cf_r (cf_l (cf_r (cf_l (cf_r (cf_r (cf_r (cf_r (cf_l (cf_s rfl))))))))))
    | 7, _ => exact hs (.exactly (.string "WarpDesk$Reader" 165) "java/lang/String") (cf_r (cf_l (cf_r (cf_r (cf_r (cf_r (cf_r (cf_l (cf_r (cf_s rfl))))))))))
    | 8, _ => exact hs (.exactly (.string "WarpDesk$Reader" 167) "java/lang/String") (cf_r (cf_r (cf_l (cf_l (cf_l (cf_r (cf_r (cf_r (cf_l (cf_s rfl))))))))))
    | 9, _ => exact hs (.exactly (.string "WarpDesk$Reader" 169) "java/lang/String") (cf_r (cf_r (cf_l (cf_r (cf_l (cf_l (cf_l (cf_l (cf_s rfl)))))))))
    | 10, _ => exact hs (.exactly (.string "WarpDesk$Reader" 171) "java/lang/String") (cf_r (cf_r (cf_l (cf_r (cf_r (cf_l (cf_r (cf_l (cf_r (cf_s rfl))))))))))
    | 11, _ => exact hs (.exactly (.string "WarpDesk$Reader" 173) "java/lang/String") (cf_r (cf_r (cf_r (cf_l (cf_l (cf_r (cf_l (cf_r (cf_r (cf_s rfl))))))))))
    | 12, _ => exact hs (.exactly (.string "WarpDesk$Reader" 175) "java/lang/String") (cf_r (cf_r (cf_r (cf_r (cf_l (cf_l (cf_l (cf_r (cf_l (cf_s rfl))))))))))
    | i + 13, hi => exact absurd hi (by omega)
  have sCo : ∀ i : Nat, i < 13 → (Cond.eq (.field (.string RX5 (kSt.getD i (0, "")).1) "java/lang/String" "coder" "B") (.int 0)).before #[Value.ref b] s = true := by
    intro i hi
    match i, hi with
    | 0, _ => exact hs (.eq (.field (.string "WarpDesk$Reader" 106) "java/lang/String" "coder" "B") (.int 0)) (cf_r (cf_l (cf_r (cf_r (cf_l (cf_r (cf_r (cf_r (cf_r (cf_s rfl))))))))))
    | 1, _ => exact hs (.eq (.field (.string "WarpDesk$Reader" 153) "java/lang/String" "coder" "B") (.int 0)) (cf_r (cf_l (cf_l (cf_r (cf_l (cf_l (cf_l (cf_r (cf_l (cf_s rfl))))))))))
    | 2, _ => exact hs (.eq (.field (.string "WarpDesk$Reader" 155) "java/lang/String" "coder" "B") (.int 0)) (cf_r (cf_l (cf_l (cf_r (cf_l (cf_r (cf_r (cf_l (cf_r (cf_s rfl))))))))))
    | 3, _ => exact hs (.eq (.field (.string "WarpDesk$Reader" 157) "java/lang/String" "coder" "B") (.int 0)) (cf_r (cf_l (cf_l (cf_r (cf_r (cf_r (cf_l (cf_l (cf_s rfl)))))))))
    | 4, _ => exact hs (.eq (.field (.string "WarpDesk$Reader" 159) "java/lang/String" "coder" "B") (.int 0)) (cf_r (cf_l (cf_r (cf_l (cf_l (cf_l (cf_r (cf_l (cf_l (cf_s rfl))))))))))
    | 5, _ => exact hs (.eq (.field (.string "WarpDesk$Reader" 161) "java/lang/String" "coder" "B") (.int 0)) (cf_r (cf_l (cf_r (cf_l (cf_r (cf_l (cf_l (cf_r (cf_l (cf_s rfl))))))))))
    | 6, _ => exact hs (.eq (.field (.string "WarpDesk$Reader" 163) "java/lang/String" "coder" "B") (.int 0)) (cf_r (cf_l (cf_r (cf_l (cf_r (cf_r (cf_r (cf_r (cf_r (cf_s rfl))))))))))
    | 7, _ => exact hs (.eq (.field (.string "WarpDesk$Reader" 165) "java/lang/String" "coder" "B") (.int 0)) (cf_r (cf_l (cf_r (cf_r (cf_r (cf_r (cf_r (cf_r (cf_l (cf_s rfl))))))))))
    | 8, _ => exact hs (.eq (.field (.string "WarpDesk$Reader" 167) "java/lang/String" "coder" "B") (.int 0)) (cf_r (cf_r (cf_l (cf_l (cf_l (cf_r (cf_r (cf_r (cf_r (cf_s rfl))))))))))
    | 9, _ => exact hs (.eq (.field (.string "WarpDesk$Reader" 169) "java/lang/String" "coder" "B") (.int 0)) (cf_r (cf_r (cf_l (cf_r (cf_l (cf_l (cf_l (cf_r (cf_l (cf_s rfl))))))))))
    | 10, _ => exact hs (.eq (.field (.string "WarpDesk$Reader" 171) "java/lang/String" "coder" "B") (.int 0)) (cf_r (cf_r (cf_l (cf_r (cf_r (cf_l (cf_r (cf_r (cf_l (cf_s rfl))))))))))
    | 11, _ => exact hs (.eq (.field (.string "WarpDesk$Reader" 173) "java/lang/String" "coder" "B") (.int 0)) (cf_r (cf_r (cf_r (cf_l (cf_l (cf_r (cf_r (cf_l (cf_l (cf_s rfl))))))))))
    | 12, _ => exact hs (.eq (.field (.string "WarpDesk$Reader" 175) "java/lang/String" "coder" "B") (.int 0)) (cf_r (cf_r (cf_r (cf_r (cf_l (cf_l (cf_l (cf_r (cf_r (cf_s rfl))))))))))
    | i + 13, hi => exact absurd hi (by omega)
  have sAr : ∀ i : Nat, i < 13 → (Cond.arrayOf (.field (.string RX5 (kSt.getD i (0, "")).1) "java/lang/String" "value" "[B") .byte).before #[Value.ref b] s = true := by
    intro i hi
    match i, hi with
    | 0, _ => exact hs (.arrayOf (.field (.string "WarpDesk$Reader" 106) "java/lang/String" "value" "[B") .byte) (cf_r (cf_l (cf_r (cf_r (cf_r (cf_l (cf_l (cf_l (cf_s rfl)))))))))
    | 1, _ => exact hs (.arrayOf (.field (.string "WarpDesk$Reader" 153) "java/lang/String" "value" "[B") .byte) (cf_r (cf_l (cf_l (cf_r (cf_l (cf_l (cf_l (cf_r (cf_r (cf_s rfl))))))))))
    | 2, _ => exact hs (.arrayOf (.field (.string "WarpDesk$Reader" 155) "java/lang/String" "value" "[B") .byte) (cf_r (cf_l (cf_l (cf_r (cf_l (cf_r (cf_r (cf_r (cf_l (cf_s rfl))))))))))
    | 3, _ => exact hs (.arrayOf (.field (.string "WarpDesk$Reader" 157) "java/lang/String" "value" "[B") .byte) (cf_r (cf_l (cf_l (cf_r (cf_r (cf_r (cf_l (cf_r (cf_l (cf_s rfl))))))))))
    | 4, _ => exact hs (.arrayOf (.field (.string "WarpDesk$Reader" 159) "java/lang/String" "value" "[B") .byte) (cf_r (cf_l (cf_r (cf_l (cf_l (cf_l (cf_r (cf_l (cf_r (cf_s rfl))))))))))
    | 5, _ => exact hs (.arrayOf (.field (.string "WarpDesk$Reader" 161) "java/lang/String" "value" "[B") .byte) (cf_r (cf_l (cf_r (cf_l (cf_r (cf_l (cf_l (cf_r (cf_r (cf_s rfl))))))))))
    | 6, _ => exact hs (.arrayOf (.field (.string "WarpDesk$Reader" 163) "java/lang/String" "value" "[B") .byte) (cf_r (cf_l (cf_r (cf_r (cf_l (cf_l (cf_l (cf_l (cf_s rfl)))))))))
    | 7, _ => exact hs (.arrayOf (.field (.string "WarpDesk$Reader" 165) "java/lang/String" "value" "[B") .byte) (cf_r (cf_l (cf_r (cf_r (cf_r (cf_r (cf_r (cf_r (cf_r (cf_s rfl))))))))))
    | 8, _ => exact hs (.arrayOf (.field (.string "WarpDesk$Reader" 167) "java/lang/String" "value" "[B") .byte) (cf_r (cf_r (cf_l (cf_l (cf_r (cf_l (cf_l (cf_l (cf_s rfl)))))))))
    | 9, _ => exact hs (.arrayOf (.field (.string "WarpDesk$Reader" 169) "java/lang/String" "value" "[B") .byte) (cf_r (cf_r (cf_l (cf_r (cf_l (cf_l (cf_l (cf_r (cf_r (cf_s rfl))))))))))
    | 10, _ => exact hs (.arrayOf (.field (.string "WarpDesk$Reader" 171) "java/lang/String" "value" "[B") .byte) (cf_r (cf_r (cf_l (cf_r (cf_r (cf_l (cf_r (cf_r (cf_r (cf_s rfl))))))))))
    | 11, _ => exact hs (.arrayOf (.field (.string "WarpDesk$Reader" 173) "java/lang/String" "value" "[B") .byte) (cf_r (cf_r (cf_r (cf_l (cf_l (cf_r (cf_r (cf_l (cf_r (cf_s rfl))))))))))
    | 12, _ => exact hs (.arrayOf (.field (.string "WarpDesk$Reader" 175) "java/lang/String" "value" "[B") .byte) (cf_r (cf_r (cf_r (cf_r (cf_l (cf_l (cf_r (cf_l (cf_l (cf_s rfl))))))))))
    | i + 13, hi => exact absurd hi (by omega)
  have sLe : ∀ i : Nat, i < 13 → (Cond.eq (.length (.field (.string RX5 (kSt.getD i (0, "")).1) "java/lang/String" "value" "[B")) (.int (Int32.ofNat (lenS.getD i 0)))).before #[Value.ref b] s = true := by
    intro i hi
    match i, hi with
    | 0, _ => exact hs (.eq (.length (.field (.string "WarpDesk$Reader" 106) "java/lang/String" "value" "[B")) (.int 3)) (cf_r (cf_l (cf_r (cf_r (cf_r (cf_l (cf_l (cf_r (cf_l (cf_s rfl))))))))))
    | 1, _ => exact hs (.eq (.length (.field (.string "WarpDesk$Reader" 153) "java/lang/String" "value" "[B")) (.int 6)) (cf_r (cf_l (cf_l (cf_r (cf_l (cf_l (cf_r (cf_l (cf_l (cf_s rfl))))))))))
    | 2, _ => exact hs (.eq (.length (.field (.string "WarpDesk$Reader" 155) "java/lang/String" "value" "[B")) (.int 5)) (cf_r (cf_l (cf_l (cf_r (cf_l (cf_r (cf_r (cf_r (cf_r (cf_s rfl))))))))))
    | 3, _ => exact hs (.eq (.length (.field (.string "WarpDesk$Reader" 157) "java/lang/String" "value" "[B")) (.int 4)) (cf_r (cf_l (cf_l (cf_r (cf_r (cf_r (cf_l (cf_r (cf_r (cf_s rfl))))))))))
    | 4, _ => exact hs (.eq (.length (.field (.string "WarpDesk$Reader" 159) "java/lang/String" "value" "[B")) (.int 5)) (cf_r (cf_l (cf_r (cf_l (cf_l (cf_l (cf_r (cf_r (cf_l (cf_s rfl))))))))))
    | 5, _ => exact hs (.eq (.length (.field (.string "WarpDesk$Reader" 161) "java/lang/String" "value" "[B")) (.int 4)) (cf_r (cf_l (cf_r (cf_l (cf_r (cf_l (cf_r (cf_l (cf_l (cf_s rfl))))))))))
    | 6, _ => exact hs (.eq (.length (.field (.string "WarpDesk$Reader" 163) "java/lang/String" "value" "[B")) (.int 5)) (cf_r (cf_l (cf_r (cf_r (cf_l (cf_l (cf_l (cf_r (cf_l (cf_s rfl))))))))))
    | 7, _ => exact hs (.eq (.length (.field (.string "WarpDesk$Reader" 165) "java/lang/String" "value" "[B")) (.int 4)) (cf_r (cf_r (cf_l (cf_l (cf_l (cf_l (cf_l (cf_l (cf_s rfl)))))))))
    | 8, _ => exact hs (.eq (.length (.field (.string "WarpDesk$Reader" 167) "java/lang/String" "value" "[B")) (.int 4)) (cf_r (cf_r (cf_l (cf_l (cf_r (cf_l (cf_l (cf_r (cf_l (cf_s rfl))))))))))
    | 9, _ => exact hs (.eq (.length (.field (.string "WarpDesk$Reader" 169) "java/lang/String" "value" "[B")) (.int 5)) (cf_r (cf_r (cf_l (cf_r (cf_l (cf_l (cf_r (cf_l (cf_l (cf_s rfl))))))))))
    | 10, _ => exact hs (.eq (.length (.field (.string "WarpDesk$Reader" 171) "java/lang/String" "value" "[B")) (.int 5)) (cf_r (cf_r (cf_l (cf_r (cf_r (cf_r (cf_l (cf_l (cf_s rfl)))))))))
    | 11, _ => exact hs (.eq (.length (.field (.string "WarpDesk$Reader" 173) "java/lang/String" "value" "[B")) (.int 5)) (cf_r (cf_r (cf_r (cf_l (cf_l (cf_r (cf_r (cf_r (cf_l (cf_s rfl))))))))))
    | 12, _ => exact hs (.eq (.length (.field (.string "WarpDesk$Reader" 175) "java/lang/String" "value" "[B")) (.int 6)) (cf_r (cf_r (cf_r (cf_r (cf_l (cf_l (cf_r (cf_l (cf_r (cf_s rfl))))))))))
    | i + 13, hi => exact absurd hi (by omega)
  have sEl : ∀ i : Nat, i < 13 → ∀ j : Nat, j < lenS.getD i 0 → (Cond.eq (.elem (.field (.string RX5 (kSt.getD i (0, "")).1) "java/lang/String" "value" "[B") (.int (Int32.ofNat j))) (.int ((bytS.getD i []).getD j 0))).before #[Value.ref b] s = true := by
    intro i hi
    match i, hi with
    | 0, _ =>
      intro j hj
      match j, hj with
      | 0, _ => exact hs (.eq (.elem (.field (.string "WarpDesk$Reader" 106) "java/lang/String" "value" "[B") (.int 0)) (.int 103)) (cf_r (cf_l (cf_r (cf_r (cf_r (cf_l (cf_l (cf_r (cf_r (cf_s rfl))))))))))
      | 1, _ => exact hs (.eq (.elem (.field (.string "WarpDesk$Reader" 106) "java/lang/String" "value" "[B") (.int 1)) (.int 97)) (cf_r (cf_l (cf_r (cf_r (cf_r (cf_l (cf_r (cf_l (cf_l (cf_s rfl))))))))))
      | 2, _ => exact hs (.eq (.elem (.field (.string "WarpDesk$Reader" 106) "java/lang/String" "value" "[B") (.int 2)) (.int 112)) (cf_r (cf_l (cf_r (cf_r (cf_r (cf_l (cf_r (cf_l (cf_r (cf_s rfl))))))))))
      | j + 3, hj => exact absurd hj (by show ¬ j + 3 < 3; omega)
    | 1, _ =>
      intro j hj
      match j, hj with
      | 0, _ => exact hs (.eq (.elem (.field (.string "WarpDesk$Reader" 153) "java/lang/String" "value" "[B") (.int 0)) (.int 115)) (cf_r (cf_l (cf_l (cf_r (cf_l (cf_l (cf_r (cf_l (cf_r (cf_s rfl))))))))))
      | 1, _ => exact hs (.eq (.elem (.field (.string "WarpDesk$Reader" 153) "java/lang/String" "value" "[B") (.int 1)) (.int 101)) (cf_r (cf_l (cf_l (cf_r (cf_l (cf_l (cf_r (cf_r (cf_l (cf_s rfl))))))))))
      | 2, _ => exact hs (.eq (.elem (.field (.string "WarpDesk$Reader" 153) "java/lang/String" "value" "[B") (.int 2)) (.int 114)) (cf_r (cf_l (cf_l (cf_r (cf_l (cf_l (cf_r (cf_r (cf_r (cf_s rfl))))))))))
      | 3, _ => exact hs (.eq (.elem (.field (.string "WarpDesk$Reader" 153) "java/lang/String" "value" "[B") (.int 3)) (.int 105)) (cf_r (cf_l (cf_l (cf_r (cf_l (cf_r (cf_l (cf_l (cf_s rfl)))))))))
      | 4, _ => exact hs (.eq (.elem (.field (.string "WarpDesk$Reader" 153) "java/lang/String" "value" "[B") (.int 4)) (.int 101)) (cf_r (cf_l (cf_l (cf_r (cf_l (cf_r (cf_l (cf_r (cf_l (cf_s rfl))))))))))
      | 5, _ => exact hs (.eq (.elem (.field (.string "WarpDesk$Reader" 153) "java/lang/String" "value" "[B") (.int 5)) (.int 115)) (cf_r (cf_l (cf_l (cf_r (cf_l (cf_r (cf_l (cf_r (cf_r (cf_s rfl))))))))))
      | j + 6, hj => exact absurd hj (by show ¬ j + 6 < 6; omega)
    | 2, _ =>
      intro j hj
      match j, hj with
      | 0, _ => exact hs (.eq (.elem (.field (.string "WarpDesk$Reader" 155) "java/lang/String" "value" "[B") (.int 0)) (.int 113)) (cf_r (cf_l (cf_l (cf_r (cf_r (cf_l (cf_l (cf_l (cf_s rfl)))))))))
      | 1, _ => exact hs (.eq (.elem (.field (.string "WarpDesk$Reader" 155) "java/lang/String" "value" "[B") (.int 1)) (.int 117)) (cf_r (cf_l (cf_l (cf_r (cf_r (cf_l (cf_l (cf_r (cf_l (cf_s rfl))))))))))
      | 2, _ => exact hs (.eq (.elem (.field (.string "WarpDesk$Reader" 155) "java/lang/String" "value" "[B") (.int 2)) (.int 101)) (cf_r (cf_l (cf_l (cf_r (cf_r (cf_l (cf_l (cf_r (cf_r (cf_s rfl))))))))))
      | 3, _ => exact hs (.eq (.elem (.field (.string "WarpDesk$Reader" 155) "java/lang/String" "value" "[B") (.int 3)) (.int 114)) (cf_r (cf_l (cf_l (cf_r (cf_r (cf_l (cf_r (cf_l (cf_l (cf_s rfl))))))))))
      | 4, _ => exact hs (.eq (.elem (.field (.string "WarpDesk$Reader" 155) "java/lang/String" "value" "[B") (.int 4)) (.int 121)) (cf_r (cf_l (cf_l (cf_r (cf_r (cf_l (cf_r (cf_l (cf_r (cf_s rfl))))))))))
      | j + 5, hj => exact absurd hj (by show ¬ j + 5 < 5; omega)
    | 3, _ =>
      intro j hj
      match j, hj with
      | 0, _ => exact hs (.eq (.elem (.field (.string "WarpDesk$Reader" 157) "java/lang/String" "value" "[B") (.int 0)) (.int 98)) (cf_r (cf_l (cf_l (cf_r (cf_r (cf_r (cf_r (cf_l (cf_l (cf_s rfl))))))))))
      | 1, _ => exact hs (.eq (.elem (.field (.string "WarpDesk$Reader" 157) "java/lang/String" "value" "[B") (.int 1)) (.int 97)) (cf_r (cf_l (cf_l (cf_r (cf_r (cf_r (cf_r (cf_l (cf_r (cf_s rfl))))))))))
      | 2, _ => exact hs (.eq (.elem (.field (.string "WarpDesk$Reader" 157) "java/lang/String" "value" "[B") (.int 2)) (.int 110)) (cf_r (cf_l (cf_l (cf_r (cf_r (cf_r (cf_r (cf_r (cf_l (cf_s rfl))))))))))
      | 3, _ => exact hs (.eq (.elem (.field (.string "WarpDesk$Reader" 157) "java/lang/String" "value" "[B") (.int 3)) (.int 100)) (cf_r (cf_l (cf_l (cf_r (cf_r (cf_r (cf_r (cf_r (cf_r (cf_s rfl))))))))))
      | j + 4, hj => exact absurd hj (by show ¬ j + 4 < 4; omega)
    | 4, _ =>
      intro j hj
      match j, hj with
      | 0, _ => exact hs (.eq (.elem (.field (.string "WarpDesk$Reader" 159) "java/lang/String" "value" "[B") (.int 0)) (.int 108)) (cf_r (cf_l (cf_r (cf_l (cf_l (cf_l (cf_r (cf_r (cf_r (cf_s rfl))))))))))
      | 1, _ => exact hs (.eq (.elem (.field (.string "WarpDesk$Reader" 159) "java/lang/String" "value" "[B") (.int 1)) (.int 101)) (cf_r (cf_l (cf_r (cf_l (cf_l (cf_r (cf_l (cf_l (cf_s rfl)))))))))
      | 2, _ => exact hs (.eq (.elem (.field (.string "WarpDesk$Reader" 159) "java/lang/String" "value" "[B") (.int 2)) (.int 118)) (cf_r (cf_l (cf_r (cf_l (cf_l (cf_r (cf_l (cf_r (cf_l (cf_s rfl))))))))))
      | 3, _ => exact hs (.eq (.elem (.field (.string "WarpDesk$Reader" 159) "java/lang/String" "value" "[B") (.int 3)) (.int 101)) (cf_r (cf_l (cf_r (cf_l (cf_l (cf_r (cf_l (cf_r (cf_r (cf_s rfl))))))))))
      | 4, _ => exact hs (.eq (.elem (.field (.string "WarpDesk$Reader" 159) "java/lang/String" "value" "[B") (.int 4)) (.int 108)) (cf_r (cf_l (cf_r (cf_l (cf_l (cf_r (cf_r (cf_l (cf_l (cf_s rfl))))))))))
      | j + 5, hj => exact absurd hj (by show ¬ j + 5 < 5; omega)
    | 5, _ =>
      intro j hj
      match j, hj with
      | 0, _ => exact hs (.eq (.elem (.field (.string "WarpDesk$Reader" 161) "java/lang/String" "value" "[B") (.int 0)) (.int 99)) (cf_r (cf_l (cf_r (cf_l (cf_r (cf_l (cf_r (cf_l (cf_r (cf_s rfl))))))))))
      | 1, _ => exact hs (.eq (.elem (.field (.string "WarpDesk$Reader" 161) "java/lang/String" "value" "[B") (.int 1)) (.int 111)) (cf_r (cf_l (cf_r (cf_l (cf_r (cf_l (cf_r (cf_r (cf_l (cf_s rfl))))))))))
      | 2, _ => exact hs (.eq (.elem (.field (.string "WarpDesk$Reader" 161) "java/lang/String" "value" "[B") (.int 2)) (.int 115)) (cf_r (cf_l (cf_r (cf_l (cf_r (cf_l (cf_r (cf_r (cf_r (cf_s rfl))))))))))
      | 3, _ => exact hs (.eq (.elem (.field (.string "WarpDesk$Reader" 161) "java/lang/String" "value" "[B") (.int 3)) (.int 116)) (cf_r (cf_l (cf_r (cf_l (cf_r (cf_r (cf_l (cf_l (cf_s rfl)))))))))
      | j + 4, hj => exact absurd hj (by show ¬ j + 4 < 4; omega)
    | 6, _ =>
      intro j hj
      match j, hj with
      | 0, _ => exact hs (.eq (.elem (.field (.string "WarpDesk$Reader" 163) "java/lang/String" "value" "[B") (.int 0)) (.int 97)) (cf_r (cf_l (cf_r (cf_r (cf_l (cf_l (cf_l (cf_r (cf_r (cf_s rfl))))))))))
      | 1, _ => exact hs (.eq (.elem (.field (.string "WarpDesk$Reader" 163) "java/lang/String" "value" "[B") (.int 1)) (.int 112)) (cf_r (cf_l (cf_r (cf_r (cf_l (cf_l (cf_r (cf_l (cf_l (cf_s rfl))))))))))
      | 2, _ => exact hs (.eq (.elem (.field (.string "WarpDesk$Reader" 163) "java/lang/String" "value" "[B") (.int 2)) (.int 97)) (cf_r (cf_l (cf_r (cf_r (cf_l (cf_l (cf_r (cf_l (cf_r (cf_s rfl))))))))))
      | 3, _ => exact hs (.eq (.elem (.field (.string "WarpDesk$Reader" 163) "java/lang/String" "value" "[B") (.int 3)) (.int 114)) (cf_r (cf_l (cf_r (cf_r (cf_l (cf_l (cf_r (cf_r (cf_l (cf_s rfl))))))))))
      | 4, _ => exact hs (.eq (.elem (.field (.string "WarpDesk$Reader" 163) "java/lang/String" "value" "[B") (.int 4)) (.int 116)) (cf_r (cf_l (cf_r (cf_r (cf_l (cf_l (cf_r (cf_r (cf_r (cf_s rfl))))))))))
      | j + 5, hj => exact absurd hj (by show ¬ j + 5 < 5; omega)
    | 7, _ =>
      intro j hj
      match j, hj with
      | 0, _ => exact hs (.eq (.elem (.field (.string "WarpDesk$Reader" 165) "java/lang/String" "value" "[B") (.int 0)) (.int 110)) (cf_r (cf_r (cf_l (cf_l (cf_l (cf_l (cf_l (cf_r (cf_l (cf_s rfl))))))))))
      | 1, _ => exact hs (.eq (.elem (.field (.string "WarpDesk$Reader" 165) "java/lang/String" "value" "[B") (.int 1)) (.int 111)) (cf_r (cf_r (cf_l (cf_l (cf_l (cf_l (cf_l (cf_r (cf_r (cf_s rfl))))))))))
      | 2, _ => exact hs (.eq (.elem (.field (.string "WarpDesk$Reader" 165) "java/lang/String" "value" "[B") (.int 2)) (.int 110)) (cf_r (cf_r (cf_l (cf_l (cf_l (cf_l (cf_r (cf_l (cf_l (cf_s rfl))))))))))
      | 3, _ => exact hs (.eq (.elem (.field (.string "WarpDesk$Reader" 165) "java/lang/String" "value" "[B") (.int 3)) (.int 101)) (cf_r (cf_r (cf_l (cf_l (cf_l (cf_l (cf_r (cf_l (cf_r (cf_s rfl))))))))))
      | j + 4, hj => exact absurd hj (by show ¬ j + 4 < 4; omega)
    | 8, _ =>
      intro j hj
      match j, hj with
      | 0, _ => exact hs (.eq (.elem (.field (.string "WarpDesk$Reader" 167) "java/lang/String" "value" "[B") (.int 0)) (.int 109)) (cf_r (cf_r (cf_l (cf_l (cf_r (cf_l (cf_l (cf_r (cf_r (cf_s rfl))))))))))
      | 1, _ => exact hs (.eq (.elem (.field (.string "WarpDesk$Reader" 167) "java/lang/String" "value" "[B") (.int 1)) (.int 101)) (cf_r (cf_r (cf_l (cf_l (cf_r (cf_l (cf_r (cf_l (cf_l (cf_s rfl))))))))))
      | 2, _ => exact hs (.eq (.elem (.field (.string "WarpDesk$Reader" 167) "java/lang/String" "value" "[B") (.int 2)) (.int 97)) (cf_r (cf_r (cf_l (cf_l (cf_r (cf_l (cf_r (cf_l (cf_r (cf_s rfl))))))))))
      | 3, _ => exact hs (.eq (.elem (.field (.string "WarpDesk$Reader" 167) "java/lang/String" "value" "[B") (.int 3)) (.int 110)) (cf_r (cf_r (cf_l (cf_l (cf_r (cf_l (cf_r (cf_r (cf_l (cf_s rfl))))))))))
      | j + 4, hj => exact absurd hj (by show ¬ j + 4 < 4; omega)
    | 9, _ =>
      intro j hj
      match j, hj with
      | 0, _ => exact hs (.eq (.elem (.field (.string "WarpDesk$Reader" 169) "java/lang/String" "value" "[B") (.int 0)) (.int 102)) (cf_r (cf_r (cf_l (cf_r (cf_l (cf_l (cf_r (cf_l (cf_r (cf_s rfl))))))))))
      | 1, _ => exact hs (.eq (.elem (.field (.string "WarpDesk$Reader" 169) "java/lang/String" "value" "[B") (.int 1)) (.int 105)) (cf_r (cf_r (cf_l (cf_r (cf_l (cf_l (cf_r (cf_r (cf_l (cf_s rfl))))))))))
      | 2, _ => exact hs (.eq (.elem (.field (.string "WarpDesk$Reader" 169) "java/lang/String" "value" "[B") (.int 2)) (.int 114)) (cf_r (cf_r (cf_l (cf_r (cf_l (cf_l (cf_r (cf_r (cf_r (cf_s rfl))))))))))
      | 3, _ => exact hs (.eq (.elem (.field (.string "WarpDesk$Reader" 169) "java/lang/String" "value" "[B") (.int 3)) (.int 115)) (cf_r (cf_r (cf_l (cf_r (cf_l (cf_r (cf_l (cf_l (cf_s rfl)))))))))
      | 4, _ => exact hs (.eq (.elem (.field (.string "WarpDesk$Reader" 169) "java/lang/String" "value" "[B") (.int 4)) (.int 116)) (cf_r (cf_r (cf_l (cf_r (cf_l (cf_r (cf_l (cf_r (cf_l (cf_s rfl))))))))))
      | j + 5, hj => exact absurd hj (by show ¬ j + 5 < 5; omega)
    | 10, _ =>
      intro j hj
      match j, hj with
      | 0, _ => exact hs (.eq (.elem (.field (.string "WarpDesk$Reader" 171) "java/lang/String" "value" "[B") (.int 0)) (.int 114)) (cf_r (cf_r (cf_l (cf_r (cf_r (cf_r (cf_l (cf_r (cf_l (cf_s rfl))))))))))
      | 1, _ => exact hs (.eq (.elem (.field (.string "WarpDesk$Reader" 171) "java/lang/String" "value" "[B") (.int 1)) (.int 97)) (cf_r (cf_r (cf_l (cf_r (cf_r (cf_r (cf_l (cf_r (cf_r (cf_s rfl))))))))))
      | 2, _ => exact hs (.eq (.elem (.field (.string "WarpDesk$Reader" 171) "java/lang/String" "value" "[B") (.int 2)) (.int 110)) (cf_r (cf_r (cf_l (cf_r (cf_r (cf_r (cf_r (cf_l (cf_l (cf_s rfl))))))))))
      | 3, _ => exact hs (.eq (.elem (.field (.string "WarpDesk$Reader" 171) "java/lang/String" "value" "[B") (.int 3)) (.int 103)) (cf_r (cf_r (cf_l (cf_r (cf_r (cf_r (cf_r (cf_l (cf_r (cf_s rfl))))))))))
      | 4, _ => exact hs (.eq (.elem (.field (.string "WarpDesk$Reader" 171) "java/lang/String" "value" "[B") (.int 4)) (.int 101)) (cf_r (cf_r (cf_l (cf_r (cf_r (cf_r (cf_r (cf_r (cf_l (cf_s rfl))))))))))
      | j + 5, hj => exact absurd hj (by show ¬ j + 5 < 5; omega)
    | 11, _ =>
      intro j hj
      match j, hj with
      | 0, _ => exact hs (.eq (.elem (.field (.string "WarpDesk$Reader" 173) "java/lang/String" "value" "[B") (.int 0)) (.int 112)) (cf_r (cf_r (cf_r (cf_l (cf_l (cf_r (cf_r (cf_r (cf_r (cf_s rfl))))))))))
      | 1, _ => exact hs (.eq (.elem (.field (.string "WarpDesk$Reader" 173) "java/lang/String" "value" "[B") (.int 1)) (.int 108)) (cf_r (cf_r (cf_r (cf_l (cf_r (cf_l (cf_l (cf_l (cf_s rfl)))))))))
      | 2, _ => exact hs (.eq (.elem (.field (.string "WarpDesk$Reader" 173) "java/lang/String" "value" "[B") (.int 2)) (.int 97)) (cf_r (cf_r (cf_r (cf_l (cf_r (cf_l (cf_l (cf_r (cf_l (cf_s rfl))))))))))
      | 3, _ => exact hs (.eq (.elem (.field (.string "WarpDesk$Reader" 173) "java/lang/String" "value" "[B") (.int 3)) (.int 105)) (cf_r (cf_r (cf_r (cf_l (cf_r (cf_l (cf_l (cf_r (cf_r (cf_s rfl))))))))))
      | 4, _ => exact hs (.eq (.elem (.field (.string "WarpDesk$Reader" 173) "java/lang/String" "value" "[B") (.int 4)) (.int 110)) (cf_r (cf_r (cf_r (cf_l (cf_r (cf_l (cf_r (cf_l (cf_l (cf_s rfl))))))))))
      | j + 5, hj => exact absurd hj (by show ¬ j + 5 < 5; omega)
    | 12, _ =>
      intro j hj
      match j, hj with
      | 0, _ => exact hs (.eq (.elem (.field (.string "WarpDesk$Reader" 175) "java/lang/String" "value" "[B") (.int 0)) (.int 115)) (cf_r (cf_r (cf_r (cf_r (cf_l (cf_l (cf_r (cf_r (cf_l (cf_s rfl))))))))))
      | 1, _ => exact hs (.eq (.elem (.field (.string "WarpDesk$Reader" 175) "java/lang/String" "value" "[B") (.int 1)) (.int 113)) (cf_r (cf_r (cf_r (cf_r (cf_l (cf_l (cf_r (cf_r (cf_r (cf_s rfl))))))))))
      | 2, _ => exact hs (.eq (.elem (.field (.string "WarpDesk$Reader" 175) "java/lang/String" "value" "[B") (.int 2)) (.int 117)) (cf_r (cf_r (cf_r (cf_r (cf_l (cf_r (cf_l (cf_l (cf_s rfl)))))))))
      | 3, _ => exact hs (.eq (.elem (.field (.string "WarpDesk$Reader" 175) "java/lang/String" "value" "[B") (.int 3)) (.int 97)) (cf_r (cf_r (cf_r (cf_r (cf_l (cf_r (cf_l (cf_r (cf_l (cf_s rfl))))))))))
      | 4, _ => exact hs (.eq (.elem (.field (.string "WarpDesk$Reader" 175) "java/lang/String" "value" "[B") (.int 4)) (.int 114)) (cf_r (cf_r (cf_r (cf_r (cf_l (cf_r (cf_l (cf_r (cf_r (cf_s rfl))))))))))
      | 5, _ => exact hs (.eq (.elem (.field (.string "WarpDesk$Reader" 175) "java/lang/String" "value" "[B") (.int 5)) (.int 101)) (cf_r (cf_r (cf_r (cf_r (cf_l (cf_r (cf_r (cf_l (cf_l (cf_s rfl))))))))))
      | j + 6, hj => exact absurd hj (by show ¬ j + 6 < 6; omega)
    | i + 13, hi => exact absurd hi (by omega)
  have sNe : ∀ i j : Nat, i < 13 → j < 13 → i ≠ j → (Cond.not (Cond.eq (.string RX5 (kSt.getD i (0, "")).1) (.string RX5 (kSt.getD j (0, "")).1))).before #[Value.ref b] s = true ∨ (Cond.not (Cond.eq (.string RX5 (kSt.getD j (0, "")).1) (.string RX5 (kSt.getD i (0, "")).1))).before #[Value.ref b] s = true := by
    intro i j hi hj hij
    match i, hi with
    | 0, _ =>
      match j, hj with
      | 0, _ => exact absurd rfl hij
      | 1, _ => exact Or.inr (hs (.not (.eq (.string "WarpDesk$Reader" 153) (.string "WarpDesk$Reader" 106))) (cf_r (cf_l (cf_r (cf_r (cf_r (cf_l (cf_r (cf_r (cf_l (cf_s rfl)))))))))))
      | 2, _ => exact Or.inr (hs (.not (.eq (.string "WarpDesk$Reader" 155) (.string "WarpDesk$Reader" 106))) (cf_r (cf_l (cf_r (cf_r (cf_r (cf_l (cf_r (cf_r (cf_r (cf_s rfl)))))))))))
      | 3, _ => exact Or.inr (hs (.not (.eq (.string "WarpDesk$Reader" 157) (.string "WarpDesk$Reader" 106))) (cf_r (cf_l (cf_r (cf_r (cf_r (cf_r (cf_l (cf_l (cf_s rfl))))))))))
      | 4, _ => exact Or.inr (hs (.not (.eq (.string "WarpDesk$Reader" 159) (.string "WarpDesk$Reader" 106))) (cf_r (cf_l (cf_r (cf_r (cf_r (cf_r (cf_l (cf_r (cf_l (cf_s rfl)))))))))))
      | 5, _ => exact Or.inr (hs (.not (.eq (.string "WarpDesk$Reader" 161) (.string "WarpDesk$Reader" 106))) (cf_r (cf_l (cf_r (cf_r (cf_r (cf_r (cf_l (cf_r (cf_r (cf_s rfl)))))))))))
      | 6, _ => exact Or.inr (hs (.not (.eq (.string "WarpDesk$Reader" 163) (.string "WarpDesk$Reader" 106))) (cf_r (cf_l (cf_r (cf_r (cf_r (cf_r (cf_r (cf_l (cf_l (cf_s rfl)))))))))))
      | 7, _ => exact Or.inl (hs (.not (.eq (.string "WarpDesk$Reader" 106) (.string "WarpDesk$Reader" 165))) (cf_r (cf_r (cf_l (cf_l (cf_l (cf_r (cf_r (cf_l (cf_r (cf_s rfl)))))))))))
      | 8, _ => exact Or.inl (hs (.not (.eq (.string "WarpDesk$Reader" 106) (.string "WarpDesk$Reader" 167))) (cf_r (cf_r (cf_l (cf_l (cf_r (cf_r (cf_r (cf_r (cf_l (cf_s rfl)))))))))))
      | 9, _ => exact Or.inl (hs (.not (.eq (.string "WarpDesk$Reader" 106) (.string "WarpDesk$Reader" 169))) (cf_r (cf_r (cf_l (cf_r (cf_r (cf_l (cf_l (cf_r (cf_l (cf_s rfl)))))))))))
      | 10, _ => exact Or.inl (hs (.not (.eq (.string "WarpDesk$Reader" 106) (.string "WarpDesk$Reader" 171))) (cf_r (cf_r (cf_r (cf_l (cf_l (cf_l (cf_r (cf_r (cf_l (cf_s rfl)))))))))))
      | 11, _ => exact Or.inl (hs (.not (.eq (.string "WarpDesk$Reader" 106) (.string "WarpDesk$Reader" 173))) (cf_r (cf_r (cf_r (cf_l (cf_r (cf_r (cf_r (cf_l (cf_l (cf_s rfl)))))))))))
      | 12, _ => exact Or.inl (hs (.not (.eq (.string "WarpDesk$Reader" 106) (.string "WarpDesk$Reader" 175))) (cf_r (cf_r (cf_r (cf_r (cf_r (cf_l (cf_r (cf_l (cf_l (cf_s rfl)))))))))))
      | j + 13, hj => exact absurd hj (by omega)
    | 1, _ =>
      match j, hj with
      | 0, _ => exact Or.inl (hs (.not (.eq (.string "WarpDesk$Reader" 153) (.string "WarpDesk$Reader" 106))) (cf_r (cf_l (cf_r (cf_r (cf_r (cf_l (cf_r (cf_r (cf_l (cf_s rfl)))))))))))
      | 1, _ => exact absurd rfl hij
      | 2, _ => exact Or.inl (hs (.not (.eq (.string "WarpDesk$Reader" 153) (.string "WarpDesk$Reader" 155))) (cf_r (cf_l (cf_l (cf_r (cf_r (cf_l (cf_r (cf_r (cf_l (cf_s rfl)))))))))))
      | 3, _ => exact Or.inl (hs (.not (.eq (.string "WarpDesk$Reader" 153) (.string "WarpDesk$Reader" 157))) (cf_r (cf_l (cf_r (cf_l (cf_l (cf_l (cf_l (cf_l (cf_s rfl))))))))))
      | 4, _ => exact Or.inl (hs (.not (.eq (.string "WarpDesk$Reader" 153) (.string "WarpDesk$Reader" 159))) (cf_r (cf_l (cf_r (cf_l (cf_l (cf_r (cf_r (cf_l (cf_r (cf_s rfl)))))))))))
      | 5, _ => exact Or.inl (hs (.not (.eq (.string "WarpDesk$Reader" 153) (.string "WarpDesk$Reader" 161))) (cf_r (cf_l (cf_r (cf_l (cf_r (cf_r (cf_l (cf_r (cf_l (cf_s rfl)))))))))))
      | 6, _ => exact Or.inl (hs (.not (.eq (.string "WarpDesk$Reader" 153) (.string "WarpDesk$Reader" 163))) (cf_r (cf_l (cf_r (cf_r (cf_l (cf_r (cf_l (cf_l (cf_s rfl))))))))))
      | 7, _ => exact Or.inl (hs (.not (.eq (.string "WarpDesk$Reader" 153) (.string "WarpDesk$Reader" 165))) (cf_r (cf_r (cf_l (cf_l (cf_l (cf_l (cf_r (cf_r (cf_l (cf_s rfl)))))))))))
      | 8, _ => exact Or.inl (hs (.not (.eq (.string "WarpDesk$Reader" 153) (.string "WarpDesk$Reader" 167))) (cf_r (cf_r (cf_l (cf_l (cf_r (cf_l (cf_r (cf_r (cf_r (cf_s rfl)))))))))))
      | 9, _ => exact Or.inl (hs (.not (.eq (.string "WarpDesk$Reader" 153) (.string "WarpDesk$Reader" 169))) (cf_r (cf_r (cf_l (cf_r (cf_l (cf_r (cf_l (cf_r (cf_r (cf_s rfl)))))))))))
      | 10, _ => exact Or.inl (hs (.not (.eq (.string "WarpDesk$Reader" 153) (.string "WarpDesk$Reader" 171))) (cf_r (cf_r (cf_l (cf_r (cf_r (cf_r (cf_r (cf_r (cf_r (cf_s rfl)))))))))))
      | 11, _ => exact Or.inl (hs (.not (.eq (.string "WarpDesk$Reader" 153) (.string "WarpDesk$Reader" 173))) (cf_r (cf_r (cf_r (cf_l (cf_r (cf_l (cf_r (cf_l (cf_r (cf_s rfl)))))))))))
      | 12, _ => exact Or.inl (hs (.not (.eq (.string "WarpDesk$Reader" 153) (.string "WarpDesk$Reader" 175))) (cf_r (cf_r (cf_r (cf_r (cf_l (cf_r (cf_r (cf_l (cf_r (cf_s rfl)))))))))))
      | j + 13, hj => exact absurd hj (by omega)
    | 2, _ =>
      match j, hj with
      | 0, _ => exact Or.inl (hs (.not (.eq (.string "WarpDesk$Reader" 155) (.string "WarpDesk$Reader" 106))) (cf_r (cf_l (cf_r (cf_r (cf_r (cf_l (cf_r (cf_r (cf_r (cf_s rfl)))))))))))
      | 1, _ => exact Or.inr (hs (.not (.eq (.string "WarpDesk$Reader" 153) (.string "WarpDesk$Reader" 155))) (cf_r (cf_l (cf_l (cf_r (cf_r (cf_l (cf_r (cf_r (cf_l (cf_s rfl)))))))))))
      | 2, _ => exact absurd rfl hij
      | 3, _ => exact Or.inl (hs (.not (.eq (.string "WarpDesk$Reader" 155) (.string "WarpDesk$Reader" 157))) (cf_r (cf_l (cf_r (cf_l (cf_l (cf_l (cf_l (cf_r (cf_l (cf_s rfl)))))))))))
      | 4, _ => exact Or.inl (hs (.not (.eq (.string "WarpDesk$Reader" 155) (.string "WarpDesk$Reader" 159))) (cf_r (cf_l (cf_r (cf_l (cf_l (cf_r (cf_r (cf_r (cf_l (cf_s rfl)))))))))))
      | 5, _ => exact Or.inl (hs (.not (.eq (.string "WarpDesk$Reader" 155) (.string "WarpDesk$Reader" 161))) (cf_r (cf_l (cf_r (cf_l (cf_r (cf_r (cf_l (cf_r (cf_r (cf_s rfl)))))))))))
      | 6, _ => exact Or.inl (hs (.not (.eq (.string "WarpDesk$Reader" 155) (.string "WarpDesk$Reader" 163))) (cf_r (cf_l (cf_r (cf_r (cf_l (cf_r (cf_l (cf_r (cf_l (cf_s rfl)))))))))))
      | 7, _ => exact Or.inl (hs (.not (.eq (.string "WarpDesk$Reader" 155) (.string "WarpDesk$Reader" 165))) (cf_r (cf_r (cf_l (cf_l (cf_l (cf_l (cf_r (cf_r (cf_r (cf_s rfl)))))))))))
      | 8, _ => exact Or.inl (hs (.not (.eq (.string "WarpDesk$Reader" 155) (.string "WarpDesk$Reader" 167))) (cf_r (cf_r (cf_l (cf_l (cf_r (cf_r (cf_l (cf_l (cf_s rfl))))))))))
      | 9, _ => exact Or.inl (hs (.not (.eq (.string "WarpDesk$Reader" 155) (.string "WarpDesk$Reader" 169))) (cf_r (cf_r (cf_l (cf_r (cf_l (cf_r (cf_r (cf_l (cf_l (cf_s rfl)))))))))))
      | 10, _ => exact Or.inl (hs (.not (.eq (.string "WarpDesk$Reader" 155) (.string "WarpDesk$Reader" 171))) (cf_r (cf_r (cf_r (cf_l (cf_l (cf_l (cf_l (cf_l (cf_s rfl))))))))))
      | 11, _ => exact Or.inl (hs (.not (.eq (.string "WarpDesk$Reader" 155) (.string "WarpDesk$Reader" 173))) (cf_r (cf_r (cf_r (cf_l (cf_r (cf_l (cf_r (cf_r (cf_l (cf_s rfl)))))))))))
      | 12, _ => exact Or.inl (hs (.not (.eq (.string "WarpDesk$Reader" 155) (.string "WarpDesk$Reader" 175))) (cf_r (cf_r (cf_r (cf_r (cf_l (cf_r (cf_r (cf_r (cf_l (cf_s rfl)))))))))))
      | j + 13, hj => exact absurd hj (by omega)
    | 3, _ =>
      match j, hj with
      | 0, _ => exact Or.inl (hs (.not (.eq (.string "WarpDesk$Reader" 157) (.string "WarpDesk$Reader" 106))) (cf_r (cf_l (cf_r (cf_r (cf_r (cf_r (cf_l (cf_l (cf_s rfl))))))))))
      | 1, _ => exact Or.inr (hs (.not (.eq (.string "WarpDesk$Reader" 153) (.string "WarpDesk$Reader" 157))) (cf_r (cf_l (cf_r (cf_l (cf_l (cf_l (cf_l (cf_l (cf_s rfl))))))))))
      | 2, _ => exact Or.inr (hs (.not (.eq (.string "WarpDesk$Reader" 155) (.string "WarpDesk$Reader" 157))) (cf_r (cf_l (cf_r (cf_l (cf_l (cf_l (cf_l (cf_r (cf_l (cf_s rfl)))))))))))
      | 3, _ => exact absurd rfl hij
      | 4, _ => exact Or.inl (hs (.not (.eq (.string "WarpDesk$Reader" 157) (.string "WarpDesk$Reader" 159))) (cf_r (cf_l (cf_r (cf_l (cf_l (cf_r (cf_r (cf_r (cf_r (cf_s rfl)))))))))))
      | 5, _ => exact Or.inl (hs (.not (.eq (.string "WarpDesk$Reader" 157) (.string "WarpDesk$Reader" 161))) (cf_r (cf_l (cf_r (cf_l (cf_r (cf_r (cf_r (cf_l (cf_l (cf_s rfl)))))))))))
      | 6, _ => exact Or.inl (hs (.not (.eq (.string "WarpDesk$Reader" 157) (.string "WarpDesk$Reader" 163))) (cf_r (cf_l (cf_r (cf_r (cf_l (cf_r (cf_l (cf_r (cf_r (cf_s rfl)))))))))))
      | 7, _ => exact Or.inl (hs (.not (.eq (.string "WarpDesk$Reader" 157) (.string "WarpDesk$Reader" 165))) (cf_r (cf_r (cf_l (cf_l (cf_l (cf_r (cf_l (cf_l (cf_s rfl))))))))))
      | 8, _ => exact Or.inl (hs (.not (.eq (.string "WarpDesk$Reader" 157) (.string "WarpDesk$Reader" 167))) (cf_r (cf_r (cf_l (cf_l (cf_r (cf_r (cf_l (cf_r (cf_l (cf_s rfl)))))))))))
      | 9, _ => exact Or.inl (hs (.not (.eq (.string "WarpDesk$Reader" 157) (.string "WarpDesk$Reader" 169))) (cf_r (cf_r (cf_l (cf_r (cf_l (cf_r (cf_r (cf_l (cf_r (cf_s rfl)))))))))))
      | 10, _ => exact Or.inl (hs (.not (.eq (.string "WarpDesk$Reader" 157) (.string "WarpDesk$Reader" 171))) (cf_r (cf_r (cf_r (cf_l (cf_l (cf_l (cf_l (cf_r (cf_l (cf_s rfl)))))))))))
      | 11, _ => exact Or.inl (hs (.not (.eq (.string "WarpDesk$Reader" 157) (.string "WarpDesk$Reader" 173))) (cf_r (cf_r (cf_r (cf_l (cf_r (cf_l (cf_r (cf_r (cf_r (cf_s rfl)))))))))))
      | 12, _ => exact Or.inl (hs (.not (.eq (.string "WarpDesk$Reader" 157) (.string "WarpDesk$Reader" 175))) (cf_r (cf_r (cf_r (cf_r (cf_l (cf_r (cf_r (cf_r (cf_r (cf_s rfl)))))))))))
      | j + 13, hj => exact absurd hj (by omega)
    | 4, _ =>
      match j, hj with
      | 0, _ => exact Or.inl (hs (.not (.eq (.string "WarpDesk$Reader" 159) (.string "WarpDesk$Reader" 106))) (cf_r (cf_l (cf_r (cf_r (cf_r (cf_r (cf_l (cf_r (cf_l (cf_s rfl)))))))))))
      | 1, _ => exact Or.inr (hs (.not (.eq (.string "WarpDesk$Reader" 153) (.string "WarpDesk$Reader" 159))) (cf_r (cf_l (cf_r (cf_l (cf_l (cf_r (cf_r (cf_l (cf_r (cf_s rfl)))))))))))
      | 2, _ => exact Or.inr (hs (.not (.eq (.string "WarpDesk$Reader" 155) (.string "WarpDesk$Reader" 159))) (cf_r (cf_l (cf_r (cf_l (cf_l (cf_r (cf_r (cf_r (cf_l (cf_s rfl)))))))))))
      | 3, _ => exact Or.inr (hs (.not (.eq (.string "WarpDesk$Reader" 157) (.string "WarpDesk$Reader" 159))) (cf_r (cf_l (cf_r (cf_l (cf_l (cf_r (cf_r (cf_r (cf_r (cf_s rfl)))))))))))
      | 4, _ => exact absurd rfl hij
      | 5, _ => exact Or.inl (hs (.not (.eq (.string "WarpDesk$Reader" 159) (.string "WarpDesk$Reader" 161))) (cf_r (cf_l (cf_r (cf_l (cf_r (cf_r (cf_r (cf_l (cf_r (cf_s rfl)))))))))))
      | 6, _ => exact Or.inl (hs (.not (.eq (.string "WarpDesk$Reader" 159) (.string "WarpDesk$Reader" 163))) (cf_r (cf_l (cf_r (cf_r (cf_l (cf_r (cf_r (cf_l (cf_l (cf_s rfl)))))))))))
      | 7, _ => exact Or.inl (hs (.not (.eq (.string "WarpDesk$Reader" 159) (.string "WarpDesk$Reader" 165))) (cf_r (cf_r (cf_l (cf_l (cf_l (cf_r (cf_l (cf_r (cf_l (cf_s rfl)))))))))))
      | 8, _ => exact Or.inl (hs (.not (.eq (.string "WarpDesk$Reader" 159) (.string "WarpDesk$Reader" 167))) (cf_r (cf_r (cf_l (cf_l (cf_r (cf_r (cf_l (cf_r (cf_r (cf_s rfl)))))))))))
      | 9, _ => exact Or.inl (hs (.not (.eq (.string "WarpDesk$Reader" 159) (.string "WarpDesk$Reader" 169))) (cf_r (cf_r (cf_l (cf_r (cf_l (cf_r (cf_r (cf_r (cf_l (cf_s rfl)))))))))))
      | 10, _ => exact Or.inl (hs (.not (.eq (.string "WarpDesk$Reader" 159) (.string "WarpDesk$Reader" 171))) (cf_r (cf_r (cf_r (cf_l (cf_l (cf_l (cf_l (cf_r (cf_r (cf_s rfl)))))))))))
      | 11, _ => exact Or.inl (hs (.not (.eq (.string "WarpDesk$Reader" 159) (.string "WarpDesk$Reader" 173))) (cf_r (cf_r (cf_r (cf_l (cf_r (cf_r (cf_l (cf_l (cf_s rfl))))))))))
      | 12, _ => exact Or.inl (hs (.not (.eq (.string "WarpDesk$Reader" 159) (.string "WarpDesk$Reader" 175))) (cf_r (cf_r (cf_r (cf_r (cf_r (cf_l (cf_l (cf_l (cf_s rfl))))))))))
      | j + 13, hj => exact absurd hj (by omega)
    | 5, _ =>
      match j, hj with
      | 0, _ => exact Or.inl (hs (.not (.eq (.string "WarpDesk$Reader" 161) (.string "WarpDesk$Reader" 106))) (cf_r (cf_l (cf_r (cf_r (cf_r (cf_r (cf_l (cf_r (cf_r (cf_s rfl)))))))))))
      | 1, _ => exact Or.inr (hs (.not (.eq (.string "WarpDesk$Reader" 153) (.string "WarpDesk$Reader" 161))) (cf_r (cf_l (cf_r (cf_l (cf_r (cf_r (cf_l (cf_r (cf_l (cf_s rfl)))))))))))
      | 2, _ => exact Or.inr (hs (.not (.eq (.string "WarpDesk$Reader" 155) (.string "WarpDesk$Reader" 161))) (cf_r (cf_l (cf_r (cf_l (cf_r (cf_r (cf_l (cf_r (cf_r (cf_s rfl)))))))))))
      | 3, _ => exact Or.inr (hs (.not (.eq (.string "WarpDesk$Reader" 157) (.string "WarpDesk$Reader" 161))) (cf_r (cf_l (cf_r (cf_l (cf_r (cf_r (cf_r (cf_l (cf_l (cf_s rfl)))))))))))
      | 4, _ => exact Or.inr (hs (.not (.eq (.string "WarpDesk$Reader" 159) (.string "WarpDesk$Reader" 161))) (cf_r (cf_l (cf_r (cf_l (cf_r (cf_r (cf_r (cf_l (cf_r (cf_s rfl)))))))))))
      | 5, _ => exact absurd rfl hij
      | 6, _ => exact Or.inl (hs (.not (.eq (.string "WarpDesk$Reader" 161) (.string "WarpDesk$Reader" 163))) (cf_r (cf_l (cf_r (cf_r (cf_l (cf_r (cf_r (cf_l (cf_r (cf_s rfl)))))))))))
      | 7, _ => exact Or.inl (hs (.not (.eq (.string "WarpDesk$Reader" 161) (.string "WarpDesk$Reader" 165))) (cf_r (cf_r (cf_l (cf_l (cf_l (cf_r (cf_l (cf_r (cf_r (cf_s rfl)))))))))))
      | 8, _ => exact Or.inl (hs (.not (.eq (.string "WarpDesk$Reader" 161) (.string "WarpDesk$Reader" 167))) (cf_r (cf_r (cf_l (cf_l (cf_r (cf_r (cf_r (cf_l (cf_l (cf_s rfl)))))))))))
      | 9, _ => exact Or.inl (hs (.not (.eq (.string "WarpDesk$Reader" 161) (.string "WarpDesk$Reader" 169))) (cf_r (cf_r (cf_l (cf_r (cf_l (cf_r (cf_r (cf_r (cf_r (cf_s rfl)))))))))))
      | 10, _ => exact Or.inl (hs (.not (.eq (.string "WarpDesk$Reader" 161) (.string "WarpDesk$Reader" 171))) (cf_r (cf_r (cf_r (cf_l (cf_l (cf_l (cf_r (cf_l (cf_l (cf_s rfl)))))))))))
      | 11, _ => exact Or.inl (hs (.not (.eq (.string "WarpDesk$Reader" 161) (.string "WarpDesk$Reader" 173))) (cf_r (cf_r (cf_r (cf_l (cf_r (cf_r (cf_l (cf_r (cf_l (cf_s rfl)))))))))))
      | 12, _ => exact Or.inl (hs (.not (.eq (.string "WarpDesk$Reader" 161) (.string "WarpDesk$Reader" 175))) (cf_r (cf_r (cf_r (cf_r (cf_r (cf_l (cf_l (cf_r (cf_l (cf_s rfl)))))))))))
      | j + 13, hj => exact absurd hj (by omega)
    | 6, _ =>
      match j, hj with
      | 0, _ => exact Or.inl (hs (.not (.eq (.string "WarpDesk$Reader" 163) (.string "WarpDesk$Reader" 106))) (cf_r (cf_l (cf_r (cf_r (cf_r (cf_r (cf_r (cf_l (cf_l (cf_s rfl)))))))))))
      | 1, _ => exact Or.inr (hs (.not (.eq (.string "WarpDesk$Reader" 153) (.string "WarpDesk$Reader" 163))) (cf_r (cf_l (cf_r (cf_r (cf_l (cf_r (cf_l (cf_l (cf_s rfl))))))))))
      | 2, _ => exact Or.inr (hs (.not (.eq (.string "WarpDesk$Reader" 155) (.string "WarpDesk$Reader" 163))) (cf_r (cf_l (cf_r (cf_r (cf_l (cf_r (cf_l (cf_r (cf_l (cf_s rfl)))))))))))
      | 3, _ => exact Or.inr (hs (.not (.eq (.string "WarpDesk$Reader" 157) (.string "WarpDesk$Reader" 163))) (cf_r (cf_l (cf_r (cf_r (cf_l (cf_r (cf_l (cf_r (cf_r (cf_s rfl)))))))))))
      | 4, _ => exact Or.inr (hs (.not (.eq (.string "WarpDesk$Reader" 159) (.string "WarpDesk$Reader" 163))) (cf_r (cf_l (cf_r (cf_r (cf_l (cf_r (cf_r (cf_l (cf_l (cf_s rfl)))))))))))
      | 5, _ => exact Or.inr (hs (.not (.eq (.string "WarpDesk$Reader" 161) (.string "WarpDesk$Reader" 163))) (cf_r (cf_l (cf_r (cf_r (cf_l (cf_r (cf_r (cf_l (cf_r (cf_s rfl)))))))))))
      | 6, _ => exact absurd rfl hij
      | 7, _ => exact Or.inl (hs (.not (.eq (.string "WarpDesk$Reader" 163) (.string "WarpDesk$Reader" 165))) (cf_r (cf_r (cf_l (cf_l (cf_l (cf_r (cf_r (cf_l (cf_l (cf_s rfl)))))))))))
      | 8, _ => exact Or.inl (hs (.not (.eq (.string "WarpDesk$Reader" 163) (.string "WarpDesk$Reader" 167))) (cf_r (cf_r (cf_l (cf_l (cf_r (cf_r (cf_r (cf_l (cf_r (cf_s rfl)))))))))))
      | 9, _ => exact Or.inl (hs (.not (.eq (.string "WarpDesk$Reader" 163) (.string "WarpDesk$Reader" 169))) (cf_r (cf_r (cf_l (cf_r (cf_r (cf_l (cf_l (cf_l (cf_s rfl))))))))))
      | 10, _ => exact Or.inl (hs (.not (.eq (.string "WarpDesk$Reader" 163) (.string "WarpDesk$Reader" 171))) (cf_r (cf_r (cf_r (cf_l (cf_l (cf_l (cf_r (cf_l (cf_r (cf_s rfl)))))))))))
      | 11, _ => exact Or.inl (hs (.not (.eq (.string "WarpDesk$Reader" 163) (.string "WarpDesk$Reader" 173))) (cf_r (cf_r (cf_r (cf_l (cf_r (cf_r (cf_l (cf_r (cf_r (cf_s rfl)))))))))))
      | 12, _ => exact Or.inl (hs (.not (.eq (.string "WarpDesk$Reader" 163) (.string "WarpDesk$Reader" 175))) (cf_r (cf_r (cf_r (cf_r (cf_r (cf_l (cf_l (cf_r (cf_r (cf_s rfl)))))))))))
      | j + 13, hj => exact absurd hj (by omega)
    | 7, _ =>
      match j, hj with
      | 0, _ => exact Or.inr (hs (.not (.eq (.string "WarpDesk$Reader" 106) (.string "WarpDesk$Reader" 165))) (cf_r (cf_r (cf_l (cf_l (cf_l (cf_r (cf_r (cf_l (cf_r (cf_s rfl)))))))))))
      | 1, _ => exact Or.inr (hs (.not (.eq (.string "WarpDesk$Reader" 153) (.string "WarpDesk$Reader" 165))) (cf_r (cf_r (cf_l (cf_l (cf_l (cf_l (cf_r (cf_r (cf_l (cf_s rfl)))))))))))
      | 2, _ => exact Or.inr (hs (.not (.eq (.string "WarpDesk$Reader" 155) (.string "WarpDesk$Reader" 165))) (cf_r (cf_r (cf_l (cf_l (cf_l (cf_l (cf_r (cf_r (cf_r (cf_s rfl)))))))))))
      | 3, _ => exact Or.inr (hs (.not (.eq (.string "WarpDesk$Reader" 157) (.string "WarpDesk$Reader" 165))) (cf_r (cf_r (cf_l (cf_l (cf_l (cf_r (cf_l (cf_l (cf_s rfl))))))))))
      | 4, _ => exact Or.inr (hs (.not (.eq (.string "WarpDesk$Reader" 159) (.string "WarpDesk$Reader" 165))) (cf_r (cf_r (cf_l (cf_l (cf_l (cf_r (cf_l (cf_r (cf_l (cf_s rfl)))))))))))
      | 5, _ => exact Or.inr (hs (.not (.eq (.string "WarpDesk$Reader" 161) (.string "WarpDesk$Reader" 165))) (cf_r (cf_r (cf_l (cf_l (cf_l (cf_r (cf_l (cf_r (cf_r (cf_s rfl)))))))))))
      | 6, _ => exact Or.inr (hs (.not (.eq (.string "WarpDesk$Reader" 163) (.string "WarpDesk$Reader" 165))) (cf_r (cf_r (cf_l (cf_l (cf_l (cf_r (cf_r (cf_l (cf_l (cf_s rfl)))))))))))
      | 7, _ => exact absurd rfl hij
      | 8, _ => exact Or.inl (hs (.not (.eq (.string "WarpDesk$Reader" 165) (.string "WarpDesk$Reader" 167))) (cf_r (cf_r (cf_l (cf_l (cf_r (cf_r (cf_r (cf_r (cf_r (cf_s rfl)))))))))))
      | 9, _ => exact Or.inl (hs (.not (.eq (.string "WarpDesk$Reader" 165) (.string "WarpDesk$Reader" 169))) (cf_r (cf_r (cf_l (cf_r (cf_r (cf_l (cf_l (cf_r (cf_r (cf_s rfl)))))))))))
      | 10, _ => exact Or.inl (hs (.not (.eq (.string "WarpDesk$Reader" 165) (.string "WarpDesk$Reader" 171))) (cf_r (cf_r (cf_r (cf_l (cf_l (cf_l (cf_r (cf_r (cf_r (cf_s rfl)))))))))))
      | 11, _ => exact Or.inl (hs (.not (.eq (.string "WarpDesk$Reader" 165) (.string "WarpDesk$Reader" 173))) (cf_r (cf_r (cf_r (cf_l (cf_r (cf_r (cf_r (cf_l (cf_r (cf_s rfl)))))))))))
      | 12, _ => exact Or.inl (hs (.not (.eq (.string "WarpDesk$Reader" 165) (.string "WarpDesk$Reader" 175))) (cf_r (cf_r (cf_r (cf_r (cf_r (cf_l (cf_r (cf_l (cf_r (cf_s rfl)))))))))))
      | j + 13, hj => exact absurd hj (by omega)
    | 8, _ =>
      match j, hj with
      | 0, _ => exact Or.inr (hs (.not (.eq (.string "WarpDesk$Reader" 106) (.string "WarpDesk$Reader" 167))) (cf_r (cf_r (cf_l (cf_l (cf_r (cf_r (cf_r (cf_r (cf_l (cf_s rfl)))))))))))
      | 1, _ => exact Or.inr (hs (.not (.eq (.string "WarpDesk$Reader" 153) (.string "WarpDesk$Reader" 167))) (cf_r (cf_r (cf_l (cf_l (cf_r (cf_l (cf_r (cf_r (cf_r (cf_s rfl)))))))))))
      | 2, _ => exact Or.inr (hs (.not (.eq (.string "WarpDesk$Reader" 155) (.string "WarpDesk$Reader" 167))) (cf_r (cf_r (cf_l (cf_l (cf_r (cf_r (cf_l (cf_l (cf_s rfl))))))))))
      | 3, _ => exact Or.inr (hs (.not (.eq (.string "WarpDesk$Reader" 157) (.string "WarpDesk$Reader" 167))) (cf_r (cf_r (cf_l (cf_l (cf_r (cf_r (cf_l (cf_r (cf_l (cf_s rfl)))))))))))
      | 4, _ => exact Or.inr (hs (.not (.eq (.string "WarpDesk$Reader" 159) (.string "WarpDesk$Reader" 167))) (cf_r (cf_r (cf_l (cf_l (cf_r (cf_r (cf_l (cf_r (cf_r (cf_s rfl)))))))))))
      | 5, _ => exact Or.inr (hs (.not (.eq (.string "WarpDesk$Reader" 161) (.string "WarpDesk$Reader" 167))) (cf_r (cf_r (cf_l (cf_l (cf_r (cf_r (cf_r (cf_l (cf_l (cf_s rfl)))))))))))
      | 6, _ => exact Or.inr (hs (.not (.eq (.string "WarpDesk$Reader" 163) (.string "WarpDesk$Reader" 167))) (cf_r (cf_r (cf_l (cf_l (cf_r (cf_r (cf_r (cf_l (cf_r (cf_s rfl)))))))))))
      | 7, _ => exact Or.inr (hs (.not (.eq (.string "WarpDesk$Reader" 165) (.string "WarpDesk$Reader" 167))) (cf_r (cf_r (cf_l (cf_l (cf_r (cf_r (cf_r (cf_r (cf_r (cf_s rfl)))))))))))
      | 8, _ => exact absurd rfl hij
      | 9, _ => exact Or.inl (hs (.not (.eq (.string "WarpDesk$Reader" 167) (.string "WarpDesk$Reader" 169))) (cf_r (cf_r (cf_l (cf_r (cf_r (cf_l (cf_r (cf_l (cf_l (cf_s rfl)))))))))))
      | 10, _ => exact Or.inl (hs (.not (.eq (.string "WarpDesk$Reader" 167) (.string "WarpDesk$Reader" 171))) (cf_r (cf_r (cf_r (cf_l (cf_l (cf_r (cf_l (cf_l (cf_s rfl))))))))))
      | 11, _ => exact Or.inl (hs (.not (.eq (.string "WarpDesk$Reader" 167) (.string "WarpDesk$Reader" 173))) (cf_r (cf_r (cf_r (cf_l (cf_r (cf_r (cf_r (cf_r (cf_l (cf_s rfl)))))))))))
      | 12, _ => exact Or.inl (hs (.not (.eq (.string "WarpDesk$Reader" 167) (.string "WarpDesk$Reader" 175))) (cf_r (cf_r (cf_r (cf_r (cf_r (cf_l (cf_r (cf_r (cf_l (cf_s rfl)))))))))))
      | j + 13, hj => exact absurd hj (by omega)
    | 9, _ =>
      match j, hj with
      | 0, _ => exact Or.inr (hs (.not (.eq (.string "WarpDesk$Reader" 106) (.string "WarpDesk$Reader" 169))) (cf_r (cf_r (cf_l (cf_r (cf_r (cf_l (cf_l (cf_r (cf_l (cf_s rfl)))))))))))
      | 1, _ => exact Or.inr (hs (.not (.eq (.string "WarpDesk$Reader" 153) (.string "WarpDesk$Reader" 169))) (cf_r (cf_r (cf_l (cf_r (cf_l (cf_r (cf_l (cf_r (cf_r (cf_s rfl)))))))))))
      | 2, _ => exact Or.inr (hs (.not (.eq (.string "WarpDesk$Reader" 155) (.string "WarpDesk$Reader" 169))) (cf_r (cf_r (cf_l (cf_r (cf_l (cf_r (cf_r (cf_l (cf_l (cf_s rfl)))))))))))
      | 3, _ => exact Or.inr (hs (.not (.eq (.string "WarpDesk$Reader" 157) (.string "WarpDesk$Reader" 169))) (cf_r (cf_r (cf_l (cf_r (cf_l (cf_r (cf_r (cf_l (cf_r (cf_s rfl)))))))))))
      | 4, _ => exact Or.inr (hs (.not (.eq (.string "WarpDesk$Reader" 159) (.string "WarpDesk$Reader" 169))) (cf_r (cf_r (cf_l (cf_r (cf_l (cf_r (cf_r (cf_r (cf_l (cf_s rfl)))))))))))
      | 5, _ => exact Or.inr (hs (.not (.eq (.string "WarpDesk$Reader" 161) (.string "WarpDesk$Reader" 169))) (cf_r (cf_r (cf_l (cf_r (cf_l (cf_r (cf_r (cf_r (cf_r (cf_s rfl)))))))))))
      | 6, _ => exact Or.inr (hs (.not (.eq (.string "WarpDesk$Reader" 163) (.string "WarpDesk$Reader" 169))) (cf_r (cf_r (cf_l (cf_r (cf_r (cf_l (cf_l (cf_l (cf_s rfl))))))))))
      | 7, _ => exact Or.inr (hs (.not (.eq (.string "WarpDesk$Reader" 165) (.string "WarpDesk$Reader" 169))) (cf_r (cf_r (cf_l (cf_r (cf_r (cf_l (cf_l (cf_r (cf_r (cf_s rfl)))))))))))
      | 8, _ => exact Or.inr (hs (.not (.eq (.string "WarpDesk$Reader" 167) (.string "WarpDesk$Reader" 169))) (cf_r (cf_r (cf_l (cf_r (cf_r (cf_l (cf_r (cf_l (cf_l (cf_s rfl)))))))))))
      | 9, _ => exact absurd rfl hij
      | 10, _ => exact Or.inl (hs (.not (.eq (.string "WarpDesk$Reader" 169) (.string "WarpDesk$Reader" 171))) (cf_r (cf_r (cf_r (cf_l (cf_l (cf_r (cf_l (cf_r (cf_l (cf_s rfl)))))))))))
      | 11, _ => exact Or.inl (hs (.not (.eq (.string "WarpDesk$Reader" 169) (.string "WarpDesk$Reader" 173))) (cf_r (cf_r (cf_r (cf_l (cf_r (cf_r (cf_r (cf_r (cf_r (cf_s rfl)))))))))))
      | 12, _ => exact Or.inl (hs (.not (.eq (.string "WarpDesk$Reader" 169) (.string "WarpDesk$Reader" 175))) (cf_r (cf_r (cf_r (cf_r (cf_r (cf_l (cf_r (cf_r (cf_r (cf_s rfl)))))))))))
      | j + 13, hj => exact absurd hj (by omega)
    | 10, _ =>
      match j, hj with
      | 0, _ => exact Or.inr (hs (.not (.eq (.string "WarpDesk$Reader" 106) (.string "WarpDesk$Reader" 171))) (cf_r (cf_r (cf_r (cf_l (cf_l (cf_l (cf_r (cf_r (cf_l (cf_s rfl)))))))))))
      | 1, _ => exact Or.inr (hs (.not (.eq (.string "WarpDesk$Reader" 153) (.string "WarpDesk$Reader" 171))) (cf_r (cf_r (cf_l (cf_r (cf_r (cf_r (cf_r (cf_r (cf_r (cf_s rfl)))))))))))
      | 2, _ => exact Or.inr (hs (.not (.eq (.string "WarpDesk$Reader" 155) (.string "WarpDesk$Reader" 171))) (cf_r (cf_r (cf_r (cf_l (cf_l (cf_l (cf_l (cf_l (cf_s rfl))))))))))
      | 3, _ => exact Or.inr (hs (.not (.eq (.string "WarpDesk$Reader" 157) (.string "WarpDesk$Reader" 171))) (cf_r (cf_r (cf_r (cf_l (cf_l (cf_l (cf_l (cf_r (cf_l (cf_s rfl)))))))))))
      | 4, _ => exact Or.inr (hs (.not (.eq (.string "WarpDesk$Reader" 159) (.string "WarpDesk$Reader" 171))) (cf_r (cf_r (cf_r (cf_l (cf_l (cf_l (cf_l (cf_r (cf_r (cf_s rfl)))))))))))
      | 5, _ => exact Or.inr (hs (.not (.eq (.string "WarpDesk$Reader" 161) (.string "WarpDesk$Reader" 171))) (cf_r (cf_r (cf_r (cf_l (cf_l (cf_l (cf_r (cf_l (cf_l (cf_s rfl)))))))))))
      | 6, _ => exact Or.inr (hs (.not (.eq (.string "WarpDesk$Reader" 163) (.string "WarpDesk$Reader" 171))) (cf_r (cf_r (cf_r (cf_l (cf_l (cf_l (cf_r (cf_l (cf_r (cf_s rfl)))))))))))
      | 7, _ => exact Or.inr (hs (.not (.eq (.string "WarpDesk$Reader" 165) (.string "WarpDesk$Reader" 171))) (cf_r (cf_r (cf_r (cf_l (cf_l (cf_l (cf_r (cf_r (cf_r (cf_s rfl)))))))))))
      | 8, _ => exact Or.inr (hs (.not (.eq (.string "WarpDesk$Reader" 167) (.string "WarpDesk$Reader" 171))) (cf_r (cf_r (cf_r (cf_l (cf_l (cf_r (cf_l (cf_l (cf_s rfl))))))))))
      | 9, _ => exact Or.inr (hs (.not (.eq (.string "WarpDesk$Reader" 169) (.string "WarpDesk$Reader" 171))) (cf_r (cf_r (cf_r (cf_l (cf_l (cf_r (cf_l (cf_r (cf_l (cf_s rfl)))))))))))
      | 10, _ => exact absurd rfl hij
      | 11, _ => exact Or.inl (hs (.not (.eq (.string "WarpDesk$Reader" 171) (.string "WarpDesk$Reader" 173))) (cf_r (cf_r (cf_r (cf_r (cf_l (cf_l (cf_l (cf_l (cf_s rfl))))))))))
      | 12, _ => exact Or.inl (hs (.not (.eq (.string "WarpDesk$Reader" 171) (.string "WarpDesk$Reader" 175))) (cf_r (cf_r (cf_r (cf_r (cf_r (cf_r (cf_l (cf_l (cf_l (cf_s rfl)))))))))))
      | j + 13, hj => exact absurd hj (by omega)
    | 11, _ =>
      match j, hj with
      | 0, _ => exact Or.inr (hs (.not (.eq (.string "WarpDesk$Reader" 106) (.string "WarpDesk$Reader" 173))) (cf_r (cf_r (cf_r (cf_l (cf_r (cf_r (cf_r (cf_l (cf_l (cf_s rfl)))))))))))
      | 1, _ => exact Or.inr (hs (.not (.eq (.string "WarpDesk$Reader" 153) (.string "WarpDesk$Reader" 173))) (cf_r (cf_r (cf_r (cf_l (cf_r (cf_l (cf_r (cf_l (cf_r (cf_s rfl)))))))))))
      | 2, _ => exact Or.inr (hs (.not (.eq (.string "WarpDesk$Reader" 155) (.string "WarpDesk$Reader" 173))) (cf_r (cf_r (cf_r (cf_l (cf_r (cf_l (cf_r (cf_r (cf_l (cf_s rfl)))))))))))
      | 3, _ => exact Or.inr (hs (.not (.eq (.string "WarpDesk$Reader" 157) (.string "WarpDesk$Reader" 173))) (cf_r (cf_r (cf_r (cf_l (cf_r (cf_l (cf_r (cf_r (cf_r (cf_s rfl)))))))))))
      | 4, _ => exact Or.inr (hs (.not (.eq (.string "WarpDesk$Reader" 159) (.string "WarpDesk$Reader" 173))) (cf_r (cf_r (cf_r (cf_l (cf_r (cf_r (cf_l (cf_l (cf_s rfl))))))))))
      | 5, _ => exact Or.inr (hs (.not (.eq (.string "WarpDesk$Reader" 161) (.string "WarpDesk$Reader" 173))) (cf_r (cf_r (cf_r (cf_l (cf_r (cf_r (cf_l (cf_r (cf_l (cf_s rfl)))))))))))
      | 6, _ => exact Or.inr (hs (.not (.eq (.string "WarpDesk$Reader" 163) (.string "WarpDesk$Reader" 173))) (cf_r (cf_r (cf_r (cf_l (cf_r (cf_r (cf_l (cf_r (cf_r (cf_s rfl)))))))))))
      | 7, _ => exact Or.inr (hs (.not (.eq (.string "WarpDesk$Reader" 165) (.string "WarpDesk$Reader" 173))) (cf_r (cf_r (cf_r (cf_l (cf_r (cf_r (cf_r (cf_l (cf_r (cf_s rfl)))))))))))
      | 8, _ => exact Or.inr (hs (.not (.eq (.string "WarpDesk$Reader" 167) (.string "WarpDesk$Reader" 173))) (cf_r (cf_r (cf_r (cf_l (cf_r (cf_r (cf_r (cf_r (cf_l (cf_s rfl)))))))))))
      | 9, _ => exact Or.inr (hs (.not (.eq (.string "WarpDesk$Reader" 169) (.string "WarpDesk$Reader" 173))) (cf_r (cf_r (cf_r (cf_l (cf_r (cf_r (cf_r (cf_r (cf_r (cf_s rfl)))))))))))
      | 10, _ => exact Or.inr (hs (.not (.eq (.string "WarpDesk$Reader" 171) (.string "WarpDesk$Reader" 173))) (cf_r (cf_r (cf_r (cf_r (cf_l (cf_l (cf_l (cf_l (cf_s rfl))))))))))
      | 11, _ => exact absurd rfl hij
      | 12, _ => exact Or.inl (hs (.not (.eq (.string "WarpDesk$Reader" 173) (.string "WarpDesk$Reader" 175))) (cf_r (cf_r (cf_r (cf_r (cf_r (cf_r (cf_l (cf_l (cf_r (cf_s rfl)))))))))))
      | j + 13, hj => exact absurd hj (by omega)
    | 12, _ =>
      match j, hj with
      | 0, _ => exact Or.inr (hs (.not (.eq (.string "WarpDesk$Reader" 106) (.string "WarpDesk$Reader" 175))) (cf_r (cf_r (cf_r (cf_r (cf_r (cf_l (cf_r (cf_l (cf_l (cf_s rfl)))))))))))
      | 1, _ => exact Or.inr (hs (.not (.eq (.string "WarpDesk$Reader" 153) (.string "WarpDesk$Reader" 175))) (cf_r (cf_r (cf_r (cf_r (cf_l (cf_r (cf_r (cf_l (cf_r (cf_s rfl)))))))))))
      | 2, _ => exact Or.inr (hs (.not (.eq (.string "WarpDesk$Reader" 155) (.string "WarpDesk$Reader" 175))) (cf_r (cf_r (cf_r (cf_r (cf_l (cf_r (cf_r (cf_r (cf_l (cf_s rfl)))))))))))
      | 3, _ => exact Or.inr (hs (.not (.eq (.string "WarpDesk$Reader" 157) (.string "WarpDesk$Reader" 175))) (cf_r (cf_r (cf_r (cf_r (cf_l (cf_r (cf_r (cf_r (cf_r (cf_s rfl)))))))))))
      | 4, _ => exact Or.inr (hs (.not (.eq (.string "WarpDesk$Reader" 159) (.string "WarpDesk$Reader" 175))) (cf_r (cf_r (cf_r (cf_r (cf_r (cf_l (cf_l (cf_l (cf_s rfl))))))))))
      | 5, _ => exact Or.inr (hs (.not (.eq (.string "WarpDesk$Reader" 161) (.string "WarpDesk$Reader" 175))) (cf_r (cf_r (cf_r (cf_r (cf_r (cf_l (cf_l (cf_r (cf_l (cf_s rfl)))))))))))
      | 6, _ => exact Or.inr (hs (.not (.eq (.string "WarpDesk$Reader" 163) (.string "WarpDesk$Reader" 175))) (cf_r (cf_r (cf_r (cf_r (cf_r (cf_l (cf_l (cf_r (cf_r (cf_s rfl)))))))))))
      | 7, _ => exact Or.inr (hs (.not (.eq (.string "WarpDesk$Reader" 165) (.string "WarpDesk$Reader" 175))) (cf_r (cf_r (cf_r (cf_r (cf_r (cf_l (cf_r (cf_l (cf_r (cf_s rfl)))))))))))
      | 8, _ => exact Or.inr (hs (.not (.eq (.string "WarpDesk$Reader" 167) (.string "WarpDesk$Reader" 175))) (cf_r (cf_r (cf_r (cf_r (cf_r (cf_l (cf_r (cf_r (cf_l (cf_s rfl)))))))))))
      | 9, _ => exact Or.inr (hs (.not (.eq (.string "WarpDesk$Reader" 169) (.string "WarpDesk$Reader" 175))) (cf_r (cf_r (cf_r (cf_r (cf_r (cf_l (cf_r (cf_r (cf_r (cf_s rfl)))))))))))
      | 10, _ => exact Or.inr (hs (.not (.eq (.string "WarpDesk$Reader" 171) (.string "WarpDesk$Reader" 175))) (cf_r (cf_r (cf_r (cf_r (cf_r (cf_r (cf_l (cf_l (cf_l (cf_s rfl)))))))))))
      | 11, _ => exact Or.inr (hs (.not (.eq (.string "WarpDesk$Reader" 173) (.string "WarpDesk$Reader" 175))) (cf_r (cf_r (cf_r (cf_r (cf_r (cf_r (cf_l (cf_l (cf_r (cf_s rfl)))))))))))
      | 12, _ => exact absurd rfl hij
      | j + 13, hj => exact absurd hj (by omega)
    | i + 13, hi => exact absurd hi (by omega)
  obtain ⟨adK, adV, hVS, hAd⟩ := vk_Sof (args := #[Value.ref b]) (s := s) (N := 13) (tm := fun i => (.string RX5 (kSt.getD i (0, "")).1)) (len := lenS) (byt := bytS) (A := fun q : Nat => s.heap.size ≤ q) (by decide) sEx sCo sAr sLe sEl sNe hA'
  have hCS : va_Z "java/lang/String" "COMPACT_STRINGS" "Z" (.int 1) (fun q : Nat => s.heap.size ≤ q) s s.heap := va_Zof (hts (.laysStatic "java/lang/String" "COMPACT_STRINGS" "Z") (ub_3_1 (List.mem_of_getElem? (i := 4) rfl))) (hts (.initialized "java/lang/String") (ub_1_0 (List.mem_of_getElem? (i := 14) rfl))) (va_eqt (z := 1) (hs (.eq (.static "java/lang/String" "COMPACT_STRINGS" "Z") (.int 1)) (cf_r (cf_l (cf_l (cf_l (cf_l (cf_r (cf_l (cf_r (cf_r (cf_s rfl)))))))))))) hA'
  have hSF : va_Zq "jdk/internal/util/Preconditions" "SIOOBE_FORMATTER" "Ljava/util/function/BiFunction;" (fun q : Nat => s.heap.size ≤ q) s s.heap := va_Zqof (hts (.laysStatic "jdk/internal/util/Preconditions" "SIOOBE_FORMATTER" "Ljava/util/function/BiFunction;") (ub_3_1 (List.mem_of_getElem? (i := 20) rfl))) (hts (.initialized "jdk/internal/util/Preconditions") (ub_1_0 (List.mem_of_getElem? (i := 16) rfl))) (hs (.isRef (.static "jdk/internal/util/Preconditions" "SIOOBE_FORMATTER" "Ljava/util/function/BiFunction;")) (cf_r (cf_l (cf_l (cf_l (cf_l (cf_r (cf_r (cf_l (cf_l (cf_s rfl))))))))))) hA'
  have hSR : ∀ i : Nat, i < 13 → vk_R RX5 (kSt.getD i (0, "")).1 (kSt.getD i (0, "")).2 (adK i) s := by
    intro i hi
    match i, hi with
    | 0, _ => exact vk_R.of (A := #[Value.ref b]) (hts (.stringRef "WarpDesk$Reader" 106 "gap") (ub_3_3 (List.mem_of_getElem? (i := 4) rfl))) (hAd 0 (by decide))
    | 1, _ => exact vk_R.of (A := #[Value.ref b]) (hts (.stringRef "WarpDesk$Reader" 153 "series") (ub_3_0 (List.mem_of_getElem? (i := 10) rfl))) (hAd 1 (by decide))
    | 2, _ => exact vk_R.of (A := #[Value.ref b]) (hts (.stringRef "WarpDesk$Reader" 155 "query") (ub_3_2 (List.mem_of_getElem? (i := 19) rfl))) (hAd 2 (by decide))
    | 3, _ => exact vk_R.of (A := #[Value.ref b]) (hts (.stringRef "WarpDesk$Reader" 157 "band") (ub_3_2 (List.mem_of_getElem? (i := 20) rfl))) (hAd 3 (by decide))
    | 4, _ => exact vk_R.of (A := #[Value.ref b]) (hts (.stringRef "WarpDesk$Reader" 159 "level") (ub_3_2 (List.mem_of_getElem? (i := 21) rfl))) (hAd 4 (by decide))
    | 5, _ => exact vk_R.of (A := #[Value.ref b]) (hts (.stringRef "WarpDesk$Reader" 161 "cost") (ub_3_2 (List.mem_of_getElem? (i := 22) rfl))) (hAd 5 (by decide))
    | 6, _ => exact vk_R.of (A := #[Value.ref b]) (hts (.stringRef "WarpDesk$Reader" 163 "apart") (ub_3_2 (List.mem_of_getElem? (i := 23) rfl))) (hAd 6 (by decide))
    | 7, _ => exact vk_R.of (A := #[Value.ref b]) (hts (.stringRef "WarpDesk$Reader" 165 "none") (ub_3_3 (List.mem_of_getElem? (i := 13) rfl))) (hAd 7 (by decide))
    | 8, _ => exact vk_R.of (A := #[Value.ref b]) (hts (.stringRef "WarpDesk$Reader" 167 "mean") (ub_3_3 (List.mem_of_getElem? (i := 14) rfl))) (hAd 8 (by decide))
    | 9, _ => exact vk_R.of (A := #[Value.ref b]) (hts (.stringRef "WarpDesk$Reader" 169 "first") (ub_3_3 (List.mem_of_getElem? (i := 15) rfl))) (hAd 9 (by decide))
    | 10, _ => exact vk_R.of (A := #[Value.ref b]) (hts (.stringRef "WarpDesk$Reader" 171 "range") (ub_3_3 (List.mem_of_getElem? (i := 16) rfl))) (hAd 10 (by decide))
    | 11, _ => exact vk_R.of (A := #[Value.ref b]) (hts (.stringRef "WarpDesk$Reader" 173 "plain") (ub_3_3 (List.mem_of_getElem? (i := 21) rfl))) (hAd 11 (by decide))
    | 12, _ => exact vk_R.of (A := #[Value.ref b]) (hts (.stringRef "WarpDesk$Reader" 175 "square") (ub_3_3 (List.mem_of_getElem? (i := 22) rfl))) (hAd 12 (by decide))
    | i + 13, hi => exact absurd hi (by omega)
  have hNS : NS adK s := ⟨va_AO.of (hts (.arrayOver (.object "WarpDesk$Stand")) (ub_1_9 (List.mem_of_getElem? (i := 2) rfl))), va_Nw.of rfl (hts (.castable "[I" "java/lang/Cloneable") (ub_1_3 (List.mem_of_getElem? (i := 14) rfl))), va_Nw.of rfl (hts (.methodLinkNest RX11 9 yX10_init "WarpDesk") (ub_1_1 (List.mem_of_getElem? (i := 5) rfl))), va_Nw.of rfl (hts (.methodLinkNest RX5 11 yX8_init "WarpDesk") (ub_1_2 (List.mem_of_getElem? (i := 21) rfl))), va_Nw.of rfl (hts (.methodLinkNest RX8 17 yX7_init "WarpDesk") (ub_1_3 (List.mem_of_getElem? (i := 3) rfl))), va_Nw.of rfl (hts (.methodLinkNest RX5 20 yX4_init "WarpDesk") (ub_1_4 (List.mem_of_getElem? (i := 15) rfl))), va_Nw.of rfl (hts (.methodLinkNest RX11 27 yX6_init "WarpDesk") (ub_1_7 (List.mem_of_getElem? (i := 6) rfl))), va_Nw.of rfl (hts (.methodLinkNest RX11 34 yX4_init "WarpDesk") (ub_1_7 (List.mem_of_getElem? (i := 23) rfl))), va_Nw.of rfl (hts (.methodLinkNest RX11 41 yX7_init "WarpDesk") (ub_1_8 (List.mem_of_getElem? (i := 1) rfl))), va_Nw.of rfl (hts (.methodLinkNest RX11 48 yX3_init "WarpDesk") (ub_1_8 (List.mem_of_getElem? (i := 4) rfl))), va_Nw.of rfl (hts (.methodLinkNest RX11 55 yX8_init "WarpDesk") (ub_1_9 (List.mem_of_getElem? (i := 3) rfl))), va_Nw.of rfl (hts (.methodLinkNest RX0 11 yX2_init "WarpDesk") (ub_1_9 (List.mem_of_getElem? (i := 12) rfl))), hSR⟩
  have hl := lv_entry ([.ref b]) (n := 4) (Nat.le_of_ble_eq_true rfl)
  rw [lg_entry_eq]
  exact law_walk (κ := (p, l, e, room_1, s, m, #[Value.ref b], below, meth, c, (dC, dI), (fun q : Nat => s.heap.size ≤ q), lw_Z below #[Value.ref b] s)) (l := l) (D := (dC, dI)) (zt := (t0, t1, t2, adK, adV)) (b := b) (L := L) (xs := xs)
    ⟨hx, hb, hml, hown, hts, ⟨hKc, fun k q h => by simp at h⟩, fun _ h => h, rfl, ⟨⟨hZt0, hTt0, hVS, hCS, hSF⟩, ⟨hZt1, hTt1⟩, ⟨hZt2, hTt2⟩, hZU, hNS⟩, rfl, rfl⟩ ⟨hX, hbl, Nat.not_le.mpr hbl⟩ hL
    (fun ws pc lv n1 n2 k1 k2 hd H locs ls hP hD hS hl => va_forget (fun q hq => hS.2.2 q hq) (W.widen k1 k2 (lw_ret hx hb hr hlocks hd)))
    s.heap [] _ (fun k q h => by simp at h) ⟨fun i j p q h => by simp at h, fun k q h => by simp at h⟩ va_S.rf hl
-- ===== YOUR PART ENDS =====
end
