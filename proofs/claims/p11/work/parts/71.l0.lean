set_option maxHeartbeats 4000000 in
set_option maxRecDepth 100000 in
theorem law_0 {κ : Cx} {l : Launch} {D : va_G} {zt : Nat × Nat × Nat × (Nat → Nat) × (Nat → Nat)} {q r : Nat → Nat} {d g : Nat → ClassId} {b L : Nat} {xs : Nat → Int32} (hk : GC κ l D zt code 4 RL lw_tbl (tyX d ++ tyM g) room_1) (hX : GX κ b L xs) (i : Int32) (h0 : 0 ≤ i.toInt) (h6 : i.toInt + 6 ≤ (L : Int)) (hL : L ≤ 3072) (I : Nat → Int32) (A : Nat → Nat → Int32) (J : Nat → Int32) (B : Nat → Nat → Int32) (M : Nat → Nat → Int64) (hI : IvX I A) (hJ : IvM J B) (hS : RA I A J B M) (tail : ∀ (I : Nat → Int32) (A : Nat → Nat → Int32) (J : Nat → Int32) (B : Nat → Nat → Int32) (M : Nat → Nat → Int64), IvX I A → IvM J B → RA I A J B M → GW κ 4 82 21282 (wX q d I A ++ wM r g J B M) 1465 [(3, .int i), (2, .ref (r 0)), (1, .ref (q 0)), (0, .ref b)] []) : GW κ 4 82 21282 (wX q d I A ++ wM r g J B M) 212 [(3, .int i), (2, .ref (r 0)), (1, .ref (q 0)), (0, .ref b)] [] := by
  refine g_aload_n hk dL_law_212 rfl ?_
  refine g_aload_n hk dL_law_213 rfl ?_
  refine g_iload_n hk dL_law_214 rfl ?_
  refine g_iconst (v := 1) hk dL_law_215 (by decide) ?_
  refine g_iadd hk dL_law_216 ?_
  refine g_topi (fun y1 ey1 => ?_)
  have hy1 : y1.toInt = i.toInt + 1 := i32_add ey1 rfl (by decide) (by omega) (by omega)
  refine g_sld (v := xs y1.toNatClampNeg) hk hX (vp_in_iff.mpr ⟨by omega, by omega⟩) rfl dL_law_217 ?_
  refine g_aload_n hk dL_law_218 rfl ?_
  refine g_iload_n hk dL_law_219 rfl ?_
  refine g_iconst (v := 2) hk dL_law_220 (by decide) ?_
  refine g_iadd hk dL_law_221 ?_
  refine g_topi (fun y2 ey2 => ?_)
  have hy2 : y2.toInt = i.toInt + 2 := i32_add ey2 rfl (by decide) (by omega) (by omega)
  refine g_sld (v := xs y2.toNatClampNeg) hk hX (vp_in_iff.mpr ⟨by omega, by omega⟩) rfl dL_law_222 ?_
  refine g_aload_n hk dL_law_223 rfl ?_
  refine g_iload_n hk dL_law_224 rfl ?_
  refine g_iconst (v := 3) hk dL_law_225 (by decide) ?_
  refine g_iadd hk dL_law_226 ?_
  refine g_topi (fun y3 ey3 => ?_)
  have hy3 : y3.toInt = i.toInt + 3 := i32_add ey3 rfl (by decide) (by omega) (by omega)
  refine g_sld (v := xs y3.toNatClampNeg) hk hX (vp_in_iff.mpr ⟨by omega, by omega⟩) rfl dL_law_227 ?_
  refine g_aload_n hk dL_law_228 rfl ?_
  refine g_iload_n hk dL_law_229 rfl ?_
  refine g_iconst (v := 4) hk dL_law_230 (by decide) ?_
  refine g_iadd hk dL_law_231 ?_
  refine g_topi (fun y4 ey4 => ?_)
  have hy4 : y4.toInt = i.toInt + 4 := i32_add ey4 rfl (by decide) (by omega) (by omega)
  refine g_sld (v := xs y4.toNatClampNeg) hk hX (vp_in_iff.mpr ⟨by omega, by omega⟩) rfl dL_law_232 ?_
  refine g_aload_n hk dL_law_233 rfl ?_
  refine g_iload_n hk dL_law_234 rfl ?_
  refine g_iconst (v := 5) hk dL_law_235 (by decide) ?_
  refine g_iadd hk dL_law_236 ?_
  refine g_topi (fun y5 ey5 => ?_)
  have hy5 : y5.toInt = i.toInt + 5 := i32_add ey5 rfl (by decide) (by omega) (by omega)
  refine g_sld (v := xs y5.toNatClampNeg) hk hX (vp_in_iff.mpr ⟨by omega, by omega⟩) rfl dL_law_237 ?_
  refine g_callV (n := 5) hk (k113_X11_feed l D zt q d I A (xs y1.toNatClampNeg) (xs y2.toNatClampNeg) (xs y3.toNatClampNeg) (xs y4.toNatClampNeg) (xs y5.toNatClampNeg) hI) (SP.pre _ _) (fun q h => List.mem_append_left _ h) (gi_V zw_518 zw_519 zw_520 zw_103 (gi_sub zi_k113_X11_feed zg_k113_X11_feed)) rfl rfl rfl (by decide +kernel) ⟨Nat.le_of_ble_eq_true rfl, Nat.le_of_ble_eq_true rfl⟩ 0 rfl rfl rfl rfl (Nat.le_of_ble_eq_true rfl) ⟨Nat.le_of_ble_eq_true rfl, Nat.le_of_ble_eq_true rfl⟩ dL_law_238 (fun v ty' w' hp hk' => ?_)
  obtain ⟨I7, A7, d7, a7, h7, v6, r8, c9, c10, e7, rfl, rfl⟩ := hp
  show GW κ 4 82 21282 (wM r g J B M ++ wX q d I7 A7) 241 [(3, .int i), (2, .ref (r 0)), (1, .ref (q 0)), (0, .ref b)] [.int v6]
  refine g_pop hk dL_law_241 rfl ?_
  refine g_aload_n hk dL_law_242 rfl ?_
  refine g_aload_n hk dL_law_243 rfl ?_
  refine g_iload_n hk dL_law_244 rfl ?_
  refine g_iconst (v := 1) hk dL_law_245 (by decide) ?_
  refine g_iadd hk dL_law_246 ?_
  refine g_topi (fun y11 ey11 => ?_)
  have qy11 : y11 = y1 := ey11.trans ey1.symm
  subst qy11
  refine g_sld (v := xs y11.toNatClampNeg) hk hX (vp_in_iff.mpr ⟨by omega, by omega⟩) rfl dL_law_247 ?_
  refine g_aload_n hk dL_law_248 rfl ?_
  refine g_iload_n hk dL_law_249 rfl ?_
  refine g_iconst (v := 2) hk dL_law_250 (by decide) ?_
  refine g_iadd hk dL_law_251 ?_
  refine g_topi (fun y12 ey12 => ?_)
  have qy12 : y12 = y2 := ey12.trans ey2.symm
  subst qy12
  refine g_sld (v := xs y12.toNatClampNeg) hk hX (vp_in_iff.mpr ⟨by omega, by omega⟩) rfl dL_law_252 ?_
  refine g_aload_n hk dL_law_253 rfl ?_
  refine g_iload_n hk dL_law_254 rfl ?_
  refine g_iconst (v := 3) hk dL_law_255 (by decide) ?_
  refine g_iadd hk dL_law_256 ?_
  refine g_topi (fun y13 ey13 => ?_)
  have qy13 : y13 = y3 := ey13.trans ey3.symm
  subst qy13
  refine g_sld (v := xs y13.toNatClampNeg) hk hX (vp_in_iff.mpr ⟨by omega, by omega⟩) rfl dL_law_257 ?_
  refine g_aload_n hk dL_law_258 rfl ?_
  refine g_iload_n hk dL_law_259 rfl ?_
  refine g_iconst (v := 4) hk dL_law_260 (by decide) ?_
  refine g_iadd hk dL_law_261 ?_
  refine g_topi (fun y14 ey14 => ?_)
  have qy14 : y14 = y4 := ey14.trans ey4.symm
  subst qy14
  refine g_sld (v := xs y14.toNatClampNeg) hk hX (vp_in_iff.mpr ⟨by omega, by omega⟩) rfl dL_law_262 ?_
  refine g_aload_n hk dL_law_263 rfl ?_
  refine g_iload_n hk dL_law_264 rfl ?_
  refine g_iconst (v := 5) hk dL_law_265 (by decide) ?_
  refine g_iadd hk dL_law_266 ?_
  refine g_topi (fun y15 ey15 => ?_)
  have qy15 : y15 = y5 := ey15.trans ey5.symm
  subst qy15
  refine g_sld (v := xs y15.toNatClampNeg) hk hX (vp_in_iff.mpr ⟨by omega, by omega⟩) rfl dL_law_267 ?_
  refine g_callV (n := 5) hk (j113_X12_feed l D zt r g J B M (xs y11.toNatClampNeg) (xs y12.toNatClampNeg) (xs y13.toNatClampNeg) (xs y14.toNatClampNeg) (xs y15.toNatClampNeg) hJ) (SP.pre _ _) (fun q h => List.mem_append_right _ h) (gi_V zw_1545 zw_1546 zw_1547 zw_115 (gi_sub zi_j113_X12_feed zg_j113_X12_feed)) rfl rfl rfl (by decide +kernel) ⟨Nat.le_of_ble_eq_true rfl, Nat.le_of_ble_eq_true rfl⟩ 0 rfl rfl rfl rfl (Nat.le_of_ble_eq_true rfl) ⟨Nat.le_of_ble_eq_true rfl, Nat.le_of_ble_eq_true rfl⟩ dL_law_268 (fun v ty' w' hp hk' => ?_)
  obtain ⟨I17, A17, L17, d17, a17, h17, v16, r18, l17, c19, c20, e17, rfl, rfl⟩ := hp
  show GW κ 4 82 21282 (wX q d I7 A7 ++ wM r g I17 A17 L17) 271 [(3, .int i), (2, .ref (r 0)), (1, .ref (q 0)), (0, .ref b)] [.int v16]
  refine g_pop hk dL_law_271 rfl ?_
  refine g_goto (tgt := 1465) hk dL_law_272 (by decide) ?_
  exact tail I7 A7 I17 A17 L17 h7 h17 ⟨⟨(RT.feed hS.1.1 hI e7 e17).1, (((d7 12 rfl).trans hS.1.2.1).trans (d17 10 rfl).symm), (((d7 13 rfl).trans hS.1.2.2).trans (d17 14 rfl).symm)⟩, (hS.2.1.keep (d7 17 rfl) (d7 18 rfl) (d7 20 rfl) (d7 21 rfl) (a7 7 rfl) (a7 10 rfl) (a7 11 rfl) (a7 12 rfl) (a7 13 rfl) (d17 22 rfl) (a17 17 rfl) (a17 22 rfl)), (hS.2.2.1.keep (d7 19 rfl) (a7 8 rfl) (a7 9 rfl) (d17 15 rfl) (a17 10 rfl) (a17 11 rfl) (a17 12 rfl)), (hS.2.2.2.keep (d7 22 rfl) (d7 23 rfl) (d7 24 rfl) (d7 25 rfl) (d7 26 rfl) (d7 27 rfl) (a7 15 rfl) (a7 16 rfl) (a7 17 rfl) (a7 18 rfl) (a7 19 rfl) (a7 20 rfl) (a17 27 rfl) (a17 28 rfl))⟩
set_option maxHeartbeats 4000000 in
set_option maxRecDepth 100000 in
theorem law_1 {κ : Cx} {l : Launch} {D : va_G} {zt : Nat × Nat × Nat × (Nat → Nat) × (Nat → Nat)} {q r : Nat → Nat} {d g : Nat → ClassId} {b L : Nat} {xs : Nat → Int32} (hk : GC κ l D zt code 4 RL lw_tbl (tyX d ++ tyM g) room_1) (hX : GX κ b L xs) (i : Int32) (h0 : 0 ≤ i.toInt) (h6 : i.toInt + 6 ≤ (L : Int)) (hL : L ≤ 3072) (I : Nat → Int32) (A : Nat → Nat → Int32) (J : Nat → Int32) (B : Nat → Nat → Int32) (M : Nat → Nat → Int64) (hI : IvX I A) (hJ : IvM J B) (hS : RA I A J B M) (tail : ∀ (I : Nat → Int32) (A : Nat → Nat → Int32) (J : Nat → Int32) (B : Nat → Nat → Int32) (M : Nat → Nat → Int64), IvX I A → IvM J B → RA I A J B M → GW κ 4 82 21282 (wX q d I A ++ wM r g J B M) 1465 [(3, .int i), (2, .ref (r 0)), (1, .ref (q 0)), (0, .ref b)] []) : GW κ 4 82 21282 (wX q d I A ++ wM r g J B M) 275 [(3, .int i), (2, .ref (r 0)), (1, .ref (q 0)), (0, .ref b)] [] := by
  refine g_aload_n hk dL_law_275 rfl ?_
  refine g_aload_n hk dL_law_276 rfl ?_
  refine g_iload_n hk dL_law_277 rfl ?_
  refine g_iconst (v := 1) hk dL_law_278 (by decide) ?_
  refine g_iadd hk dL_law_279 ?_
  refine g_topi (fun y1 ey1 => ?_)
  have hy1 : y1.toInt = i.toInt + 1 := i32_add ey1 rfl (by decide) (by omega) (by omega)
  refine g_sld (v := xs y1.toNatClampNeg) hk hX (vp_in_iff.mpr ⟨by omega, by omega⟩) rfl dL_law_280 ?_
  refine g_callV (n := 1) hk (k115_X11_back l D zt q d I A (xs y1.toNatClampNeg) hI) (SP.pre _ _) (fun q h => List.mem_append_left _ h) (gi_V zw_526 zw_527 zw_528 zw_103 (gi_sub zi_k115_X11_back zg_k115_X11_back)) rfl rfl rfl (by decide +kernel) ⟨Nat.le_of_ble_eq_true rfl, Nat.le_of_ble_eq_true rfl⟩ 0 rfl rfl rfl rfl (Nat.le_of_ble_eq_true rfl) ⟨Nat.le_of_ble_eq_true rfl, Nat.le_of_ble_eq_true rfl⟩ dL_law_281 (fun v ty' w' hp hk' => ?_)
  obtain ⟨I3, A3, d3, a3, h3, v2, r4, c5, c6, e3, rfl, rfl⟩ := hp
  show GW κ 4 82 21282 (wM r g J B M ++ wX q d I3 A3) 284 [(3, .int i), (2, .ref (r 0)), (1, .ref (q 0)), (0, .ref b)] [.int v2]
  refine g_pop hk dL_law_284 rfl ?_
  refine g_aload_n hk dL_law_285 rfl ?_
  refine g_aload_n hk dL_law_286 rfl ?_
  refine g_iload_n hk dL_law_287 rfl ?_
  refine g_iconst (v := 1) hk dL_law_288 (by decide) ?_
  refine g_iadd hk dL_law_289 ?_
  refine g_topi (fun y7 ey7 => ?_)
  have qy7 : y7 = y1 := ey7.trans ey1.symm
  subst qy7
  refine g_sld (v := xs y7.toNatClampNeg) hk hX (vp_in_iff.mpr ⟨by omega, by omega⟩) rfl dL_law_290 ?_
  refine g_callV (n := 1) hk (j115_X12_back l D zt r g J B M (xs y7.toNatClampNeg) hJ) (SP.pre _ _) (fun q h => List.mem_append_right _ h) (gi_V zw_1553 zw_1554 zw_1555 zw_115 (gi_sub zi_j115_X12_back zg_j115_X12_back)) rfl rfl rfl (by decide +kernel) ⟨Nat.le_of_ble_eq_true rfl, Nat.le_of_ble_eq_true rfl⟩ 0 rfl rfl rfl rfl (Nat.le_of_ble_eq_true rfl) ⟨Nat.le_of_ble_eq_true rfl, Nat.le_of_ble_eq_true rfl⟩ dL_law_291 (fun v ty' w' hp hk' => ?_)
  obtain ⟨I9, A9, L9, d9, a9, h9, v8, r10, l9, c11, c12, e9, rfl, rfl⟩ := hp
  show GW κ 4 82 21282 (wX q d I3 A3 ++ wM r g I9 A9 L9) 294 [(3, .int i), (2, .ref (r 0)), (1, .ref (q 0)), (0, .ref b)] [.int v8]
  refine g_pop hk dL_law_294 rfl ?_
  refine g_goto (tgt := 1465) hk dL_law_295 (by decide) ?_
  exact tail I3 A3 I9 A9 L9 h3 h9 ⟨⟨(RT.back hS.1.1 hI e3 e9).1, (((d3 12 rfl).trans hS.1.2.1).trans (d9 10 rfl).symm), (((d3 13 rfl).trans hS.1.2.2).trans (d9 14 rfl).symm)⟩, (hS.2.1.keep (d3 17 rfl) (d3 18 rfl) (d3 20 rfl) (d3 21 rfl) (a3 7 rfl) (a3 10 rfl) (a3 11 rfl) (a3 12 rfl) (a3 13 rfl) (d9 22 rfl) (a9 17 rfl) (a9 22 rfl)), (hS.2.2.1.keep (d3 19 rfl) (a3 8 rfl) (a3 9 rfl) (d9 15 rfl) (a9 10 rfl) (a9 11 rfl) (a9 12 rfl)), (hS.2.2.2.keep (d3 22 rfl) (d3 23 rfl) (d3 24 rfl) (d3 25 rfl) (d3 26 rfl) (d3 27 rfl) (a3 15 rfl) (a3 16 rfl) (a3 17 rfl) (a3 18 rfl) (a3 19 rfl) (a3 20 rfl) (a9 27 rfl) (a9 28 rfl))⟩
set_option maxHeartbeats 4000000 in
set_option maxRecDepth 100000 in
theorem law_2 {κ : Cx} {l : Launch} {D : va_G} {zt : Nat × Nat × Nat × (Nat → Nat) × (Nat → Nat)} {q r : Nat → Nat} {d g : Nat → ClassId} {b L : Nat} {xs : Nat → Int32} (hk : GC κ l D zt code 4 RL lw_tbl (tyX d ++ tyM g) room_1) (hX : GX κ b L xs) (i : Int32) (h0 : 0 ≤ i.toInt) (h6 : i.toInt + 6 ≤ (L : Int)) (hL : L ≤ 3072) (I : Nat → Int32) (A : Nat → Nat → Int32) (J : Nat → Int32) (B : Nat → Nat → Int32) (M : Nat → Nat → Int64) (hI : IvX I A) (hJ : IvM J B) (hS : RA I A J B M) (tail : ∀ (I : Nat → Int32) (A : Nat → Nat → Int32) (J : Nat → Int32) (B : Nat → Nat → Int32) (M : Nat → Nat → Int64), IvX I A → IvM J B → RA I A J B M → GW κ 4 82 21282 (wX q d I A ++ wM r g J B M) 1465 [(3, .int i), (2, .ref (r 0)), (1, .ref (q 0)), (0, .ref b)] []) : GW κ 4 82 21282 (wX q d I A ++ wM r g J B M) 298 [(3, .int i), (2, .ref (r 0)), (1, .ref (q 0)), (0, .ref b)] [] := by
  refine g_aload_n hk dL_law_298 rfl ?_
  refine g_callV (n := 0) hk (k116_X11_read l D zt q d I A  hI) (SP.pre _ _) (fun q h => List.mem_append_left _ h) (gi_V zw_530 zw_531 zw_532 zw_103 (gi_sub zi_k116_X11_read zg_k116_X11_read)) rfl rfl rfl (by decide +kernel) ⟨Nat.le_of_ble_eq_true rfl, Nat.le_of_ble_eq_true rfl⟩ 0 rfl rfl rfl rfl (Nat.le_of_ble_eq_true rfl) ⟨Nat.le_of_ble_eq_true rfl, Nat.le_of_ble_eq_true rfl⟩ dL_law_299 (fun v ty' w' hp hk' => ?_)
  obtain ⟨I2, A2, d2, a2, h2, v1, r3, e2, rfl, rfl⟩ := hp
  show GW κ 4 82 21282 (wM r g J B M ++ wX q d I2 A2) 302 [(3, .int i), (2, .ref (r 0)), (1, .ref (q 0)), (0, .ref b)] [.int v1]
  refine g_pop hk dL_law_302 rfl ?_
  refine g_aload_n hk dL_law_303 rfl ?_
  refine g_callV (n := 0) hk (j116_X12_read l D zt r g J B M  hJ) (SP.pre _ _) (fun q h => List.mem_append_right _ h) (gi_V zw_1557 zw_1558 zw_1559 zw_115 (gi_sub zi_j116_X12_read zg_j116_X12_read)) rfl rfl rfl (by decide +kernel) ⟨Nat.le_of_ble_eq_true rfl, Nat.le_of_ble_eq_true rfl⟩ 0 rfl rfl rfl rfl (Nat.le_of_ble_eq_true rfl) ⟨Nat.le_of_ble_eq_true rfl, Nat.le_of_ble_eq_true rfl⟩ dL_law_304 (fun v ty' w' hp hk' => ?_)
  obtain ⟨I5, A5, L5, d5, a5, h5, v4, r6, c7, c8, e5, rfl, rfl⟩ := hp
  show GW κ 4 82 21282 (wX q d I2 A2 ++ wM r g I5 A5 L5) 307 [(3, .int i), (2, .ref (r 0)), (1, .ref (q 0)), (0, .ref b)] [.int v4]
  refine g_pop hk dL_law_307 rfl ?_
  refine g_goto (tgt := 1465) hk dL_law_308 (by decide) ?_
  exact tail I2 A2 I5 A5 L5 h2 h5 ⟨⟨(RT.read hS.1.1 hI hJ e2 e5 r3 r6).1, read_pc hS.1.1 hI hJ e2 e5 h2⟩, (read_st hS.1.1 hS.2.1 hS.2.2.1 hS.2.2.2 hI hJ e2 e5).1, (read_st hS.1.1 hS.2.1 hS.2.2.1 hS.2.2.2 hI hJ e2 e5).2.1, (read_st hS.1.1 hS.2.1 hS.2.2.1 hS.2.2.2 hI hJ e2 e5).2.2⟩
set_option maxHeartbeats 4000000 in
set_option maxRecDepth 100000 in
theorem law_3 {κ : Cx} {l : Launch} {D : va_G} {zt : Nat × Nat × Nat × (Nat → Nat) × (Nat → Nat)} {q r : Nat → Nat} {d g : Nat → ClassId} {b L : Nat} {xs : Nat → Int32} (hk : GC κ l D zt code 4 RL lw_tbl (tyX d ++ tyM g) room_1) (hX : GX κ b L xs) (i : Int32) (h0 : 0 ≤ i.toInt) (h6 : i.toInt + 6 ≤ (L : Int)) (hL : L ≤ 3072) (I : Nat → Int32) (A : Nat → Nat → Int32) (J : Nat → Int32) (B : Nat → Nat → Int32) (M : Nat → Nat → Int64) (hI : IvX I A) (hJ : IvM J B) (hS : RA I A J B M) (tail : ∀ (I : Nat → Int32) (A : Nat → Nat → Int32) (J : Nat → Int32) (B : Nat → Nat → Int32) (M : Nat → Nat → Int64), IvX I A → IvM J B → RA I A J B M → GW κ 4 82 21282 (wX q d I A ++ wM r g J B M) 1465 [(3, .int i), (2, .ref (r 0)), (1, .ref (q 0)), (0, .ref b)] []) : GW κ 4 82 21282 (wX q d I A ++ wM r g J B M) 311 [(3, .int i), (2, .ref (r 0)), (1, .ref (q 0)), (0, .ref b)] [] := by
  refine g_aload_n hk dL_law_311 rfl ?_
  refine g_callV (n := 0) hk (k176_X11_place l D zt q d I A  hI) (SP.pre _ _) (fun q h => List.mem_append_left _ h) (gi_V zw_794 zw_795 zw_796 zw_103 (gi_sub zi_k176_X11_place zg_k176_X11_place)) rfl rfl rfl (by decide +kernel) ⟨Nat.le_of_ble_eq_true rfl, Nat.le_of_ble_eq_true rfl⟩ 0 rfl rfl rfl rfl (Nat.le_of_ble_eq_true rfl) ⟨Nat.le_of_ble_eq_true rfl, Nat.le_of_ble_eq_true rfl⟩ dL_law_312 (fun v ty' w' hp hk' => ?_)
  obtain ⟨v1, e2, rfl, rfl⟩ := hp
  show GW κ 4 82 21282 (wM r g J B M ++ wX q d I A) 315 [(3, .int i), (2, .ref (r 0)), (1, .ref (q 0)), (0, .ref b)] [.int v1]
  refine g_pop hk dL_law_315 rfl ?_
  refine g_aload_n hk dL_law_316 rfl ?_
  refine g_callV (n := 0) hk (j140_X12_place l D zt r g J B M  hJ) (SP.pre _ _) (fun q h => List.mem_append_right _ h) (gi_V zw_1636 zw_1637 zw_1638 zw_115 (gi_sub zi_j140_X12_place zg_j140_X12_place)) rfl rfl rfl (by decide +kernel) ⟨Nat.le_of_ble_eq_true rfl, Nat.le_of_ble_eq_true rfl⟩ 0 rfl rfl rfl rfl (Nat.le_of_ble_eq_true rfl) ⟨Nat.le_of_ble_eq_true rfl, Nat.le_of_ble_eq_true rfl⟩ dL_law_317 (fun v ty' w' hp hk' => ?_)
  obtain ⟨v3, e4, rfl, rfl⟩ := hp
  show GW κ 4 82 21282 (wX q d I A ++ wM r g J B M) 320 [(3, .int i), (2, .ref (r 0)), (1, .ref (q 0)), (0, .ref b)] [.int v3]
  refine g_pop hk dL_law_320 rfl ?_
  refine g_goto (tgt := 1465) hk dL_law_321 (by decide) ?_
  exact tail I A J B M hI hJ ⟨⟨(RT.keep hS.1.1 rfl rfl rfl rfl rfl), hS.1.2.1, hS.1.2.2⟩, (hS.2.1.keep rfl rfl rfl rfl rfl rfl rfl rfl rfl rfl rfl rfl), (hS.2.2.1.keep rfl rfl rfl rfl rfl rfl rfl), (hS.2.2.2.keep rfl rfl rfl rfl rfl rfl rfl rfl rfl rfl rfl rfl rfl rfl)⟩
set_option maxHeartbeats 4000000 in
set_option maxRecDepth 100000 in
theorem law_4 {κ : Cx} {l : Launch} {D : va_G} {zt : Nat × Nat × Nat × (Nat → Nat) × (Nat → Nat)} {q r : Nat → Nat} {d g : Nat → ClassId} {b L : Nat} {xs : Nat → Int32} (hk : GC κ l D zt code 4 RL lw_tbl (tyX d ++ tyM g) room_1) (hX : GX κ b L xs) (i : Int32) (h0 : 0 ≤ i.toInt) (h6 : i.toInt + 6 ≤ (L : Int)) (hL : L ≤ 3072) (I : Nat → Int32) (A : Nat → Nat → Int32) (J : Nat → Int32) (B : Nat → Nat → Int32) (M : Nat → Nat → Int64) (hI : IvX I A) (hJ : IvM J B) (hS : RA I A J B M) (tail : ∀ (I : Nat → Int32) (A : Nat → Nat → Int32) (J : Nat → Int32) (B : Nat → Nat → Int32) (M : Nat → Nat → Int64), IvX I A → IvM J B → RA I A J B M → GW κ 4 82 21282 (wX q d I A ++ wM r g J B M) 1465 [(3, .int i), (2, .ref (r 0)), (1, .ref (q 0)), (0, .ref b)] []) : GW κ 4 82 21282 (wX q d I A ++ wM r g J B M) 324 [(3, .int i), (2, .ref (r 0)), (1, .ref (q 0)), (0, .ref b)] [] := by
  refine g_aload_n hk dL_law_324 rfl ?_
  refine g_callV (n := 0) hk (k177_X11_cause l D zt q d I A  hI) (SP.pre _ _) (fun q h => List.mem_append_left _ h) (gi_V zw_798 zw_799 zw_800 zw_103 (gi_sub zi_k177_X11_cause zg_k177_X11_cause)) rfl rfl rfl (by decide +kernel) ⟨Nat.le_of_ble_eq_true rfl, Nat.le_of_ble_eq_true rfl⟩ 0 rfl rfl rfl rfl (Nat.le_of_ble_eq_true rfl) ⟨Nat.le_of_ble_eq_true rfl, Nat.le_of_ble_eq_true rfl⟩ dL_law_325 (fun v ty' w' hp hk' => ?_)
  obtain ⟨v1, e2, rfl, rfl⟩ := hp
  show GW κ 4 82 21282 (wM r g J B M ++ wX q d I A) 328 [(3, .int i), (2, .ref (r 0)), (1, .ref (q 0)), (0, .ref b)] [.int v1]
  refine g_pop hk dL_law_328 rfl ?_
  refine g_aload_n hk dL_law_329 rfl ?_
  refine g_callV (n := 0) hk (j141_X12_cause l D zt r g J B M  hJ) (SP.pre _ _) (fun q h => List.mem_append_right _ h) (gi_V zw_1640 zw_1641 zw_1642 zw_115 (gi_sub zi_j141_X12_cause zg_j141_X12_cause)) rfl rfl rfl (by decide +kernel) ⟨Nat.le_of_ble_eq_true rfl, Nat.le_of_ble_eq_true rfl⟩ 0 rfl rfl rfl rfl (Nat.le_of_ble_eq_true rfl) ⟨Nat.le_of_ble_eq_true rfl, Nat.le_of_ble_eq_true rfl⟩ dL_law_330 (fun v ty' w' hp hk' => ?_)
  obtain ⟨v3, e4, rfl, rfl⟩ := hp
  show GW κ 4 82 21282 (wX q d I A ++ wM r g J B M) 333 [(3, .int i), (2, .ref (r 0)), (1, .ref (q 0)), (0, .ref b)] [.int v3]
  refine g_pop hk dL_law_333 rfl ?_
  refine g_goto (tgt := 1465) hk dL_law_334 (by decide) ?_
  exact tail I A J B M hI hJ ⟨⟨(RT.keep hS.1.1 rfl rfl rfl rfl rfl), hS.1.2.1, hS.1.2.2⟩, (hS.2.1.keep rfl rfl rfl rfl rfl rfl rfl rfl rfl rfl rfl rfl), (hS.2.2.1.keep rfl rfl rfl rfl rfl rfl rfl), (hS.2.2.2.keep rfl rfl rfl rfl rfl rfl rfl rfl rfl rfl rfl rfl rfl rfl)⟩
set_option maxHeartbeats 4000000 in
set_option maxRecDepth 100000 in
theorem law_5 {κ : Cx} {l : Launch} {D : va_G} {zt : Nat × Nat × Nat × (Nat → Nat) × (Nat → Nat)} {q r : Nat → Nat} {d g : Nat → ClassId} {b L : Nat} {xs : Nat → Int32} (hk : GC κ l D zt code 4 RL lw_tbl (tyX d ++ tyM g) room_1) (hX : GX κ b L xs) (i : Int32) (h0 : 0 ≤ i.toInt) (h6 : i.toInt + 6 ≤ (L : Int)) (hL : L ≤ 3072) (I : Nat → Int32) (A : Nat → Nat → Int32) (J : Nat → Int32) (B : Nat → Nat → Int32) (M : Nat → Nat → Int64) (hI : IvX I A) (hJ : IvM J B) (hS : RA I A J B M) (tail : ∀ (I : Nat → Int32) (A : Nat → Nat → Int32) (J : Nat → Int32) (B : Nat → Nat → Int32) (M : Nat → Nat → Int64), IvX I A → IvM J B → RA I A J B M → GW κ 4 82 21282 (wX q d I A ++ wM r g J B M) 1465 [(3, .int i), (2, .ref (r 0)), (1, .ref (q 0)), (0, .ref b)] []) : GW κ 4 82 21282 (wX q d I A ++ wM r g J B M) 337 [(3, .int i), (2, .ref (r 0)), (1, .ref (q 0)), (0, .ref b)] [] := by
  refine g_aload_n hk dL_law_337 rfl ?_
  refine g_aload_n hk dL_law_338 rfl ?_
  refine g_iload_n hk dL_law_339 rfl ?_
  refine g_iconst (v := 1) hk dL_law_340 (by decide) ?_
  refine g_iadd hk dL_law_341 ?_
  refine g_topi (fun y1 ey1 => ?_)
  have hy1 : y1.toInt = i.toInt + 1 := i32_add ey1 rfl (by decide) (by omega) (by omega)
  refine g_sld (v := xs y1.toNatClampNeg) hk hX (vp_in_iff.mpr ⟨by omega, by omega⟩) rfl dL_law_342 ?_
  refine g_callV (n := 1) hk (k178_X11_at l D zt q d I A (xs y1.toNatClampNeg) hI) (SP.pre _ _) (fun q h => List.mem_append_left _ h) (gi_V zw_802 zw_803 zw_804 zw_103 (gi_sub zi_k178_X11_at zg_k178_X11_at)) rfl rfl rfl (by decide +kernel) ⟨Nat.le_of_ble_eq_true rfl, Nat.le_of_ble_eq_true rfl⟩ 0 rfl rfl rfl rfl (Nat.le_of_ble_eq_true rfl) ⟨Nat.le_of_ble_eq_true rfl, Nat.le_of_ble_eq_true rfl⟩ dL_law_343 (fun v ty' w' hp hk' => ?_)
  obtain ⟨v2, e3, rfl, rfl⟩ := hp
  show GW κ 4 82 21282 (wM r g J B M ++ wX q d I A) 346 [(3, .int i), (2, .ref (r 0)), (1, .ref (q 0)), (0, .ref b)] [.int v2]
  refine g_pop hk dL_law_346 rfl ?_
  refine g_aload_n hk dL_law_347 rfl ?_
  refine g_aload_n hk dL_law_348 rfl ?_
  refine g_iload_n hk dL_law_349 rfl ?_
  refine g_iconst (v := 1) hk dL_law_350 (by decide) ?_
  refine g_iadd hk dL_law_351 ?_
  refine g_topi (fun y4 ey4 => ?_)
  have qy4 : y4 = y1 := ey4.trans ey1.symm
  subst qy4
  refine g_sld (v := xs y4.toNatClampNeg) hk hX (vp_in_iff.mpr ⟨by omega, by omega⟩) rfl dL_law_352 ?_
  refine g_callV (n := 1) hk (j142_X12_at l D zt r g J B M (xs y4.toNatClampNeg) hJ) (SP.pre _ _) (fun q h => List.mem_append_right _ h) (gi_V zw_1644 zw_1645 zw_1646 zw_115 (gi_sub zi_j142_X12_at zg_j142_X12_at)) rfl rfl rfl (by decide +kernel) ⟨Nat.le_of_ble_eq_true rfl, Nat.le_of_ble_eq_true rfl⟩ 0 rfl rfl rfl rfl (Nat.le_of_ble_eq_true rfl) ⟨Nat.le_of_ble_eq_true rfl, Nat.le_of_ble_eq_true rfl⟩ dL_law_353 (fun v ty' w' hp hk' => ?_)
  obtain ⟨v5, e6, rfl, rfl⟩ := hp
  show GW κ 4 82 21282 (wX q d I A ++ wM r g J B M) 356 [(3, .int i), (2, .ref (r 0)), (1, .ref (q 0)), (0, .ref b)] [.int v5]
  refine g_pop hk dL_law_356 rfl ?_
  refine g_goto (tgt := 1465) hk dL_law_357 (by decide) ?_
  exact tail I A J B M hI hJ ⟨⟨(RT.keep hS.1.1 rfl rfl rfl rfl rfl), hS.1.2.1, hS.1.2.2⟩, (hS.2.1.keep rfl rfl rfl rfl rfl rfl rfl rfl rfl rfl rfl rfl), (hS.2.2.1.keep rfl rfl rfl rfl rfl rfl rfl), (hS.2.2.2.keep rfl rfl rfl rfl rfl rfl rfl rfl rfl rfl rfl rfl rfl rfl)⟩
set_option maxHeartbeats 4000000 in
set_option maxRecDepth 100000 in
theorem law_6 {κ : Cx} {l : Launch} {D : va_G} {zt : Nat × Nat × Nat × (Nat → Nat) × (Nat → Nat)} {q r : Nat → Nat} {d g : Nat → ClassId} {b L : Nat} {xs : Nat → Int32} (hk : GC κ l D zt code 4 RL lw_tbl (tyX d ++ tyM g) room_1) (hX : GX κ b L xs) (i : Int32) (h0 : 0 ≤ i.toInt) (h6 : i.toInt + 6 ≤ (L : Int)) (hL : L ≤ 3072) (I : Nat → Int32) (A : Nat → Nat → Int32) (J : Nat → Int32) (B : Nat → Nat → Int32) (M : Nat → Nat → Int64) (hI : IvX I A) (hJ : IvM J B) (hS : RA I A J B M) (tail : ∀ (I : Nat → Int32) (A : Nat → Nat → Int32) (J : Nat → Int32) (B : Nat → Nat → Int32) (M : Nat → Nat → Int64), IvX I A → IvM J B → RA I A J B M → GW κ 4 82 21282 (wX q d I A ++ wM r g J B M) 1465 [(3, .int i), (2, .ref (r 0)), (1, .ref (q 0)), (0, .ref b)] []) : GW κ 4 82 21282 (wX q d I A ++ wM r g J B M) 360 [(3, .int i), (2, .ref (r 0)), (1, .ref (q 0)), (0, .ref b)] [] := by
  refine g_aload_n hk dL_law_360 rfl ?_
  refine g_aload_n hk dL_law_361 rfl ?_
  refine g_iload_n hk dL_law_362 rfl ?_
  refine g_iconst (v := 1) hk dL_law_363 (by decide) ?_
  refine g_iadd hk dL_law_364 ?_
  refine g_topi (fun y1 ey1 => ?_)
  have hy1 : y1.toInt = i.toInt + 1 := i32_add ey1 rfl (by decide) (by omega) (by omega)
  refine g_sld (v := xs y1.toNatClampNeg) hk hX (vp_in_iff.mpr ⟨by omega, by omega⟩) rfl dL_law_365 ?_
  refine g_aload_n hk dL_law_366 rfl ?_
  refine g_iload_n hk dL_law_367 rfl ?_
  refine g_iconst (v := 2) hk dL_law_368 (by decide) ?_
  refine g_iadd hk dL_law_369 ?_
  refine g_topi (fun y2 ey2 => ?_)
  have hy2 : y2.toInt = i.toInt + 2 := i32_add ey2 rfl (by decide) (by omega) (by omega)
  refine g_sld (v := xs y2.toNatClampNeg) hk hX (vp_in_iff.mpr ⟨by omega, by omega⟩) rfl dL_law_370 ?_
  refine g_callV (n := 2) hk (k180_X11_query l D zt q d I A (xs y1.toNatClampNeg) (xs y2.toNatClampNeg) hI) (SP.pre _ _) (fun q h => List.mem_append_left _ h) (gi_V zw_810 zw_811 zw_812 zw_103 (gi_sub zi_k180_X11_query zg_k180_X11_query)) rfl rfl rfl (by decide +kernel) ⟨Nat.le_of_ble_eq_true rfl, Nat.le_of_ble_eq_true rfl⟩ 0 rfl rfl rfl rfl (Nat.le_of_ble_eq_true rfl) ⟨Nat.le_of_ble_eq_true rfl, Nat.le_of_ble_eq_true rfl⟩ dL_law_371 (fun v ty' w' hp hk' => ?_)
  obtain ⟨v3, e4, rfl, rfl⟩ := hp
  show GW κ 4 82 21282 (wM r g J B M ++ wX q d I A) 374 [(3, .int i), (2, .ref (r 0)), (1, .ref (q 0)), (0, .ref b)] [.int v3]
  refine g_pop hk dL_law_374 rfl ?_
  refine g_aload_n hk dL_law_375 rfl ?_
  refine g_aload_n hk dL_law_376 rfl ?_
  refine g_iload_n hk dL_law_377 rfl ?_
  refine g_iconst (v := 1) hk dL_law_378 (by decide) ?_
  refine g_iadd hk dL_law_379 ?_
  refine g_topi (fun y5 ey5 => ?_)
  have qy5 : y5 = y1 := ey5.trans ey1.symm
  subst qy5
  refine g_sld (v := xs y5.toNatClampNeg) hk hX (vp_in_iff.mpr ⟨by omega, by omega⟩) rfl dL_law_380 ?_
  refine g_aload_n hk dL_law_381 rfl ?_
  refine g_iload_n hk dL_law_382 rfl ?_
  refine g_iconst (v := 2) hk dL_law_383 (by decide) ?_
  refine g_iadd hk dL_law_384 ?_
  refine g_topi (fun y6 ey6 => ?_)
  have qy6 : y6 = y2 := ey6.trans ey2.symm
  subst qy6
  refine g_sld (v := xs y6.toNatClampNeg) hk hX (vp_in_iff.mpr ⟨by omega, by omega⟩) rfl dL_law_385 ?_
  refine g_callV (n := 2) hk (j146_X12_query l D zt r g J B M (xs y5.toNatClampNeg) (xs y6.toNatClampNeg) hJ) (SP.pre _ _) (fun q h => List.mem_append_right _ h) (gi_V zw_1659 zw_1660 zw_1661 zw_115 (gi_sub zi_j146_X12_query zg_j146_X12_query)) rfl rfl rfl (by decide +kernel) ⟨Nat.le_of_ble_eq_true rfl, Nat.le_of_ble_eq_true rfl⟩ 0 rfl rfl rfl rfl (Nat.le_of_ble_eq_true rfl) ⟨Nat.le_of_ble_eq_true rfl, Nat.le_of_ble_eq_true rfl⟩ dL_law_386 (fun v ty' w' hp hk' => ?_)
  obtain ⟨v7, e8, rfl, rfl⟩ := hp
  show GW κ 4 82 21282 (wX q d I A ++ wM r g J B M) 389 [(3, .int i), (2, .ref (r 0)), (1, .ref (q 0)), (0, .ref b)] [.int v7]
  refine g_pop hk dL_law_389 rfl ?_
  refine g_goto (tgt := 1465) hk dL_law_390 (by decide) ?_
  exact tail I A J B M hI hJ ⟨⟨(RT.keep hS.1.1 rfl rfl rfl rfl rfl), hS.1.2.1, hS.1.2.2⟩, (hS.2.1.keep rfl rfl rfl rfl rfl rfl rfl rfl rfl rfl rfl rfl), (hS.2.2.1.keep rfl rfl rfl rfl rfl rfl rfl), (hS.2.2.2.keep rfl rfl rfl rfl rfl rfl rfl rfl rfl rfl rfl rfl rfl rfl)⟩
set_option maxHeartbeats 4000000 in
set_option maxRecDepth 100000 in
theorem law_7 {κ : Cx} {l : Launch} {D : va_G} {zt : Nat × Nat × Nat × (Nat → Nat) × (Nat → Nat)} {q r : Nat → Nat} {d g : Nat → ClassId} {b L : Nat} {xs : Nat → Int32} (hk : GC κ l D zt code 4 RL lw_tbl (tyX d ++ tyM g) room_1) (hX : GX κ b L xs) (i : Int32) (h0 : 0 ≤ i.toInt) (h6 : i.toInt + 6 ≤ (L : Int)) (hL : L ≤ 3072) (I : Nat → Int32) (A : Nat → Nat → Int32) (J : Nat → Int32) (B : Nat → Nat → Int32) (M : Nat → Nat → Int64) (hI : IvX I A) (hJ : IvM J B) (hS : RA I A J B M) (tail : ∀ (I : Nat → Int32) (A : Nat → Nat → Int32) (J : Nat → Int32) (B : Nat → Nat → Int32) (M : Nat → Nat → Int64), IvX I A → IvM J B → RA I A J B M → GW κ 4 82 21282 (wX q d I A ++ wM r g J B M) 1465 [(3, .int i), (2, .ref (r 0)), (1, .ref (q 0)), (0, .ref b)] []) : GW κ 4 82 21282 (wX q d I A ++ wM r g J B M) 393 [(3, .int i), (2, .ref (r 0)), (1, .ref (q 0)), (0, .ref b)] [] := by
  refine g_aload_n hk dL_law_393 rfl ?_
  refine g_aload_n hk dL_law_394 rfl ?_
  refine g_iload_n hk dL_law_395 rfl ?_
  refine g_iconst (v := 1) hk dL_law_396 (by decide) ?_
  refine g_iadd hk dL_law_397 ?_
  refine g_topi (fun y1 ey1 => ?_)
  have hy1 : y1.toInt = i.toInt + 1 := i32_add ey1 rfl (by decide) (by omega) (by omega)
  refine g_sld (v := xs y1.toNatClampNeg) hk hX (vp_in_iff.mpr ⟨by omega, by omega⟩) rfl dL_law_398 ?_
  refine g_callV (n := 1) hk (k183_X11_push l D zt q d I A (xs y1.toNatClampNeg) hI) (SP.pre _ _) (fun q h => List.mem_append_left _ h) (gi_V zw_815 zw_816 zw_817 zw_103 (gi_sub zi_k183_X11_push zg_k183_X11_push)) rfl rfl rfl (by decide +kernel) ⟨Nat.le_of_ble_eq_true rfl, Nat.le_of_ble_eq_true rfl⟩ 0 rfl rfl rfl rfl (Nat.le_of_ble_eq_true rfl) ⟨Nat.le_of_ble_eq_true rfl, Nat.le_of_ble_eq_true rfl⟩ dL_law_399 (fun v ty' w' hp hk' => ?_)
  obtain ⟨I3, A3, d3, a3, h3, v2, c4, c5, e3, rfl, rfl⟩ := hp
  show GW κ 4 82 21282 (wM r g J B M ++ wX q d I3 A3) 402 [(3, .int i), (2, .ref (r 0)), (1, .ref (q 0)), (0, .ref b)] [.int v2]
  refine g_pop hk dL_law_402 rfl ?_
  refine g_aload_n hk dL_law_403 rfl ?_
  refine g_aload_n hk dL_law_404 rfl ?_
  refine g_iload_n hk dL_law_405 rfl ?_
  refine g_iconst (v := 1) hk dL_law_406 (by decide) ?_
  refine g_iadd hk dL_law_407 ?_
  refine g_topi (fun y6 ey6 => ?_)
  have qy6 : y6 = y1 := ey6.trans ey1.symm
  subst qy6
  refine g_sld (v := xs y6.toNatClampNeg) hk hX (vp_in_iff.mpr ⟨by omega, by omega⟩) rfl dL_law_408 ?_
  refine g_callV (n := 1) hk (j149_X12_push l D zt r g J B M (xs y6.toNatClampNeg) hJ) (SP.pre _ _) (fun q h => List.mem_append_right _ h) (gi_V zw_1671 zw_1672 zw_1673 zw_115 (gi_sub zi_j149_X12_push zg_j149_X12_push)) rfl rfl rfl (by decide +kernel) ⟨Nat.le_of_ble_eq_true rfl, Nat.le_of_ble_eq_true rfl⟩ 0 rfl rfl rfl rfl (Nat.le_of_ble_eq_true rfl) ⟨Nat.le_of_ble_eq_true rfl, Nat.le_of_ble_eq_true rfl⟩ dL_law_409 (fun v ty' w' hp hk' => ?_)
  obtain ⟨I8, A8, L8, d8, a8, h8, v7, l8, c9, c10, e8, rfl, rfl⟩ := hp
  show GW κ 4 82 21282 (wX q d I3 A3 ++ wM r g I8 A8 L8) 412 [(3, .int i), (2, .ref (r 0)), (1, .ref (q 0)), (0, .ref b)] [.int v7]
  refine g_pop hk dL_law_412 rfl ?_
  refine g_goto (tgt := 1465) hk dL_law_413 (by decide) ?_
  exact tail I3 A3 I8 A8 L8 h3 h8 ⟨⟨(RT.keep hS.1.1 (d3 0 rfl) (a3 0 rfl) (d8 1 rfl) (a8 0 rfl) l8), (((d3 12 rfl).trans hS.1.2.1).trans (d8 10 rfl).symm), (((d3 13 rfl).trans hS.1.2.2).trans (d8 14 rfl).symm)⟩, (HS.push hS.2.1 e3 e8).1, (hS.2.2.1.keep (d3 19 rfl) (a3 8 rfl) (a3 9 rfl) (d8 15 rfl) (a8 10 rfl) (a8 11 rfl) (a8 12 rfl)), (hS.2.2.2.keep (d3 22 rfl) (d3 23 rfl) (d3 24 rfl) (d3 25 rfl) (d3 26 rfl) (d3 27 rfl) (a3 15 rfl) (a3 16 rfl) (a3 17 rfl) (a3 18 rfl) (a3 19 rfl) (a3 20 rfl) (a8 27 rfl) (a8 28 rfl))⟩
set_option maxHeartbeats 4000000 in
set_option maxRecDepth 100000 in
theorem law_8 {κ : Cx} {l : Launch} {D : va_G} {zt : Nat × Nat × Nat × (Nat → Nat) × (Nat → Nat)} {q r : Nat → Nat} {d g : Nat → ClassId} {b L : Nat} {xs : Nat → Int32} (hk : GC κ l D zt code 4 RL lw_tbl (tyX d ++ tyM g) room_1) (hX : GX κ b L xs) (i : Int32) (h0 : 0 ≤ i.toInt) (h6 : i.toInt + 6 ≤ (L : Int)) (hL : L ≤ 3072) (I : Nat → Int32) (A : Nat → Nat → Int32) (J : Nat → Int32) (B : Nat → Nat → Int32) (M : Nat → Nat → Int64) (hI : IvX I A) (hJ : IvM J B) (hS : RA I A J B M) (tail : ∀ (I : Nat → Int32) (A : Nat → Nat → Int32) (J : Nat → Int32) (B : Nat → Nat → Int32) (M : Nat → Nat → Int64), IvX I A → IvM J B → RA I A J B M → GW κ 4 82 21282 (wX q d I A ++ wM r g J B M) 1465 [(3, .int i), (2, .ref (r 0)), (1, .ref (q 0)), (0, .ref b)] []) : GW κ 4 82 21282 (wX q d I A ++ wM r g J B M) 416 [(3, .int i), (2, .ref (r 0)), (1, .ref (q 0)), (0, .ref b)] [] := by
  refine g_aload_n hk dL_law_416 rfl ?_
  refine g_callV (n := 0) hk (k186_X11_gap l D zt q d I A  hI) (SP.pre _ _) (fun q h => List.mem_append_left _ h) (gi_V zw_831 zw_832 zw_833 zw_103 (gi_sub zi_k186_X11_gap zg_k186_X11_gap)) rfl rfl rfl (by decide +kernel) ⟨Nat.le_of_ble_eq_true rfl, Nat.le_of_ble_eq_true rfl⟩ 0 rfl rfl rfl rfl (Nat.le_of_ble_eq_true rfl) ⟨Nat.le_of_ble_eq_true rfl, Nat.le_of_ble_eq_true rfl⟩ dL_law_417 (fun v ty' w' hp hk' => ?_)
  obtain ⟨I2, A2, d2, a2, h2, v1, c3, c4, e2, rfl, rfl⟩ := hp
  show GW κ 4 82 21282 (wM r g J B M ++ wX q d I2 A2) 420 [(3, .int i), (2, .ref (r 0)), (1, .ref (q 0)), (0, .ref b)] [.int v1]
  refine g_pop hk dL_law_420 rfl ?_
  refine g_aload_n hk dL_law_421 rfl ?_
  refine g_callV (n := 0) hk (j153_X12_gap l D zt r g J B M  hJ) (SP.pre _ _) (fun q h => List.mem_append_right _ h) (gi_V zw_1687 zw_1688 zw_1689 zw_115 (gi_sub zi_j153_X12_gap zg_j153_X12_gap)) rfl rfl rfl (by decide +kernel) ⟨Nat.le_of_ble_eq_true rfl, Nat.le_of_ble_eq_true rfl⟩ 0 rfl rfl rfl rfl (Nat.le_of_ble_eq_true rfl) ⟨Nat.le_of_ble_eq_true rfl, Nat.le_of_ble_eq_true rfl⟩ dL_law_422 (fun v ty' w' hp hk' => ?_)
  obtain ⟨I6, A6, L6, d6, a6, h6, v5, l6, c7, c8, e6, rfl, rfl⟩ := hp
  show GW κ 4 82 21282 (wX q d I2 A2 ++ wM r g I6 A6 L6) 425 [(3, .int i), (2, .ref (r 0)), (1, .ref (q 0)), (0, .ref b)] [.int v5]
  refine g_pop hk dL_law_425 rfl ?_
  refine g_goto (tgt := 1465) hk dL_law_426 (by decide) ?_
  exact tail I2 A2 I6 A6 L6 h2 h6 ⟨⟨(RT.keep hS.1.1 (d2 0 rfl) (a2 0 rfl) (d6 1 rfl) (a6 0 rfl) l6), (((d2 12 rfl).trans hS.1.2.1).trans (d6 10 rfl).symm), (((d2 13 rfl).trans hS.1.2.2).trans (d6 14 rfl).symm)⟩, (HS.gap hS.2.1 e2 e6).1, (hS.2.2.1.keep (d2 19 rfl) (a2 8 rfl) (a2 9 rfl) (d6 15 rfl) (a6 10 rfl) (a6 11 rfl) (a6 12 rfl)), (hS.2.2.2.keep (d2 22 rfl) (d2 23 rfl) (d2 24 rfl) (d2 25 rfl) (d2 26 rfl) (d2 27 rfl) (a2 15 rfl) (a2 16 rfl) (a2 17 rfl) (a2 18 rfl) (a2 19 rfl) (a2 20 rfl) (a6 27 rfl) (a6 28 rfl))⟩
set_option maxHeartbeats 4000000 in
set_option maxRecDepth 100000 in
theorem law_9 {κ : Cx} {l : Launch} {D : va_G} {zt : Nat × Nat × Nat × (Nat → Nat) × (Nat → Nat)} {q r : Nat → Nat} {d g : Nat → ClassId} {b L : Nat} {xs : Nat → Int32} (hk : GC κ l D zt code 4 RL lw_tbl (tyX d ++ tyM g) room_1) (hX : GX κ b L xs) (i : Int32) (h0 : 0 ≤ i.toInt) (h6 : i.toInt + 6 ≤ (L : Int)) (hL : L ≤ 3072) (I : Nat → Int32) (A : Nat → Nat → Int32) (J : Nat → Int32) (B : Nat → Nat → Int32) (M : Nat → Nat → Int64) (hI : IvX I A) (hJ : IvM J B) (hS : RA I A J B M) (tail : ∀ (I : Nat → Int32) (A : Nat → Nat → Int32) (J : Nat → Int32) (B : Nat → Nat → Int32) (M : Nat → Nat → Int64), IvX I A → IvM J B → RA I A J B M → GW κ 4 82 21282 (wX q d I A ++ wM r g J B M) 1465 [(3, .int i), (2, .ref (r 0)), (1, .ref (q 0)), (0, .ref b)] []) : GW κ 4 82 21282 (wX q d I A ++ wM r g J B M) 429 [(3, .int i), (2, .ref (r 0)), (1, .ref (q 0)), (0, .ref b)] [] := by
  refine g_aload_n hk dL_law_429 rfl ?_
  refine g_aload_n hk dL_law_430 rfl ?_
  refine g_iload_n hk dL_law_431 rfl ?_
  refine g_iconst (v := 1) hk dL_law_432 (by decide) ?_
  refine g_iadd hk dL_law_433 ?_
  refine g_topi (fun y1 ey1 => ?_)
  have hy1 : y1.toInt = i.toInt + 1 := i32_add ey1 rfl (by decide) (by omega) (by omega)
  refine g_sld (v := xs y1.toNatClampNeg) hk hX (vp_in_iff.mpr ⟨by omega, by omega⟩) rfl dL_law_434 ?_
  refine g_callV (n := 1) hk (k187_X11_mend l D zt q d I A (xs y1.toNatClampNeg) hI) (SP.pre _ _) (fun q h => List.mem_append_left _ h) (gi_V zw_835 zw_836 zw_837 zw_103 (gi_sub zi_k187_X11_mend zg_k187_X11_mend)) rfl rfl rfl (by decide +kernel) ⟨Nat.le_of_ble_eq_true rfl, Nat.le_of_ble_eq_true rfl⟩ 0 rfl rfl rfl rfl (Nat.le_of_ble_eq_true rfl) ⟨Nat.le_of_ble_eq_true rfl, Nat.le_of_ble_eq_true rfl⟩ dL_law_435 (fun v ty' w' hp hk' => ?_)
  obtain ⟨I3, A3, d3, a3, h3, v2, e3, rfl, rfl⟩ := hp
  show GW κ 4 82 21282 (wM r g J B M ++ wX q d I3 A3) 438 [(3, .int i), (2, .ref (r 0)), (1, .ref (q 0)), (0, .ref b)] [.int v2]
  refine g_aload_n hk dL_law_438 rfl ?_
  refine g_aload_n hk dL_law_439 rfl ?_
  refine g_iload_n hk dL_law_440 rfl ?_
  refine g_iconst (v := 1) hk dL_law_441 (by decide) ?_
  refine g_iadd hk dL_law_442 ?_
  refine g_topi (fun y4 ey4 => ?_)
  have qy4 : y4 = y1 := ey4.trans ey1.symm
  subst qy4
  refine g_sld (v := xs y4.toNatClampNeg) hk hX (vp_in_iff.mpr ⟨by omega, by omega⟩) rfl dL_law_443 ?_
  refine g_callV (n := 1) hk (j154_X12_mend l D zt r g J B M (xs y4.toNatClampNeg) hJ) (SP.pre _ _) (fun q h => List.mem_append_right _ h) (gi_V zw_1691 zw_1692 zw_1693 zw_115 (gi_sub zi_j154_X12_mend zg_j154_X12_mend)) rfl rfl rfl (by decide +kernel) ⟨Nat.le_of_ble_eq_true rfl, Nat.le_of_ble_eq_true rfl⟩ 0 rfl rfl rfl rfl (Nat.le_of_ble_eq_true rfl) ⟨Nat.le_of_ble_eq_true rfl, Nat.le_of_ble_eq_true rfl⟩ dL_law_444 (fun v ty' w' hp hk' => ?_)
  obtain ⟨I6, A6, L6, d6, a6, h6, v5, l6, e6, rfl, rfl⟩ := hp
  show GW κ 4 82 21282 (wX q d I3 A3 ++ wM r g I6 A6 L6) 447 [(3, .int i), (2, .ref (r 0)), (1, .ref (q 0)), (0, .ref b)] [.int v5, .int v2]
  refine g_icmp_eq (tgt := 1465) (a := v2.toInt) (b := v5.toInt) hk dL_law_447 (by decide) rfl rfl (fun _ => ?_) (fun z9 => absurd (show v2.toInt = v5.toInt from by rw [(ans_mend hS hI hJ e3 e6)]) z9)
  exact tail I3 A3 I6 A6 L6 h3 h6 ⟨⟨(RT.keep hS.1.1 (d3 0 rfl) (a3 0 rfl) (d6 1 rfl) (a6 0 rfl) l6), (((d3 12 rfl).trans hS.1.2.1).trans (d6 10 rfl).symm), (((d3 13 rfl).trans hS.1.2.2).trans (d6 14 rfl).symm)⟩, (HS.mend hS.2.1 e3 e6).1, (hS.2.2.1.keep (d3 19 rfl) (a3 8 rfl) (a3 9 rfl) (d6 15 rfl) (a6 10 rfl) (a6 11 rfl) (a6 12 rfl)), (hS.2.2.2.keep (d3 22 rfl) (d3 23 rfl) (d3 24 rfl) (d3 25 rfl) (d3 26 rfl) (d3 27 rfl) (a3 15 rfl) (a3 16 rfl) (a3 17 rfl) (a3 18 rfl) (a3 19 rfl) (a3 20 rfl) (a6 27 rfl) (a6 28 rfl))⟩
set_option maxHeartbeats 4000000 in
set_option maxRecDepth 100000 in
theorem law_10 {κ : Cx} {l : Launch} {D : va_G} {zt : Nat × Nat × Nat × (Nat → Nat) × (Nat → Nat)} {q r : Nat → Nat} {d g : Nat → ClassId} {b L : Nat} {xs : Nat → Int32} (hk : GC κ l D zt code 4 RL lw_tbl (tyX d ++ tyM g) room_1) (hX : GX κ b L xs) (i : Int32) (h0 : 0 ≤ i.toInt) (h6 : i.toInt + 6 ≤ (L : Int)) (hL : L ≤ 3072) (I : Nat → Int32) (A : Nat → Nat → Int32) (J : Nat → Int32) (B : Nat → Nat → Int32) (M : Nat → Nat → Int64) (hI : IvX I A) (hJ : IvM J B) (hS : RA I A J B M) (tail : ∀ (I : Nat → Int32) (A : Nat → Nat → Int32) (J : Nat → Int32) (B : Nat → Nat → Int32) (M : Nat → Nat → Int64), IvX I A → IvM J B → RA I A J B M → GW κ 4 82 21282 (wX q d I A ++ wM r g J B M) 1465 [(3, .int i), (2, .ref (r 0)), (1, .ref (q 0)), (0, .ref b)] []) : GW κ 4 82 21282 (wX q d I A ++ wM r g J B M) 452 [(3, .int i), (2, .ref (r 0)), (1, .ref (q 0)), (0, .ref b)] [] := by
  refine g_aload_n hk dL_law_452 rfl ?_
  refine g_aload_n hk dL_law_453 rfl ?_
  refine g_iload_n hk dL_law_454 rfl ?_
  refine g_iconst (v := 1) hk dL_law_455 (by decide) ?_
  refine g_iadd hk dL_law_456 ?_
  refine g_topi (fun y1 ey1 => ?_)
  have hy1 : y1.toInt = i.toInt + 1 := i32_add ey1 rfl (by decide) (by omega) (by omega)
  refine g_sld (v := xs y1.toNatClampNeg) hk hX (vp_in_iff.mpr ⟨by omega, by omega⟩) rfl dL_law_457 ?_
  refine g_callV (n := 1) hk (k191_X11_drop l D zt q d I A (xs y1.toNatClampNeg) hI) (SP.pre _ _) (fun q h => List.mem_append_left _ h) (gi_V zw_851 zw_852 zw_853 zw_103 (gi_sub zi_k191_X11_drop zg_k191_X11_drop)) rfl rfl rfl (by decide +kernel) ⟨Nat.le_of_ble_eq_true rfl, Nat.le_of_ble_eq_true rfl⟩ 0 rfl rfl rfl rfl (Nat.le_of_ble_eq_true rfl) ⟨Nat.le_of_ble_eq_true rfl, Nat.le_of_ble_eq_true rfl⟩ dL_law_458 (fun v ty' w' hp hk' => ?_)
  obtain ⟨I3, A3, d3, a3, h3, v2, c4, c5, e3, rfl, rfl⟩ := hp
  show GW κ 4 82 21282 (wM r g J B M ++ wX q d I3 A3) 461 [(3, .int i), (2, .ref (r 0)), (1, .ref (q 0)), (0, .ref b)] [.int v2]
  refine g_pop hk dL_law_461 rfl ?_
  refine g_aload_n hk dL_law_462 rfl ?_
  refine g_aload_n hk dL_law_463 rfl ?_
  refine g_iload_n hk dL_law_464 rfl ?_
  refine g_iconst (v := 1) hk dL_law_465 (by decide) ?_
  refine g_iadd hk dL_law_466 ?_
  refine g_topi (fun y6 ey6 => ?_)
  have qy6 : y6 = y1 := ey6.trans ey1.symm
  subst qy6
  refine g_sld (v := xs y6.toNatClampNeg) hk hX (vp_in_iff.mpr ⟨by omega, by omega⟩) rfl dL_law_467 ?_
  refine g_callV (n := 1) hk (j156_X12_drop l D zt r g J B M (xs y6.toNatClampNeg) hJ) (SP.pre _ _) (fun q h => List.mem_append_right _ h) (gi_V zw_1698 zw_1699 zw_1700 zw_115 (gi_sub zi_j156_X12_drop zg_j156_X12_drop)) rfl rfl rfl (by decide +kernel) ⟨Nat.le_of_ble_eq_true rfl, Nat.le_of_ble_eq_true rfl⟩ 0 rfl rfl rfl rfl (Nat.le_of_ble_eq_true rfl) ⟨Nat.le_of_ble_eq_true rfl, Nat.le_of_ble_eq_true rfl⟩ dL_law_468 (fun v ty' w' hp hk' => ?_)
  obtain ⟨I8, A8, L8, d8, a8, h8, v7, l8, c9, c10, e8, rfl, rfl⟩ := hp
  show GW κ 4 82 21282 (wX q d I3 A3 ++ wM r g I8 A8 L8) 471 [(3, .int i), (2, .ref (r 0)), (1, .ref (q 0)), (0, .ref b)] [.int v7]
  refine g_pop hk dL_law_471 rfl ?_
  refine g_goto (tgt := 1465) hk dL_law_472 (by decide) ?_
  exact tail I3 A3 I8 A8 L8 h3 h8 ⟨⟨(RT.keep hS.1.1 (d3 0 rfl) (a3 0 rfl) (d8 1 rfl) (a8 0 rfl) l8), (((d3 12 rfl).trans hS.1.2.1).trans (d8 10 rfl).symm), (((d3 13 rfl).trans hS.1.2.2).trans (d8 14 rfl).symm)⟩, (HS.drop hS.2.1 e3 e8).1, (hS.2.2.1.keep (d3 19 rfl) (a3 8 rfl) (a3 9 rfl) (d8 15 rfl) (a8 10 rfl) (a8 11 rfl) (a8 12 rfl)), (hS.2.2.2.keep (d3 22 rfl) (d3 23 rfl) (d3 24 rfl) (d3 25 rfl) (d3 26 rfl) (d3 27 rfl) (a3 15 rfl) (a3 16 rfl) (a3 17 rfl) (a3 18 rfl) (a3 19 rfl) (a3 20 rfl) (a8 27 rfl) (a8 28 rfl))⟩
set_option maxHeartbeats 4000000 in
set_option maxRecDepth 100000 in
theorem law_11 {κ : Cx} {l : Launch} {D : va_G} {zt : Nat × Nat × Nat × (Nat → Nat) × (Nat → Nat)} {q r : Nat → Nat} {d g : Nat → ClassId} {b L : Nat} {xs : Nat → Int32} (hk : GC κ l D zt code 4 RL lw_tbl (tyX d ++ tyM g) room_1) (hX : GX κ b L xs) (i : Int32) (h0 : 0 ≤ i.toInt) (h6 : i.toInt + 6 ≤ (L : Int)) (hL : L ≤ 3072) (I : Nat → Int32) (A : Nat → Nat → Int32) (J : Nat → Int32) (B : Nat → Nat → Int32) (M : Nat → Nat → Int64) (hI : IvX I A) (hJ : IvM J B) (hS : RA I A J B M) (tail : ∀ (I : Nat → Int32) (A : Nat → Nat → Int32) (J : Nat → Int32) (B : Nat → Nat → Int32) (M : Nat → Nat → Int64), IvX I A → IvM J B → RA I A J B M → GW κ 4 82 21282 (wX q d I A ++ wM r g J B M) 1465 [(3, .int i), (2, .ref (r 0)), (1, .ref (q 0)), (0, .ref b)] []) : GW κ 4 82 21282 (wX q d I A ++ wM r g J B M) 475 [(3, .int i), (2, .ref (r 0)), (1, .ref (q 0)), (0, .ref b)] [] := by
  refine g_aload_n hk dL_law_475 rfl ?_
  refine g_aload_n hk dL_law_476 rfl ?_
  refine g_iload_n hk dL_law_477 rfl ?_
  refine g_iconst (v := 1) hk dL_law_478 (by decide) ?_
  refine g_iadd hk dL_law_479 ?_
  refine g_topi (fun y1 ey1 => ?_)
  have hy1 : y1.toInt = i.toInt + 1 := i32_add ey1 rfl (by decide) (by omega) (by omega)
  refine g_sld (v := xs y1.toNatClampNeg) hk hX (vp_in_iff.mpr ⟨by omega, by omega⟩) rfl dL_law_480 ?_
  refine g_aload_n hk dL_law_481 rfl ?_
  refine g_iload_n hk dL_law_482 rfl ?_
  refine g_iconst (v := 2) hk dL_law_483 (by decide) ?_
  refine g_iadd hk dL_law_484 ?_
  refine g_topi (fun y2 ey2 => ?_)
  have hy2 : y2.toInt = i.toInt + 2 := i32_add ey2 rfl (by decide) (by omega) (by omega)
  refine g_sld (v := xs y2.toNatClampNeg) hk hX (vp_in_iff.mpr ⟨by omega, by omega⟩) rfl dL_law_485 ?_
  refine g_callV (n := 2) hk (k193_X11_set l D zt q d I A (xs y1.toNatClampNeg) (xs y2.toNatClampNeg) hI) (SP.pre _ _) (fun q h => List.mem_append_left _ h) (gi_V zw_859 zw_860 zw_861 zw_103 (gi_sub zi_k193_X11_set zg_k193_X11_set)) rfl rfl rfl (by decide +kernel) ⟨Nat.le_of_ble_eq_true rfl, Nat.le_of_ble_eq_true rfl⟩ 0 rfl rfl rfl rfl (Nat.le_of_ble_eq_true rfl) ⟨Nat.le_of_ble_eq_true rfl, Nat.le_of_ble_eq_true rfl⟩ dL_law_486 (fun v ty' w' hp hk' => ?_)
  obtain ⟨I4, A4, d4, a4, h4, v3, c5, c6, e4, rfl, rfl⟩ := hp
  show GW κ 4 82 21282 (wM r g J B M ++ wX q d I4 A4) 489 [(3, .int i), (2, .ref (r 0)), (1, .ref (q 0)), (0, .ref b)] [.int v3]
  refine g_pop hk dL_law_489 rfl ?_
  refine g_aload_n hk dL_law_490 rfl ?_
  refine g_aload_n hk dL_law_491 rfl ?_
  refine g_iload_n hk dL_law_492 rfl ?_
  refine g_iconst (v := 1) hk dL_law_493 (by decide) ?_
  refine g_iadd hk dL_law_494 ?_
  refine g_topi (fun y7 ey7 => ?_)
  have qy7 : y7 = y1 := ey7.trans ey1.symm
  subst qy7
  refine g_sld (v := xs y7.toNatClampNeg) hk hX (vp_in_iff.mpr ⟨by omega, by omega⟩) rfl dL_law_495 ?_
  refine g_aload_n hk dL_law_496 rfl ?_
  refine g_iload_n hk dL_law_497 rfl ?_
  refine g_iconst (v := 2) hk dL_law_498 (by decide) ?_
  refine g_iadd hk dL_law_499 ?_
  refine g_topi (fun y8 ey8 => ?_)
  have qy8 : y8 = y2 := ey8.trans ey2.symm
  subst qy8
  refine g_sld (v := xs y8.toNatClampNeg) hk hX (vp_in_iff.mpr ⟨by omega, by omega⟩) rfl dL_law_500 ?_
  refine g_callV (n := 2) hk (j157_X12_set l D zt r g J B M (xs y7.toNatClampNeg) (xs y8.toNatClampNeg) hJ) (SP.pre _ _) (fun q h => List.mem_append_right _ h) (gi_V zw_1702 zw_1703 zw_1704 zw_115 (gi_sub zi_j157_X12_set zg_j157_X12_set)) rfl rfl rfl (by decide +kernel) ⟨Nat.le_of_ble_eq_true rfl, Nat.le_of_ble_eq_true rfl⟩ 0 rfl rfl rfl rfl (Nat.le_of_ble_eq_true rfl) ⟨Nat.le_of_ble_eq_true rfl, Nat.le_of_ble_eq_true rfl⟩ dL_law_501 (fun v ty' w' hp hk' => ?_)
  obtain ⟨I10, A10, L10, d10, a10, h10, v9, l10, c11, c12, e10, rfl, rfl⟩ := hp
  show GW κ 4 82 21282 (wX q d I4 A4 ++ wM r g I10 A10 L10) 504 [(3, .int i), (2, .ref (r 0)), (1, .ref (q 0)), (0, .ref b)] [.int v9]
  refine g_pop hk dL_law_504 rfl ?_
  refine g_goto (tgt := 1465) hk dL_law_505 (by decide) ?_
  exact tail I4 A4 I10 A10 L10 h4 h10 ⟨⟨(RT.keep hS.1.1 (d4 0 rfl) (a4 0 rfl) (d10 1 rfl) (a10 0 rfl) l10), (((d4 12 rfl).trans hS.1.2.1).trans (d10 10 rfl).symm), (((d4 13 rfl).trans hS.1.2.2).trans (d10 14 rfl).symm)⟩, (HS.set hS.2.1 e4 e10).1, (hS.2.2.1.keep (d4 19 rfl) (a4 8 rfl) (a4 9 rfl) (d10 15 rfl) (a10 10 rfl) (a10 11 rfl) (a10 12 rfl)), (hS.2.2.2.keep (d4 22 rfl) (d4 23 rfl) (d4 24 rfl) (d4 25 rfl) (d4 26 rfl) (d4 27 rfl) (a4 15 rfl) (a4 16 rfl) (a4 17 rfl) (a4 18 rfl) (a4 19 rfl) (a4 20 rfl) (a10 27 rfl) (a10 28 rfl))⟩
set_option maxHeartbeats 4000000 in
set_option maxRecDepth 100000 in
theorem law_12 {κ : Cx} {l : Launch} {D : va_G} {zt : Nat × Nat × Nat × (Nat → Nat) × (Nat → Nat)} {q r : Nat → Nat} {d g : Nat → ClassId} {b L : Nat} {xs : Nat → Int32} (hk : GC κ l D zt code 4 RL lw_tbl (tyX d ++ tyM g) room_1) (hX : GX κ b L xs) (i : Int32) (h0 : 0 ≤ i.toInt) (h6 : i.toInt + 6 ≤ (L : Int)) (hL : L ≤ 3072) (I : Nat → Int32) (A : Nat → Nat → Int32) (J : Nat → Int32) (B : Nat → Nat → Int32) (M : Nat → Nat → Int64) (hI : IvX I A) (hJ : IvM J B) (hS : RA I A J B M) (tail : ∀ (I : Nat → Int32) (A : Nat → Nat → Int32) (J : Nat → Int32) (B : Nat → Nat → Int32) (M : Nat → Nat → Int64), IvX I A → IvM J B → RA I A J B M → GW κ 4 82 21282 (wX q d I A ++ wM r g J B M) 1465 [(3, .int i), (2, .ref (r 0)), (1, .ref (q 0)), (0, .ref b)] []) : GW κ 4 82 21282 (wX q d I A ++ wM r g J B M) 508 [(3, .int i), (2, .ref (r 0)), (1, .ref (q 0)), (0, .ref b)] [] := by
  refine g_aload_n hk dL_law_508 rfl ?_
  refine g_callV (n := 0) hk (k196_X11_undo l D zt q d I A  hI) (SP.pre _ _) (fun q h => List.mem_append_left _ h) (gi_V zw_866 zw_867 zw_868 zw_103 (gi_sub zi_k196_X11_undo zg_k196_X11_undo)) rfl rfl rfl (by decide +kernel) ⟨Nat.le_of_ble_eq_true rfl, Nat.le_of_ble_eq_true rfl⟩ 0 rfl rfl rfl rfl (Nat.le_of_ble_eq_true rfl) ⟨Nat.le_of_ble_eq_true rfl, Nat.le_of_ble_eq_true rfl⟩ dL_law_509 (fun v ty' w' hp hk' => ?_)
  obtain ⟨I2, A2, d2, a2, h2, v1, c3, c4, e2, rfl, rfl⟩ := hp
  show GW κ 4 82 21282 (wM r g J B M ++ wX q d I2 A2) 512 [(3, .int i), (2, .ref (r 0)), (1, .ref (q 0)), (0, .ref b)] [.int v1]
  refine g_pop hk dL_law_512 rfl ?_
  refine g_aload_n hk dL_law_513 rfl ?_
  refine g_callV (n := 0) hk (j158_X12_undo l D zt r g J B M  hJ) (SP.pre _ _) (fun q h => List.mem_append_right _ h) (gi_V zw_1706 zw_1707 zw_1708 zw_115 (gi_sub zi_j158_X12_undo zg_j158_X12_undo)) rfl rfl rfl (by decide +kernel) ⟨Nat.le_of_ble_eq_true rfl, Nat.le_of_ble_eq_true rfl⟩ 0 rfl rfl rfl rfl (Nat.le_of_ble_eq_true rfl) ⟨Nat.le_of_ble_eq_true rfl, Nat.le_of_ble_eq_true rfl⟩ dL_law_514 (fun v ty' w' hp hk' => ?_)
  obtain ⟨I6, A6, L6, d6, a6, h6, v5, l6, c7, c8, e6, rfl, rfl⟩ := hp
  show GW κ 4 82 21282 (wX q d I2 A2 ++ wM r g I6 A6 L6) 517 [(3, .int i), (2, .ref (r 0)), (1, .ref (q 0)), (0, .ref b)] [.int v5]
  refine g_pop hk dL_law_517 rfl ?_
  refine g_goto (tgt := 1465) hk dL_law_518 (by decide) ?_
  exact tail I2 A2 I6 A6 L6 h2 h6 ⟨⟨(RT.keep hS.1.1 (d2 0 rfl) (a2 0 rfl) (d6 1 rfl) (a6 0 rfl) l6), (((d2 12 rfl).trans hS.1.2.1).trans (d6 10 rfl).symm), (((d2 13 rfl).trans hS.1.2.2).trans (d6 14 rfl).symm)⟩, (HS.undo hS.2.1 e2 e6).1, (hS.2.2.1.keep (d2 19 rfl) (a2 8 rfl) (a2 9 rfl) (d6 15 rfl) (a6 10 rfl) (a6 11 rfl) (a6 12 rfl)), (hS.2.2.2.keep (d2 22 rfl) (d2 23 rfl) (d2 24 rfl) (d2 25 rfl) (d2 26 rfl) (d2 27 rfl) (a2 15 rfl) (a2 16 rfl) (a2 17 rfl) (a2 18 rfl) (a2 19 rfl) (a2 20 rfl) (a6 27 rfl) (a6 28 rfl))⟩
set_option maxHeartbeats 4000000 in
set_option maxRecDepth 100000 in
theorem law_13 {κ : Cx} {l : Launch} {D : va_G} {zt : Nat × Nat × Nat × (Nat → Nat) × (Nat → Nat)} {q r : Nat → Nat} {d g : Nat → ClassId} {b L : Nat} {xs : Nat → Int32} (hk : GC κ l D zt code 4 RL lw_tbl (tyX d ++ tyM g) room_1) (hX : GX κ b L xs) (i : Int32) (h0 : 0 ≤ i.toInt) (h6 : i.toInt + 6 ≤ (L : Int)) (hL : L ≤ 3072) (I : Nat → Int32) (A : Nat → Nat → Int32) (J : Nat → Int32) (B : Nat → Nat → Int32) (M : Nat → Nat → Int64) (hI : IvX I A) (hJ : IvM J B) (hS : RA I A J B M) (tail : ∀ (I : Nat → Int32) (A : Nat → Nat → Int32) (J : Nat → Int32) (B : Nat → Nat → Int32) (M : Nat → Nat → Int64), IvX I A → IvM J B → RA I A J B M → GW κ 4 82 21282 (wX q d I A ++ wM r g J B M) 1465 [(3, .int i), (2, .ref (r 0)), (1, .ref (q 0)), (0, .ref b)] []) : GW κ 4 82 21282 (wX q d I A ++ wM r g J B M) 521 [(3, .int i), (2, .ref (r 0)), (1, .ref (q 0)), (0, .ref b)] [] := by
  refine g_aload_n hk dL_law_521 rfl ?_
  refine g_aload_n hk dL_law_522 rfl ?_
  refine g_iload_n hk dL_law_523 rfl ?_
  refine g_iconst (v := 1) hk dL_law_524 (by decide) ?_
  refine g_iadd hk dL_law_525 ?_
  refine g_topi (fun y1 ey1 => ?_)
  have hy1 : y1.toInt = i.toInt + 1 := i32_add ey1 rfl (by decide) (by omega) (by omega)
  refine g_sld (v := xs y1.toNatClampNeg) hk hX (vp_in_iff.mpr ⟨by omega, by omega⟩) rfl dL_law_526 ?_
  refine g_aload_n hk dL_law_527 rfl ?_
  refine g_iload_n hk dL_law_528 rfl ?_
  refine g_iconst (v := 2) hk dL_law_529 (by decide) ?_
  refine g_iadd hk dL_law_530 ?_
  refine g_topi (fun y2 ey2 => ?_)
  have hy2 : y2.toInt = i.toInt + 2 := i32_add ey2 rfl (by decide) (by omega) (by omega)
  refine g_sld (v := xs y2.toNatClampNeg) hk hX (vp_in_iff.mpr ⟨by omega, by omega⟩) rfl dL_law_531 ?_
  refine g_aload_n hk dL_law_532 rfl ?_
  refine g_iload_n hk dL_law_533 rfl ?_
  refine g_iconst (v := 3) hk dL_law_534 (by decide) ?_
  refine g_iadd hk dL_law_535 ?_
  refine g_topi (fun y3 ey3 => ?_)
  have hy3 : y3.toInt = i.toInt + 3 := i32_add ey3 rfl (by decide) (by omega) (by omega)
  refine g_sld (v := xs y3.toNatClampNeg) hk hX (vp_in_iff.mpr ⟨by omega, by omega⟩) rfl dL_law_536 ?_
  refine g_callV (n := 3) hk (k206_X11_window l D zt q d I A (xs y1.toNatClampNeg) (xs y2.toNatClampNeg) (xs y3.toNatClampNeg) hI) (SP.pre _ _) (fun q h => List.mem_append_left _ h) (gi_V zw_897 zw_898 zw_899 zw_103 (gi_sub zi_k206_X11_window zg_k206_X11_window)) rfl rfl rfl (by decide +kernel) ⟨Nat.le_of_ble_eq_true rfl, Nat.le_of_ble_eq_true rfl⟩ 0 rfl rfl rfl rfl (Nat.le_of_ble_eq_true rfl) ⟨Nat.le_of_ble_eq_true rfl, Nat.le_of_ble_eq_true rfl⟩ dL_law_537 (fun v ty' w' hp hk' => ?_)
  obtain ⟨v4, e5, rfl, rfl⟩ := hp
  show GW κ 4 82 21282 (wM r g J B M ++ wX q d I A) 540 [(3, .int i), (2, .ref (r 0)), (1, .ref (q 0)), (0, .ref b)] [.int v4]
  refine g_pop hk dL_law_540 rfl ?_
  refine g_aload_n hk dL_law_541 rfl ?_
  refine g_aload_n hk dL_law_542 rfl ?_
  refine g_iload_n hk dL_law_543 rfl ?_
  refine g_iconst (v := 1) hk dL_law_544 (by decide) ?_
  refine g_iadd hk dL_law_545 ?_
  refine g_topi (fun y6 ey6 => ?_)
  have qy6 : y6 = y1 := ey6.trans ey1.symm
  subst qy6
  refine g_sld (v := xs y6.toNatClampNeg) hk hX (vp_in_iff.mpr ⟨by omega, by omega⟩) rfl dL_law_546 ?_
  refine g_aload_n hk dL_law_547 rfl ?_
  refine g_iload_n hk dL_law_548 rfl ?_
  refine g_iconst (v := 2) hk dL_law_549 (by decide) ?_
  refine g_iadd hk dL_law_550 ?_
  refine g_topi (fun y7 ey7 => ?_)
  have qy7 : y7 = y2 := ey7.trans ey2.symm
  subst qy7
  refine g_sld (v := xs y7.toNatClampNeg) hk hX (vp_in_iff.mpr ⟨by omega, by omega⟩) rfl dL_law_551 ?_
  refine g_aload_n hk dL_law_552 rfl ?_
  refine g_iload_n hk dL_law_553 rfl ?_
  refine g_iconst (v := 3) hk dL_law_554 (by decide) ?_
  refine g_iadd hk dL_law_555 ?_
  refine g_topi (fun y8 ey8 => ?_)
  have qy8 : y8 = y3 := ey8.trans ey3.symm
  subst qy8
  refine g_sld (v := xs y8.toNatClampNeg) hk hX (vp_in_iff.mpr ⟨by omega, by omega⟩) rfl dL_law_556 ?_
  refine g_callV (n := 3) hk (j159_X12_window l D zt r g J B M (xs y6.toNatClampNeg) (xs y7.toNatClampNeg) (xs y8.toNatClampNeg) hJ) (SP.pre _ _) (fun q h => List.mem_append_right _ h) (gi_V zw_1710 zw_1711 zw_1712 zw_115 (gi_sub zi_j159_X12_window zg_j159_X12_window)) rfl rfl rfl (by decide +kernel) ⟨Nat.le_of_ble_eq_true rfl, Nat.le_of_ble_eq_true rfl⟩ 0 rfl rfl rfl rfl (Nat.le_of_ble_eq_true rfl) ⟨Nat.le_of_ble_eq_true rfl, Nat.le_of_ble_eq_true rfl⟩ dL_law_557 (fun v ty' w' hp hk' => ?_)
  obtain ⟨v9, e10, rfl, rfl⟩ := hp
  show GW κ 4 82 21282 (wX q d I A ++ wM r g J B M) 560 [(3, .int i), (2, .ref (r 0)), (1, .ref (q 0)), (0, .ref b)] [.int v9]
  refine g_pop hk dL_law_560 rfl ?_
  refine g_goto (tgt := 1465) hk dL_law_561 (by decide) ?_
  exact tail I A J B M hI hJ ⟨⟨(RT.keep hS.1.1 rfl rfl rfl rfl rfl), hS.1.2.1, hS.1.2.2⟩, (hS.2.1.keep rfl rfl rfl rfl rfl rfl rfl rfl rfl rfl rfl rfl), (hS.2.2.1.keep rfl rfl rfl rfl rfl rfl rfl), (hS.2.2.2.keep rfl rfl rfl rfl rfl rfl rfl rfl rfl rfl rfl rfl rfl rfl)⟩
set_option maxHeartbeats 4000000 in
set_option maxRecDepth 100000 in
theorem law_14 {κ : Cx} {l : Launch} {D : va_G} {zt : Nat × Nat × Nat × (Nat → Nat) × (Nat → Nat)} {q r : Nat → Nat} {d g : Nat → ClassId} {b L : Nat} {xs : Nat → Int32} (hk : GC κ l D zt code 4 RL lw_tbl (tyX d ++ tyM g) room_1) (hX : GX κ b L xs) (i : Int32) (h0 : 0 ≤ i.toInt) (h6 : i.toInt + 6 ≤ (L : Int)) (hL : L ≤ 3072) (I : Nat → Int32) (A : Nat → Nat → Int32) (J : Nat → Int32) (B : Nat → Nat → Int32) (M : Nat → Nat → Int64) (hI : IvX I A) (hJ : IvM J B) (hS : RA I A J B M) (tail : ∀ (I : Nat → Int32) (A : Nat → Nat → Int32) (J : Nat → Int32) (B : Nat → Nat → Int32) (M : Nat → Nat → Int64), IvX I A → IvM J B → RA I A J B M → GW κ 4 82 21282 (wX q d I A ++ wM r g J B M) 1465 [(3, .int i), (2, .ref (r 0)), (1, .ref (q 0)), (0, .ref b)] []) : GW κ 4 82 21282 (wX q d I A ++ wM r g J B M) 564 [(3, .int i), (2, .ref (r 0)), (1, .ref (q 0)), (0, .ref b)] [] := by
  refine g_aload_n hk dL_law_564 rfl ?_
  refine g_aload_n hk dL_law_565 rfl ?_
  refine g_iload_n hk dL_law_566 rfl ?_
  refine g_iconst (v := 1) hk dL_law_567 (by decide) ?_
  refine g_iadd hk dL_law_568 ?_
  refine g_topi (fun y1 ey1 => ?_)
  have hy1 : y1.toInt = i.toInt + 1 := i32_add ey1 rfl (by decide) (by omega) (by omega)
  refine g_sld (v := xs y1.toNatClampNeg) hk hX (vp_in_iff.mpr ⟨by omega, by omega⟩) rfl dL_law_569 ?_
  refine g_aload_n hk dL_law_570 rfl ?_
  refine g_iload_n hk dL_law_571 rfl ?_
  refine g_iconst (v := 2) hk dL_law_572 (by decide) ?_
  refine g_iadd hk dL_law_573 ?_
  refine g_topi (fun y2 ey2 => ?_)
  have hy2 : y2.toInt = i.toInt + 2 := i32_add ey2 rfl (by decide) (by omega) (by omega)
  refine g_sld (v := xs y2.toNatClampNeg) hk hX (vp_in_iff.mpr ⟨by omega, by omega⟩) rfl dL_law_574 ?_
  refine g_aload_n hk dL_law_575 rfl ?_
  refine g_iload_n hk dL_law_576 rfl ?_
  refine g_iconst (v := 3) hk dL_law_577 (by decide) ?_
  refine g_iadd hk dL_law_578 ?_
  refine g_topi (fun y3 ey3 => ?_)
  have hy3 : y3.toInt = i.toInt + 3 := i32_add ey3 rfl (by decide) (by omega) (by omega)
  refine g_sld (v := xs y3.toNatClampNeg) hk hX (vp_in_iff.mpr ⟨by omega, by omega⟩) rfl dL_law_579 ?_
  refine g_callV (n := 3) hk (k211_X11_level l D zt q d I A (xs y1.toNatClampNeg) (xs y2.toNatClampNeg) (xs y3.toNatClampNeg) hI) (SP.pre _ _) (fun q h => List.mem_append_left _ h) (gi_V zw_922 zw_923 zw_924 zw_103 (gi_sub zi_k211_X11_level zg_k211_X11_level)) rfl rfl rfl (by decide +kernel) ⟨Nat.le_of_ble_eq_true rfl, Nat.le_of_ble_eq_true rfl⟩ 0 rfl rfl rfl rfl (Nat.le_of_ble_eq_true rfl) ⟨Nat.le_of_ble_eq_true rfl, Nat.le_of_ble_eq_true rfl⟩ dL_law_580 (fun v ty' w' hp hk' => ?_)
  obtain ⟨I5, A5, d5, a5, h5, v4, e5, rfl, rfl⟩ := hp
  show GW κ 4 82 21282 (wM r g J B M ++ wX q d I5 A5) 583 [(3, .int i), (2, .ref (r 0)), (1, .ref (q 0)), (0, .ref b)] [.int v4]
  refine g_pop hk dL_law_583 rfl ?_
  refine g_aload_n hk dL_law_584 rfl ?_
  refine g_aload_n hk dL_law_585 rfl ?_
  refine g_iload_n hk dL_law_586 rfl ?_
  refine g_iconst (v := 1) hk dL_law_587 (by decide) ?_
  refine g_iadd hk dL_law_588 ?_
  refine g_topi (fun y6 ey6 => ?_)
  have qy6 : y6 = y1 := ey6.trans ey1.symm
  subst qy6
  refine g_sld (v := xs y6.toNatClampNeg) hk hX (vp_in_iff.mpr ⟨by omega, by omega⟩) rfl dL_law_589 ?_
  refine g_aload_n hk dL_law_590 rfl ?_
  refine g_iload_n hk dL_law_591 rfl ?_
  refine g_iconst (v := 2) hk dL_law_592 (by decide) ?_
  refine g_iadd hk dL_law_593 ?_
  refine g_topi (fun y7 ey7 => ?_)
  have qy7 : y7 = y2 := ey7.trans ey2.symm
  subst qy7
  refine g_sld (v := xs y7.toNatClampNeg) hk hX (vp_in_iff.mpr ⟨by omega, by omega⟩) rfl dL_law_594 ?_
  refine g_aload_n hk dL_law_595 rfl ?_
  refine g_iload_n hk dL_law_596 rfl ?_
  refine g_iconst (v := 3) hk dL_law_597 (by decide) ?_
  refine g_iadd hk dL_law_598 ?_
  refine g_topi (fun y8 ey8 => ?_)
  have qy8 : y8 = y3 := ey8.trans ey3.symm
  subst qy8
  refine g_sld (v := xs y8.toNatClampNeg) hk hX (vp_in_iff.mpr ⟨by omega, by omega⟩) rfl dL_law_599 ?_
  refine g_callV (n := 3) hk (j164_X12_level l D zt r g J B M (xs y6.toNatClampNeg) (xs y7.toNatClampNeg) (xs y8.toNatClampNeg) hJ) (SP.pre _ _) (fun q h => List.mem_append_right _ h) (gi_V zw_1731 zw_1732 zw_1733 zw_115 (gi_sub zi_j164_X12_level zg_j164_X12_level)) rfl rfl rfl (by decide +kernel) ⟨Nat.le_of_ble_eq_true rfl, Nat.le_of_ble_eq_true rfl⟩ 0 rfl rfl rfl rfl (Nat.le_of_ble_eq_true rfl) ⟨Nat.le_of_ble_eq_true rfl, Nat.le_of_ble_eq_true rfl⟩ dL_law_600 (fun v ty' w' hp hk' => ?_)
  obtain ⟨I10, A10, L10, d10, a10, h10, v9, l10, e10, rfl, rfl⟩ := hp
  show GW κ 4 82 21282 (wX q d I5 A5 ++ wM r g I10 A10 L10) 603 [(3, .int i), (2, .ref (r 0)), (1, .ref (q 0)), (0, .ref b)] [.int v9]
  refine g_pop hk dL_law_603 rfl ?_
  refine g_goto (tgt := 1465) hk dL_law_604 (by decide) ?_
  exact tail I5 A5 I10 A10 L10 h5 h10 ⟨⟨(RT.keep hS.1.1 (d5 0 rfl) (a5 0 rfl) (d10 1 rfl) (a10 0 rfl) l10), (((d5 12 rfl).trans hS.1.2.1).trans (d10 10 rfl).symm), (((d5 13 rfl).trans hS.1.2.2).trans (d10 14 rfl).symm)⟩, (hS.2.1.keep (d5 17 rfl) (d5 18 rfl) (d5 20 rfl) (d5 21 rfl) (a5 7 rfl) (a5 10 rfl) (a5 11 rfl) (a5 12 rfl) (a5 13 rfl) (d10 22 rfl) (a10 17 rfl) (a10 22 rfl)), (hS.2.2.1.keep (d5 19 rfl) (a5 8 rfl) (a5 9 rfl) (d10 15 rfl) (a10 10 rfl) (a10 11 rfl) (a10 12 rfl)), (hS.2.2.2.keep (d5 22 rfl) (d5 23 rfl) (d5 24 rfl) (d5 25 rfl) (d5 26 rfl) (d5 27 rfl) (a5 15 rfl) (a5 16 rfl) (a5 17 rfl) (a5 18 rfl) (a5 19 rfl) (a5 20 rfl) (a10 27 rfl) (a10 28 rfl))⟩
set_option maxHeartbeats 4000000 in
set_option maxRecDepth 100000 in
theorem law_15 {κ : Cx} {l : Launch} {D : va_G} {zt : Nat × Nat × Nat × (Nat → Nat) × (Nat → Nat)} {q r : Nat → Nat} {d g : Nat → ClassId} {b L : Nat} {xs : Nat → Int32} (hk : GC κ l D zt code 4 RL lw_tbl (tyX d ++ tyM g) room_1) (hX : GX κ b L xs) (i : Int32) (h0 : 0 ≤ i.toInt) (h6 : i.toInt + 6 ≤ (L : Int)) (hL : L ≤ 3072) (I : Nat → Int32) (A : Nat → Nat → Int32) (J : Nat → Int32) (B : Nat → Nat → Int32) (M : Nat → Nat → Int64) (hI : IvX I A) (hJ : IvM J B) (hS : RA I A J B M) (tail : ∀ (I : Nat → Int32) (A : Nat → Nat → Int32) (J : Nat → Int32) (B : Nat → Nat → Int32) (M : Nat → Nat → Int64), IvX I A → IvM J B → RA I A J B M → GW κ 4 82 21282 (wX q d I A ++ wM r g J B M) 1465 [(3, .int i), (2, .ref (r 0)), (1, .ref (q 0)), (0, .ref b)] []) : GW κ 4 82 21282 (wX q d I A ++ wM r g J B M) 607 [(3, .int i), (2, .ref (r 0)), (1, .ref (q 0)), (0, .ref b)] [] := by
  refine g_aload_n hk dL_law_607 rfl ?_
  refine g_aload_n hk dL_law_608 rfl ?_
  refine g_iload_n hk dL_law_609 rfl ?_
  refine g_iconst (v := 1) hk dL_law_610 (by decide) ?_
  refine g_iadd hk dL_law_611 ?_
  refine g_topi (fun y1 ey1 => ?_)
  have hy1 : y1.toInt = i.toInt + 1 := i32_add ey1 rfl (by decide) (by omega) (by omega)
  refine g_sld (v := xs y1.toNatClampNeg) hk hX (vp_in_iff.mpr ⟨by omega, by omega⟩) rfl dL_law_612 ?_
  refine g_aload_n hk dL_law_613 rfl ?_
  refine g_iload_n hk dL_law_614 rfl ?_
  refine g_iconst (v := 2) hk dL_law_615 (by decide) ?_
  refine g_iadd hk dL_law_616 ?_
  refine g_topi (fun y2 ey2 => ?_)
  have hy2 : y2.toInt = i.toInt + 2 := i32_add ey2 rfl (by decide) (by omega) (by omega)
  refine g_sld (v := xs y2.toNatClampNeg) hk hX (vp_in_iff.mpr ⟨by omega, by omega⟩) rfl dL_law_617 ?_
  refine g_callV (n := 2) hk (k221_X11_distance l D zt q d I A (xs y1.toNatClampNeg) (xs y2.toNatClampNeg) hI) (SP.pre _ _) (fun q h => List.mem_append_left _ h) (gi_V zw_965 zw_966 zw_967 zw_103 (gi_sub zi_k221_X11_distance zg_k221_X11_distance)) rfl rfl rfl (by decide +kernel) ⟨Nat.le_of_ble_eq_true rfl, Nat.le_of_ble_eq_true rfl⟩ 0 rfl rfl rfl rfl (Nat.le_of_ble_eq_true rfl) ⟨Nat.le_of_ble_eq_true rfl, Nat.le_of_ble_eq_true rfl⟩ dL_law_618 (fun v ty' w' hp hk' => ?_)
  obtain ⟨I4, A4, d4, a4, h4, v3, e4, rfl, rfl⟩ := hp
  show GW κ 4 82 21282 (wM r g J B M ++ wX q d I4 A4) 621 [(3, .int i), (2, .ref (r 0)), (1, .ref (q 0)), (0, .ref b)] [.int v3]
  refine g_pop hk dL_law_621 rfl ?_
  refine g_aload_n hk dL_law_622 rfl ?_
  refine g_aload_n hk dL_law_623 rfl ?_
  refine g_iload_n hk dL_law_624 rfl ?_
  refine g_iconst (v := 1) hk dL_law_625 (by decide) ?_
  refine g_iadd hk dL_law_626 ?_
  refine g_topi (fun y5 ey5 => ?_)
  have qy5 : y5 = y1 := ey5.trans ey1.symm
  subst qy5
  refine g_sld (v := xs y5.toNatClampNeg) hk hX (vp_in_iff.mpr ⟨by omega, by omega⟩) rfl dL_law_627 ?_
  refine g_aload_n hk dL_law_628 rfl ?_
  refine g_iload_n hk dL_law_629 rfl ?_
  refine g_iconst (v := 2) hk dL_law_630 (by decide) ?_
  refine g_iadd hk dL_law_631 ?_
  refine g_topi (fun y6 ey6 => ?_)
  have qy6 : y6 = y2 := ey6.trans ey2.symm
  subst qy6
  refine g_sld (v := xs y6.toNatClampNeg) hk hX (vp_in_iff.mpr ⟨by omega, by omega⟩) rfl dL_law_632 ?_
  refine g_callV (n := 2) hk (j167_X12_distance l D zt r g J B M (xs y5.toNatClampNeg) (xs y6.toNatClampNeg) hJ) (SP.pre _ _) (fun q h => List.mem_append_right _ h) (gi_V zw_1751 zw_1752 zw_1753 zw_115 (gi_sub zi_j167_X12_distance zg_j167_X12_distance)) rfl rfl rfl (by decide +kernel) ⟨Nat.le_of_ble_eq_true rfl, Nat.le_of_ble_eq_true rfl⟩ 0 rfl rfl rfl rfl (Nat.le_of_ble_eq_true rfl) ⟨Nat.le_of_ble_eq_true rfl, Nat.le_of_ble_eq_true rfl⟩ dL_law_633 (fun v ty' w' hp hk' => ?_)
  obtain ⟨I8, A8, L8, d8, a8, h8, v7, l8, e8, rfl, rfl⟩ := hp
  show GW κ 4 82 21282 (wX q d I4 A4 ++ wM r g I8 A8 L8) 636 [(3, .int i), (2, .ref (r 0)), (1, .ref (q 0)), (0, .ref b)] [.int v7]
  refine g_pop hk dL_law_636 rfl ?_
  refine g_goto (tgt := 1465) hk dL_law_637 (by decide) ?_
  exact tail I4 A4 I8 A8 L8 h4 h8 ⟨⟨(RT.keep hS.1.1 (d4 0 rfl) (a4 0 rfl) (d8 1 rfl) (a8 0 rfl) l8), (((d4 12 rfl).trans hS.1.2.1).trans (d8 10 rfl).symm), (((d4 13 rfl).trans hS.1.2.2).trans (d8 14 rfl).symm)⟩, (hS.2.1.keep (d4 17 rfl) (d4 18 rfl) (d4 20 rfl) (d4 21 rfl) (a4 7 rfl) (a4 10 rfl) (a4 11 rfl) (a4 12 rfl) (a4 13 rfl) (d8 22 rfl) (a8 17 rfl) (a8 22 rfl)), (hS.2.2.1.keep (d4 19 rfl) (a4 8 rfl) (a4 9 rfl) (d8 15 rfl) (a8 10 rfl) (a8 11 rfl) (a8 12 rfl)), (hS.2.2.2.keep (d4 22 rfl) (d4 23 rfl) (d4 24 rfl) (d4 25 rfl) (d4 26 rfl) (d4 27 rfl) (a4 15 rfl) (a4 16 rfl) (a4 17 rfl) (a4 18 rfl) (a4 19 rfl) (a4 20 rfl) (a8 27 rfl) (a8 28 rfl))⟩
set_option maxHeartbeats 4000000 in
set_option maxRecDepth 100000 in
theorem law_16 {κ : Cx} {l : Launch} {D : va_G} {zt : Nat × Nat × Nat × (Nat → Nat) × (Nat → Nat)} {q r : Nat → Nat} {d g : Nat → ClassId} {b L : Nat} {xs : Nat → Int32} (hk : GC κ l D zt code 4 RL lw_tbl (tyX d ++ tyM g) room_1) (hX : GX κ b L xs) (i : Int32) (h0 : 0 ≤ i.toInt) (h6 : i.toInt + 6 ≤ (L : Int)) (hL : L ≤ 3072) (I : Nat → Int32) (A : Nat → Nat → Int32) (J : Nat → Int32) (B : Nat → Nat → Int32) (M : Nat → Nat → Int64) (hI : IvX I A) (hJ : IvM J B) (hS : RA I A J B M) (tail : ∀ (I : Nat → Int32) (A : Nat → Nat → Int32) (J : Nat → Int32) (B : Nat → Nat → Int32) (M : Nat → Nat → Int64), IvX I A → IvM J B → RA I A J B M → GW κ 4 82 21282 (wX q d I A ++ wM r g J B M) 1465 [(3, .int i), (2, .ref (r 0)), (1, .ref (q 0)), (0, .ref b)] []) : GW κ 4 82 21282 (wX q d I A ++ wM r g J B M) 640 [(3, .int i), (2, .ref (r 0)), (1, .ref (q 0)), (0, .ref b)] [] := by
  refine g_aload_n hk dL_law_640 rfl ?_
  refine g_aload_n hk dL_law_641 rfl ?_
  refine g_iload_n hk dL_law_642 rfl ?_
  refine g_iconst (v := 1) hk dL_law_643 (by decide) ?_
  refine g_iadd hk dL_law_644 ?_
  refine g_topi (fun y1 ey1 => ?_)
  have hy1 : y1.toInt = i.toInt + 1 := i32_add ey1 rfl (by decide) (by omega) (by omega)
  refine g_sld (v := xs y1.toNatClampNeg) hk hX (vp_in_iff.mpr ⟨by omega, by omega⟩) rfl dL_law_645 ?_
  refine g_aload_n hk dL_law_646 rfl ?_
  refine g_iload_n hk dL_law_647 rfl ?_
  refine g_iconst (v := 2) hk dL_law_648 (by decide) ?_
  refine g_iadd hk dL_law_649 ?_
  refine g_topi (fun y2 ey2 => ?_)
  have hy2 : y2.toInt = i.toInt + 2 := i32_add ey2 rfl (by decide) (by omega) (by omega)
  refine g_sld (v := xs y2.toNatClampNeg) hk hX (vp_in_iff.mpr ⟨by omega, by omega⟩) rfl dL_law_650 ?_
  refine g_aload_n hk dL_law_651 rfl ?_
  refine g_iload_n hk dL_law_652 rfl ?_
  refine g_iconst (v := 3) hk dL_law_653 (by decide) ?_
  refine g_iadd hk dL_law_654 ?_
  refine g_topi (fun y3 ey3 => ?_)
  have hy3 : y3.toInt = i.toInt + 3 := i32_add ey3 rfl (by decide) (by omega) (by omega)
  refine g_sld (v := xs y3.toNatClampNeg) hk hX (vp_in_iff.mpr ⟨by omega, by omega⟩) rfl dL_law_655 ?_
  refine g_callV (n := 3) hk (k238_X11_bound l D zt q d I A (xs y1.toNatClampNeg) (xs y2.toNatClampNeg) (xs y3.toNatClampNeg) hI) (SP.pre _ _) (fun q h => List.mem_append_left _ h) (gi_V zw_1017 zw_1018 zw_1019 zw_103 (gi_sub zi_k238_X11_bound zg_k238_X11_bound)) rfl rfl rfl (by decide +kernel) ⟨Nat.le_of_ble_eq_true rfl, Nat.le_of_ble_eq_true rfl⟩ 0 rfl rfl rfl rfl (Nat.le_of_ble_eq_true rfl) ⟨Nat.le_of_ble_eq_true rfl, Nat.le_of_ble_eq_true rfl⟩ dL_law_656 (fun v ty' w' hp hk' => ?_)
  obtain ⟨I5, A5, d5, a5, h5, v4, e5, rfl, rfl⟩ := hp
  show GW κ 4 82 21282 (wM r g J B M ++ wX q d I5 A5) 659 [(3, .int i), (2, .ref (r 0)), (1, .ref (q 0)), (0, .ref b)] [.int v4]
  refine g_pop hk dL_law_659 rfl ?_
  refine g_aload_n hk dL_law_660 rfl ?_
  refine g_aload_n hk dL_law_661 rfl ?_
  refine g_iload_n hk dL_law_662 rfl ?_
  refine g_iconst (v := 1) hk dL_law_663 (by decide) ?_
  refine g_iadd hk dL_law_664 ?_
  refine g_topi (fun y6 ey6 => ?_)
  have qy6 : y6 = y1 := ey6.trans ey1.symm
  subst qy6
  refine g_sld (v := xs y6.toNatClampNeg) hk hX (vp_in_iff.mpr ⟨by omega, by omega⟩) rfl dL_law_665 ?_
  refine g_aload_n hk dL_law_666 rfl ?_
  refine g_iload_n hk dL_law_667 rfl ?_
  refine g_iconst (v := 2) hk dL_law_668 (by decide) ?_
  refine g_iadd hk dL_law_669 ?_
  refine g_topi (fun y7 ey7 => ?_)
  have qy7 : y7 = y2 := ey7.trans ey2.symm
  subst qy7
  refine g_sld (v := xs y7.toNatClampNeg) hk hX (vp_in_iff.mpr ⟨by omega, by omega⟩) rfl dL_law_670 ?_
  refine g_aload_n hk dL_law_671 rfl ?_
  refine g_iload_n hk dL_law_672 rfl ?_
  refine g_iconst (v := 3) hk dL_law_673 (by decide) ?_
  refine g_iadd hk dL_law_674 ?_
  refine g_topi (fun y8 ey8 => ?_)
  have qy8 : y8 = y3 := ey8.trans ey3.symm
  subst qy8
  refine g_sld (v := xs y8.toNatClampNeg) hk hX (vp_in_iff.mpr ⟨by omega, by omega⟩) rfl dL_law_675 ?_
  refine g_callV (n := 3) hk (j179_X12_bound l D zt r g J B M (xs y6.toNatClampNeg) (xs y7.toNatClampNeg) (xs y8.toNatClampNeg) hJ) (SP.pre _ _) (fun q h => List.mem_append_right _ h) (gi_V zw_1799 zw_1800 zw_1801 zw_115 (gi_sub zi_j179_X12_bound zg_j179_X12_bound)) rfl rfl rfl (by decide +kernel) ⟨Nat.le_of_ble_eq_true rfl, Nat.le_of_ble_eq_true rfl⟩ 0 rfl rfl rfl rfl (Nat.le_of_ble_eq_true rfl) ⟨Nat.le_of_ble_eq_true rfl, Nat.le_of_ble_eq_true rfl⟩ dL_law_676 (fun v ty' w' hp hk' => ?_)
  obtain ⟨I10, A10, L10, d10, a10, h10, v9, l10, e10, rfl, rfl⟩ := hp
  show GW κ 4 82 21282 (wX q d I5 A5 ++ wM r g I10 A10 L10) 679 [(3, .int i), (2, .ref (r 0)), (1, .ref (q 0)), (0, .ref b)] [.int v9]
  refine g_pop hk dL_law_679 rfl ?_
  refine g_goto (tgt := 1465) hk dL_law_680 (by decide) ?_
  exact tail I5 A5 I10 A10 L10 h5 h10 ⟨⟨(RT.keep hS.1.1 (d5 0 rfl) (a5 0 rfl) (d10 1 rfl) (a10 0 rfl) l10), (((d5 12 rfl).trans hS.1.2.1).trans (d10 10 rfl).symm), (((d5 13 rfl).trans hS.1.2.2).trans (d10 14 rfl).symm)⟩, (hS.2.1.keep (d5 17 rfl) (d5 18 rfl) (d5 20 rfl) (d5 21 rfl) (a5 7 rfl) (a5 10 rfl) (a5 11 rfl) (a5 12 rfl) (a5 13 rfl) (d10 22 rfl) (a10 17 rfl) (a10 22 rfl)), (hS.2.2.1.keep (d5 19 rfl) (a5 8 rfl) (a5 9 rfl) (d10 15 rfl) (a10 10 rfl) (a10 11 rfl) (a10 12 rfl)), (hS.2.2.2.keep (d5 22 rfl) (d5 23 rfl) (d5 24 rfl) (d5 25 rfl) (d5 26 rfl) (d5 27 rfl) (a5 15 rfl) (a5 16 rfl) (a5 17 rfl) (a5 18 rfl) (a5 19 rfl) (a5 20 rfl) (a10 27 rfl) (a10 28 rfl))⟩
set_option maxHeartbeats 4000000 in
set_option maxRecDepth 100000 in
theorem law_17 {κ : Cx} {l : Launch} {D : va_G} {zt : Nat × Nat × Nat × (Nat → Nat) × (Nat → Nat)} {q r : Nat → Nat} {d g : Nat → ClassId} {b L : Nat} {xs : Nat → Int32} (hk : GC κ l D zt code 4 RL lw_tbl (tyX d ++ tyM g) room_1) (hX : GX κ b L xs) (i : Int32) (h0 : 0 ≤ i.toInt) (h6 : i.toInt + 6 ≤ (L : Int)) (hL : L ≤ 3072) (I : Nat → Int32) (A : Nat → Nat → Int32) (J : Nat → Int32) (B : Nat → Nat → Int32) (M : Nat → Nat → Int64) (hI : IvX I A) (hJ : IvM J B) (hS : RA I A J B M) (tail : ∀ (I : Nat → Int32) (A : Nat → Nat → Int32) (J : Nat → Int32) (B : Nat → Nat → Int32) (M : Nat → Nat → Int64), IvX I A → IvM J B → RA I A J B M → GW κ 4 82 21282 (wX q d I A ++ wM r g J B M) 1465 [(3, .int i), (2, .ref (r 0)), (1, .ref (q 0)), (0, .ref b)] []) : GW κ 4 82 21282 (wX q d I A ++ wM r g J B M) 683 [(3, .int i), (2, .ref (r 0)), (1, .ref (q 0)), (0, .ref b)] [] := by
  refine g_aload_n hk dL_law_683 rfl ?_
  refine g_aload_n hk dL_law_684 rfl ?_
  refine g_iload_n hk dL_law_685 rfl ?_
  refine g_iconst (v := 1) hk dL_law_686 (by decide) ?_
  refine g_iadd hk dL_law_687 ?_
  refine g_topi (fun y1 ey1 => ?_)
  have hy1 : y1.toInt = i.toInt + 1 := i32_add ey1 rfl (by decide) (by omega) (by omega)
  refine g_sld (v := xs y1.toNatClampNeg) hk hX (vp_in_iff.mpr ⟨by omega, by omega⟩) rfl dL_law_688 ?_
  refine g_aload_n hk dL_law_689 rfl ?_
  refine g_iload_n hk dL_law_690 rfl ?_
  refine g_iconst (v := 2) hk dL_law_691 (by decide) ?_
  refine g_iadd hk dL_law_692 ?_
  refine g_topi (fun y2 ey2 => ?_)
  have hy2 : y2.toInt = i.toInt + 2 := i32_add ey2 rfl (by decide) (by omega) (by omega)
  refine g_sld (v := xs y2.toNatClampNeg) hk hX (vp_in_iff.mpr ⟨by omega, by omega⟩) rfl dL_law_693 ?_
  refine g_aload_n hk dL_law_694 rfl ?_
  refine g_iload_n hk dL_law_695 rfl ?_
  refine g_iconst (v := 3) hk dL_law_696 (by decide) ?_
  refine g_iadd hk dL_law_697 ?_
  refine g_topi (fun y3 ey3 => ?_)
  have hy3 : y3.toInt = i.toInt + 3 := i32_add ey3 rfl (by decide) (by omega) (by omega)
  refine g_sld (v := xs y3.toNatClampNeg) hk hX (vp_in_iff.mpr ⟨by omega, by omega⟩) rfl dL_law_698 ?_
  refine g_aload_n hk dL_law_699 rfl ?_
  refine g_iload_n hk dL_law_700 rfl ?_
  refine g_iconst (v := 4) hk dL_law_701 (by decide) ?_
  refine g_iadd hk dL_law_702 ?_
  refine g_topi (fun y4 ey4 => ?_)
  have hy4 : y4.toInt = i.toInt + 4 := i32_add ey4 rfl (by decide) (by omega) (by omega)
  refine g_sld (v := xs y4.toNatClampNeg) hk hX (vp_in_iff.mpr ⟨by omega, by omega⟩) rfl dL_law_703 ?_
  refine g_callV (n := 4) hk (k246_X11_look l D zt q d I A (xs y1.toNatClampNeg) (xs y2.toNatClampNeg) (xs y3.toNatClampNeg) (xs y4.toNatClampNeg) hI) (SP.pre _ _) (fun q h => List.mem_append_left _ h) (gi_V zw_1041 zw_1042 zw_1043 zw_103 (gi_sub zi_k246_X11_look zg_k246_X11_look)) rfl rfl rfl (by decide +kernel) ⟨Nat.le_of_ble_eq_true rfl, Nat.le_of_ble_eq_true rfl⟩ 0 rfl rfl rfl rfl (Nat.le_of_ble_eq_true rfl) ⟨Nat.le_of_ble_eq_true rfl, Nat.le_of_ble_eq_true rfl⟩ dL_law_704 (fun v ty' w' hp hk' => ?_)
  obtain ⟨I6, A6, d6, a6, h6, v5, e6, rfl, rfl⟩ := hp
  show GW κ 4 82 21282 (wM r g J B M ++ wX q d I6 A6) 707 [(3, .int i), (2, .ref (r 0)), (1, .ref (q 0)), (0, .ref b)] [.int v5]
  refine g_pop hk dL_law_707 rfl ?_
  refine g_aload_n hk dL_law_708 rfl ?_
  refine g_aload_n hk dL_law_709 rfl ?_
  refine g_iload_n hk dL_law_710 rfl ?_
  refine g_iconst (v := 1) hk dL_law_711 (by decide) ?_
  refine g_iadd hk dL_law_712 ?_
  refine g_topi (fun y7 ey7 => ?_)
  have qy7 : y7 = y1 := ey7.trans ey1.symm
  subst qy7
  refine g_sld (v := xs y7.toNatClampNeg) hk hX (vp_in_iff.mpr ⟨by omega, by omega⟩) rfl dL_law_713 ?_
  refine g_aload_n hk dL_law_714 rfl ?_
  refine g_iload_n hk dL_law_715 rfl ?_
  refine g_iconst (v := 2) hk dL_law_716 (by decide) ?_
  refine g_iadd hk dL_law_717 ?_
  refine g_topi (fun y8 ey8 => ?_)
  have qy8 : y8 = y2 := ey8.trans ey2.symm
  subst qy8
  refine g_sld (v := xs y8.toNatClampNeg) hk hX (vp_in_iff.mpr ⟨by omega, by omega⟩) rfl dL_law_718 ?_
  refine g_aload_n hk dL_law_719 rfl ?_
  refine g_iload_n hk dL_law_720 rfl ?_
  refine g_iconst (v := 3) hk dL_law_721 (by decide) ?_
  refine g_iadd hk dL_law_722 ?_
  refine g_topi (fun y9 ey9 => ?_)
  have qy9 : y9 = y3 := ey9.trans ey3.symm
  subst qy9
  refine g_sld (v := xs y9.toNatClampNeg) hk hX (vp_in_iff.mpr ⟨by omega, by omega⟩) rfl dL_law_723 ?_
  refine g_aload_n hk dL_law_724 rfl ?_
  refine g_iload_n hk dL_law_725 rfl ?_
  refine g_iconst (v := 4) hk dL_law_726 (by decide) ?_
  refine g_iadd hk dL_law_727 ?_
  refine g_topi (fun y10 ey10 => ?_)
  have qy10 : y10 = y4 := ey10.trans ey4.symm
  subst qy10
  refine g_sld (v := xs y10.toNatClampNeg) hk hX (vp_in_iff.mpr ⟨by omega, by omega⟩) rfl dL_law_728 ?_
  refine g_callV (n := 4) hk (j183_X12_look l D zt r g J B M (xs y7.toNatClampNeg) (xs y8.toNatClampNeg) (xs y9.toNatClampNeg) (xs y10.toNatClampNeg) hJ) (SP.pre _ _) (fun q h => List.mem_append_right _ h) (gi_V zw_1816 zw_1817 zw_1818 zw_115 (gi_sub zi_j183_X12_look zg_j183_X12_look)) rfl rfl rfl (by decide +kernel) ⟨Nat.le_of_ble_eq_true rfl, Nat.le_of_ble_eq_true rfl⟩ 0 rfl rfl rfl rfl (Nat.le_of_ble_eq_true rfl) ⟨Nat.le_of_ble_eq_true rfl, Nat.le_of_ble_eq_true rfl⟩ dL_law_729 (fun v ty' w' hp hk' => ?_)
  obtain ⟨I12, A12, L12, d12, a12, h12, v11, l12, e12, rfl, rfl⟩ := hp
  show GW κ 4 82 21282 (wX q d I6 A6 ++ wM r g I12 A12 L12) 732 [(3, .int i), (2, .ref (r 0)), (1, .ref (q 0)), (0, .ref b)] [.int v11]
  refine g_pop hk dL_law_732 rfl ?_
  refine g_goto (tgt := 1465) hk dL_law_733 (by decide) ?_
  exact tail I6 A6 I12 A12 L12 h6 h12 ⟨⟨(RT.keep hS.1.1 (d6 0 rfl) (a6 0 rfl) (d12 1 rfl) (a12 0 rfl) l12), (((d6 12 rfl).trans hS.1.2.1).trans (d12 10 rfl).symm), (((d6 13 rfl).trans hS.1.2.2).trans (d12 14 rfl).symm)⟩, (hS.2.1.keep (d6 17 rfl) (d6 18 rfl) (d6 20 rfl) (d6 21 rfl) (a6 7 rfl) (a6 10 rfl) (a6 11 rfl) (a6 12 rfl) (a6 13 rfl) (d12 22 rfl) (a12 17 rfl) (a12 22 rfl)), (hS.2.2.1.keep (d6 19 rfl) (a6 8 rfl) (a6 9 rfl) (d12 15 rfl) (a12 10 rfl) (a12 11 rfl) (a12 12 rfl)), (hS.2.2.2.keep (d6 22 rfl) (d6 23 rfl) (d6 24 rfl) (d6 25 rfl) (d6 26 rfl) (d6 27 rfl) (a6 15 rfl) (a6 16 rfl) (a6 17 rfl) (a6 18 rfl) (a6 19 rfl) (a6 20 rfl) (a12 27 rfl) (a12 28 rfl))⟩
set_option maxHeartbeats 4000000 in
set_option maxRecDepth 100000 in
theorem law_18 {κ : Cx} {l : Launch} {D : va_G} {zt : Nat × Nat × Nat × (Nat → Nat) × (Nat → Nat)} {q r : Nat → Nat} {d g : Nat → ClassId} {b L : Nat} {xs : Nat → Int32} (hk : GC κ l D zt code 4 RL lw_tbl (tyX d ++ tyM g) room_1) (hX : GX κ b L xs) (i : Int32) (h0 : 0 ≤ i.toInt) (h6 : i.toInt + 6 ≤ (L : Int)) (hL : L ≤ 3072) (I : Nat → Int32) (A : Nat → Nat → Int32) (J : Nat → Int32) (B : Nat → Nat → Int32) (M : Nat → Nat → Int64) (hI : IvX I A) (hJ : IvM J B) (hS : RA I A J B M) (tail : ∀ (I : Nat → Int32) (A : Nat → Nat → Int32) (J : Nat → Int32) (B : Nat → Nat → Int32) (M : Nat → Nat → Int64), IvX I A → IvM J B → RA I A J B M → GW κ 4 82 21282 (wX q d I A ++ wM r g J B M) 1465 [(3, .int i), (2, .ref (r 0)), (1, .ref (q 0)), (0, .ref b)] []) : GW κ 4 82 21282 (wX q d I A ++ wM r g J B M) 736 [(3, .int i), (2, .ref (r 0)), (1, .ref (q 0)), (0, .ref b)] [] := by
  refine g_aload_n hk dL_law_736 rfl ?_
  refine g_aload_n hk dL_law_737 rfl ?_
  refine g_iload_n hk dL_law_738 rfl ?_
  refine g_iconst (v := 1) hk dL_law_739 (by decide) ?_
  refine g_iadd hk dL_law_740 ?_
  refine g_topi (fun y1 ey1 => ?_)
  have hy1 : y1.toInt = i.toInt + 1 := i32_add ey1 rfl (by decide) (by omega) (by omega)
  refine g_sld (v := xs y1.toNatClampNeg) hk hX (vp_in_iff.mpr ⟨by omega, by omega⟩) rfl dL_law_741 ?_
  refine g_aload_n hk dL_law_742 rfl ?_
  refine g_iload_n hk dL_law_743 rfl ?_
  refine g_iconst (v := 2) hk dL_law_744 (by decide) ?_
  refine g_iadd hk dL_law_745 ?_
  refine g_topi (fun y2 ey2 => ?_)
  have hy2 : y2.toInt = i.toInt + 2 := i32_add ey2 rfl (by decide) (by omega) (by omega)
  refine g_sld (v := xs y2.toNatClampNeg) hk hX (vp_in_iff.mpr ⟨by omega, by omega⟩) rfl dL_law_746 ?_
  refine g_callV (n := 2) hk (k262_X11_best l D zt q d I A (xs y1.toNatClampNeg) (xs y2.toNatClampNeg) hI) (SP.pre _ _) (fun q h => List.mem_append_left _ h) (gi_V zw_1113 zw_1114 zw_1115 zw_103 (gi_sub zi_k262_X11_best zg_k262_X11_best)) rfl rfl rfl (by decide +kernel) ⟨Nat.le_of_ble_eq_true rfl, Nat.le_of_ble_eq_true rfl⟩ 0 rfl rfl rfl rfl (Nat.le_of_ble_eq_true rfl) ⟨Nat.le_of_ble_eq_true rfl, Nat.le_of_ble_eq_true rfl⟩ dL_law_747 (fun v ty' w' hp hk' => ?_)
  obtain ⟨I4, A4, d4, a4, h4, v3, e4, rfl, rfl⟩ := hp
  show GW κ 4 82 21282 (wM r g J B M ++ wX q d I4 A4) 750 [(3, .int i), (2, .ref (r 0)), (1, .ref (q 0)), (0, .ref b)] [.int v3]
  refine g_pop hk dL_law_750 rfl ?_
  refine g_aload_n hk dL_law_751 rfl ?_
  refine g_aload_n hk dL_law_752 rfl ?_
  refine g_iload_n hk dL_law_753 rfl ?_
  refine g_iconst (v := 1) hk dL_law_754 (by decide) ?_
  refine g_iadd hk dL_law_755 ?_
  refine g_topi (fun y5 ey5 => ?_)
  have qy5 : y5 = y1 := ey5.trans ey1.symm
  subst qy5
  refine g_sld (v := xs y5.toNatClampNeg) hk hX (vp_in_iff.mpr ⟨by omega, by omega⟩) rfl dL_law_756 ?_
  refine g_aload_n hk dL_law_757 rfl ?_
  refine g_iload_n hk dL_law_758 rfl ?_
  refine g_iconst (v := 2) hk dL_law_759 (by decide) ?_
  refine g_iadd hk dL_law_760 ?_
  refine g_topi (fun y6 ey6 => ?_)
  have qy6 : y6 = y2 := ey6.trans ey2.symm
  subst qy6
  refine g_sld (v := xs y6.toNatClampNeg) hk hX (vp_in_iff.mpr ⟨by omega, by omega⟩) rfl dL_law_761 ?_
  refine g_callV (n := 2) hk (j185_X12_best l D zt r g J B M (xs y5.toNatClampNeg) (xs y6.toNatClampNeg) hJ) (SP.pre _ _) (fun q h => List.mem_append_right _ h) (gi_V zw_1840 zw_1841 zw_1842 zw_115 (gi_sub zi_j185_X12_best zg_j185_X12_best)) rfl rfl rfl (by decide +kernel) ⟨Nat.le_of_ble_eq_true rfl, Nat.le_of_ble_eq_true rfl⟩ 0 rfl rfl rfl rfl (Nat.le_of_ble_eq_true rfl) ⟨Nat.le_of_ble_eq_true rfl, Nat.le_of_ble_eq_true rfl⟩ dL_law_762 (fun v ty' w' hp hk' => ?_)
  obtain ⟨I8, A8, L8, d8, a8, h8, v7, l8, e8, rfl, rfl⟩ := hp
  show GW κ 4 82 21282 (wX q d I4 A4 ++ wM r g I8 A8 L8) 765 [(3, .int i), (2, .ref (r 0)), (1, .ref (q 0)), (0, .ref b)] [.int v7]
  refine g_pop hk dL_law_765 rfl ?_
  refine g_goto (tgt := 1465) hk dL_law_766 (by decide) ?_
  exact tail I4 A4 I8 A8 L8 h4 h8 ⟨⟨(RT.keep hS.1.1 (d4 0 rfl) (a4 0 rfl) (d8 1 rfl) (a8 0 rfl) l8), (((d4 12 rfl).trans hS.1.2.1).trans (d8 10 rfl).symm), (((d4 13 rfl).trans hS.1.2.2).trans (d8 14 rfl).symm)⟩, (hS.2.1.keep (d4 17 rfl) (d4 18 rfl) (d4 20 rfl) (d4 21 rfl) (a4 7 rfl) (a4 10 rfl) (a4 11 rfl) (a4 12 rfl) (a4 13 rfl) (d8 22 rfl) (a8 17 rfl) (a8 22 rfl)), (hS.2.2.1.keep (d4 19 rfl) (a4 8 rfl) (a4 9 rfl) (d8 15 rfl) (a8 10 rfl) (a8 11 rfl) (a8 12 rfl)), (hS.2.2.2.keep (d4 22 rfl) (d4 23 rfl) (d4 24 rfl) (d4 25 rfl) (d4 26 rfl) (d4 27 rfl) (a4 15 rfl) (a4 16 rfl) (a4 17 rfl) (a4 18 rfl) (a4 19 rfl) (a4 20 rfl) (a8 27 rfl) (a8 28 rfl))⟩
set_option maxHeartbeats 4000000 in
set_option maxRecDepth 100000 in
theorem law_19 {κ : Cx} {l : Launch} {D : va_G} {zt : Nat × Nat × Nat × (Nat → Nat) × (Nat → Nat)} {q r : Nat → Nat} {d g : Nat → ClassId} {b L : Nat} {xs : Nat → Int32} (hk : GC κ l D zt code 4 RL lw_tbl (tyX d ++ tyM g) room_1) (hX : GX κ b L xs) (i : Int32) (h0 : 0 ≤ i.toInt) (h6 : i.toInt + 6 ≤ (L : Int)) (hL : L ≤ 3072) (I : Nat → Int32) (A : Nat → Nat → Int32) (J : Nat → Int32) (B : Nat → Nat → Int32) (M : Nat → Nat → Int64) (hI : IvX I A) (hJ : IvM J B) (hS : RA I A J B M) (tail : ∀ (I : Nat → Int32) (A : Nat → Nat → Int32) (J : Nat → Int32) (B : Nat → Nat → Int32) (M : Nat → Nat → Int64), IvX I A → IvM J B → RA I A J B M → GW κ 4 82 21282 (wX q d I A ++ wM r g J B M) 1465 [(3, .int i), (2, .ref (r 0)), (1, .ref (q 0)), (0, .ref b)] []) : GW κ 4 82 21282 (wX q d I A ++ wM r g J B M) 769 [(3, .int i), (2, .ref (r 0)), (1, .ref (q 0)), (0, .ref b)] [] := by
  refine g_aload_n hk dL_law_769 rfl ?_
  refine g_aload_n hk dL_law_770 rfl ?_
  refine g_iload_n hk dL_law_771 rfl ?_
  refine g_iconst (v := 1) hk dL_law_772 (by decide) ?_
  refine g_iadd hk dL_law_773 ?_
  refine g_topi (fun y1 ey1 => ?_)
  have hy1 : y1.toInt = i.toInt + 1 := i32_add ey1 rfl (by decide) (by omega) (by omega)
  refine g_sld (v := xs y1.toNatClampNeg) hk hX (vp_in_iff.mpr ⟨by omega, by omega⟩) rfl dL_law_774 ?_
  refine g_aload_n hk dL_law_775 rfl ?_
  refine g_iload_n hk dL_law_776 rfl ?_
  refine g_iconst (v := 2) hk dL_law_777 (by decide) ?_
  refine g_iadd hk dL_law_778 ?_
  refine g_topi (fun y2 ey2 => ?_)
  have hy2 : y2.toInt = i.toInt + 2 := i32_add ey2 rfl (by decide) (by omega) (by omega)
  refine g_sld (v := xs y2.toNatClampNeg) hk hX (vp_in_iff.mpr ⟨by omega, by omega⟩) rfl dL_law_779 ?_
  refine g_callV (n := 2) hk (k265_X11_search l D zt q d I A (xs y1.toNatClampNeg) (xs y2.toNatClampNeg) hI) (SP.pre _ _) (fun q h => List.mem_append_left _ h) (gi_V zw_1129 zw_1130 zw_1131 zw_103 (gi_sub zi_k265_X11_search zg_k265_X11_search)) rfl rfl rfl (by decide +kernel) ⟨Nat.le_of_ble_eq_true rfl, Nat.le_of_ble_eq_true rfl⟩ 0 rfl rfl rfl rfl (Nat.le_of_ble_eq_true rfl) ⟨Nat.le_of_ble_eq_true rfl, Nat.le_of_ble_eq_true rfl⟩ dL_law_780 (fun v ty' w' hp hk' => ?_)
  obtain ⟨I4, A4, d4, a4, h4, v3, e4, rfl, rfl⟩ := hp
  show GW κ 4 82 21282 (wM r g J B M ++ wX q d I4 A4) 783 [(3, .int i), (2, .ref (r 0)), (1, .ref (q 0)), (0, .ref b)] [.int v3]
  refine g_pop hk dL_law_783 rfl ?_
  refine g_aload_n hk dL_law_784 rfl ?_
  refine g_aload_n hk dL_law_785 rfl ?_
  refine g_iload_n hk dL_law_786 rfl ?_
  refine g_iconst (v := 1) hk dL_law_787 (by decide) ?_
  refine g_iadd hk dL_law_788 ?_
  refine g_topi (fun y5 ey5 => ?_)
  have qy5 : y5 = y1 := ey5.trans ey1.symm
  subst qy5
  refine g_sld (v := xs y5.toNatClampNeg) hk hX (vp_in_iff.mpr ⟨by omega, by omega⟩) rfl dL_law_789 ?_
  refine g_aload_n hk dL_law_790 rfl ?_
  refine g_iload_n hk dL_law_791 rfl ?_
  refine g_iconst (v := 2) hk dL_law_792 (by decide) ?_
  refine g_iadd hk dL_law_793 ?_
  refine g_topi (fun y6 ey6 => ?_)
  have qy6 : y6 = y2 := ey6.trans ey2.symm
  subst qy6
  refine g_sld (v := xs y6.toNatClampNeg) hk hX (vp_in_iff.mpr ⟨by omega, by omega⟩) rfl dL_law_794 ?_
  refine g_callV (n := 2) hk (j188_X12_search l D zt r g J B M (xs y5.toNatClampNeg) (xs y6.toNatClampNeg) hJ) (SP.pre _ _) (fun q h => List.mem_append_right _ h) (gi_V zw_1856 zw_1857 zw_1858 zw_115 (gi_sub zi_j188_X12_search zg_j188_X12_search)) rfl rfl rfl (by decide +kernel) ⟨Nat.le_of_ble_eq_true rfl, Nat.le_of_ble_eq_true rfl⟩ 0 rfl rfl rfl rfl (Nat.le_of_ble_eq_true rfl) ⟨Nat.le_of_ble_eq_true rfl, Nat.le_of_ble_eq_true rfl⟩ dL_law_795 (fun v ty' w' hp hk' => ?_)
  obtain ⟨I8, A8, L8, d8, a8, h8, v7, l8, e8, rfl, rfl⟩ := hp
  show GW κ 4 82 21282 (wX q d I4 A4 ++ wM r g I8 A8 L8) 798 [(3, .int i), (2, .ref (r 0)), (1, .ref (q 0)), (0, .ref b)] [.int v7]
  refine g_pop hk dL_law_798 rfl ?_
  refine g_goto (tgt := 1465) hk dL_law_799 (by decide) ?_
  exact tail I4 A4 I8 A8 L8 h4 h8 ⟨⟨(RT.keep hS.1.1 (d4 0 rfl) (a4 0 rfl) (d8 1 rfl) (a8 0 rfl) l8), (((d4 12 rfl).trans hS.1.2.1).trans (d8 10 rfl).symm), (((d4 13 rfl).trans hS.1.2.2).trans (d8 14 rfl).symm)⟩, (hS.2.1.keep (d4 17 rfl) (d4 18 rfl) (d4 20 rfl) (d4 21 rfl) (a4 7 rfl) (a4 10 rfl) (a4 11 rfl) (a4 12 rfl) (a4 13 rfl) (d8 22 rfl) (a8 17 rfl) (a8 22 rfl)), (hS.2.2.1.keep (d4 19 rfl) (a4 8 rfl) (a4 9 rfl) (d8 15 rfl) (a8 10 rfl) (a8 11 rfl) (a8 12 rfl)), (hS.2.2.2.keep (d4 22 rfl) (d4 23 rfl) (d4 24 rfl) (d4 25 rfl) (d4 26 rfl) (d4 27 rfl) (a4 15 rfl) (a4 16 rfl) (a4 17 rfl) (a4 18 rfl) (a4 19 rfl) (a4 20 rfl) (a8 27 rfl) (a8 28 rfl))⟩
