set_option maxHeartbeats 4000000 in
set_option maxRecDepth 100000 in
theorem law_0 {κ : Cx} {l : Launch} {D : va_G} {zt : Nat × Nat × Nat} {q r : Nat → Nat} {d g : Nat → ClassId} {b L : Nat} {xs : Nat → Int32} (hk : GC κ l D zt code 4 RL lw_tbl (tyX d ++ tyM g) room_1) (hX : GX κ b L xs) (hL6 : L = 6) (tail : ∀ ws, GW κ 4 82 21282 ws 1465 [(3, .int 0), (2, .ref (r 0)), (1, .ref (q 0)), (0, .ref b)] []) : GW κ 4 82 21282 (wX q d iX0 aX0 ++ wM r g iM1 aM1 lM1) 212 [(3, .int 0), (2, .ref (r 0)), (1, .ref (q 0)), (0, .ref b)] [] := by
  refine g_aload_n hk dL_law_212 rfl ?_
  refine g_aload_n hk dL_law_213 rfl ?_
  refine g_iload_n hk dL_law_214 rfl ?_
  refine g_iconst (v := 1) hk dL_law_215 (by decide) ?_
  refine g_iadd hk dL_law_216 ?_
  refine g_norm (v := 1) (by decide) ?_
  refine g_sld (v := xs 1) hk hX (vp_in_iff.mpr ⟨by decide, by show (1 : Int) < (L : Int); omega⟩) rfl dL_law_217 ?_
  refine g_aload_n hk dL_law_218 rfl ?_
  refine g_iload_n hk dL_law_219 rfl ?_
  refine g_iconst (v := 2) hk dL_law_220 (by decide) ?_
  refine g_iadd hk dL_law_221 ?_
  refine g_norm (v := 2) (by decide) ?_
  refine g_sld (v := xs 2) hk hX (vp_in_iff.mpr ⟨by decide, by show (2 : Int) < (L : Int); omega⟩) rfl dL_law_222 ?_
  refine g_aload_n hk dL_law_223 rfl ?_
  refine g_iload_n hk dL_law_224 rfl ?_
  refine g_iconst (v := 3) hk dL_law_225 (by decide) ?_
  refine g_iadd hk dL_law_226 ?_
  refine g_norm (v := 3) (by decide) ?_
  refine g_sld (v := xs 3) hk hX (vp_in_iff.mpr ⟨by decide, by show (3 : Int) < (L : Int); omega⟩) rfl dL_law_227 ?_
  refine g_aload_n hk dL_law_228 rfl ?_
  refine g_iload_n hk dL_law_229 rfl ?_
  refine g_iconst (v := 4) hk dL_law_230 (by decide) ?_
  refine g_iadd hk dL_law_231 ?_
  refine g_norm (v := 4) (by decide) ?_
  refine g_sld (v := xs 4) hk hX (vp_in_iff.mpr ⟨by decide, by show (4 : Int) < (L : Int); omega⟩) rfl dL_law_232 ?_
  refine g_aload_n hk dL_law_233 rfl ?_
  refine g_iload_n hk dL_law_234 rfl ?_
  refine g_iconst (v := 5) hk dL_law_235 (by decide) ?_
  refine g_iadd hk dL_law_236 ?_
  refine g_norm (v := 5) (by decide) ?_
  refine g_sld (v := xs 5) hk hX (vp_in_iff.mpr ⟨by decide, by show (5 : Int) < (L : Int); omega⟩) rfl dL_law_237 ?_
  refine g_callV (n := 5) hk (m204_X11_feed l D zt d q (xs 1) (xs 2) (xs 3) (xs 4) (xs 5)) (SP.pre _ _) (fun q h => List.mem_append_left _ h) (gi_V zw_518 zw_519 zw_520 zw_103 (gi_sub zi_m204_X11_feed zg_m204_X11_feed)) rfl rfl rfl (by decide +kernel) ⟨Nat.le_of_ble_eq_true rfl, Nat.le_of_ble_eq_true rfl⟩ 0 rfl rfl rfl rfl (Nat.le_of_ble_eq_true rfl) ⟨Nat.le_of_ble_eq_true rfl, Nat.le_of_ble_eq_true rfl⟩ dL_law_238 (fun v ty' w' hp hk' => ?_)
  obtain ⟨y1069, y1070, y1071, y1072, y1073, y1074, y1075, y1076, y1077, y1078, y1079, y1080, y1081, y1082, y1083, y1084, y1085, y1086, y1087, y1088, rfl, rfl⟩ := hp
  show GW κ 4 82 21282 (wM r g iM1 aM1 lM1 ++ wX q d (upd (upd (upd (upd (upd (upd (upd (upd (upd (upd (upd (upd (upd (upd (upd (upd (upd (upd (upd (upd iX0 0 1) 0 2) 0 3) 0 4) 0 5) 0 6) 0 7) 0 8) 0 9) 0 10) 0 11) 0 12) 0 13) 0 14) 0 15) 0 16) 0 17) 0 18) 0 19) 0 20) (up3 (up3 (up3 (up3 (up3 (up3 (up3 (up3 (up3 (up3 (up3 (up3 (up3 (up3 (up3 (up3 (up3 (up3 (up3 (up3 aX0 0 0 y1069) 0 1 y1070) 0 2 y1071) 0 3 y1072) 0 4 y1073) 0 5 y1074) 0 6 y1075) 0 7 y1076) 0 8 y1077) 0 9 y1078) 0 10 y1079) 0 11 y1080) 0 12 y1081) 0 13 y1082) 0 14 y1083) 0 15 y1084) 0 16 y1085) 0 17 y1086) 0 18 y1087) 0 19 y1088)) 241 [(3, .int 0), (2, .ref (r 0)), (1, .ref (q 0)), (0, .ref b)] [.int 20]
  refine g_aload_n hk dL_law_241 rfl ?_
  refine g_aload_n hk dL_law_242 rfl ?_
  refine g_iload_n hk dL_law_243 rfl ?_
  refine g_iconst (v := 1) hk dL_law_244 (by decide) ?_
  refine g_iadd hk dL_law_245 ?_
  refine g_norm (v := 1) (by decide) ?_
  refine g_sld (v := xs 1) hk hX (vp_in_iff.mpr ⟨by decide, by show (1 : Int) < (L : Int); omega⟩) rfl dL_law_246 ?_
  refine g_aload_n hk dL_law_247 rfl ?_
  refine g_iload_n hk dL_law_248 rfl ?_
  refine g_iconst (v := 2) hk dL_law_249 (by decide) ?_
  refine g_iadd hk dL_law_250 ?_
  refine g_norm (v := 2) (by decide) ?_
  refine g_sld (v := xs 2) hk hX (vp_in_iff.mpr ⟨by decide, by show (2 : Int) < (L : Int); omega⟩) rfl dL_law_251 ?_
  refine g_aload_n hk dL_law_252 rfl ?_
  refine g_iload_n hk dL_law_253 rfl ?_
  refine g_iconst (v := 3) hk dL_law_254 (by decide) ?_
  refine g_iadd hk dL_law_255 ?_
  refine g_norm (v := 3) (by decide) ?_
  refine g_sld (v := xs 3) hk hX (vp_in_iff.mpr ⟨by decide, by show (3 : Int) < (L : Int); omega⟩) rfl dL_law_256 ?_
  refine g_aload_n hk dL_law_257 rfl ?_
  refine g_iload_n hk dL_law_258 rfl ?_
  refine g_iconst (v := 4) hk dL_law_259 (by decide) ?_
  refine g_iadd hk dL_law_260 ?_
  refine g_norm (v := 4) (by decide) ?_
  refine g_sld (v := xs 4) hk hX (vp_in_iff.mpr ⟨by decide, by show (4 : Int) < (L : Int); omega⟩) rfl dL_law_261 ?_
  refine g_aload_n hk dL_law_262 rfl ?_
  refine g_iload_n hk dL_law_263 rfl ?_
  refine g_iconst (v := 5) hk dL_law_264 (by decide) ?_
  refine g_iadd hk dL_law_265 ?_
  refine g_norm (v := 5) (by decide) ?_
  refine g_sld (v := xs 5) hk hX (vp_in_iff.mpr ⟨by decide, by show (5 : Int) < (L : Int); omega⟩) rfl dL_law_266 ?_
  refine g_callV (n := 5) hk (m113_X12_feed l D zt g r (xs 1) (xs 2) (xs 3) (xs 4) (xs 5)) (SP.pre _ _) (fun q h => List.mem_append_right _ h) (gi_V zw_1545 zw_1546 zw_1547 zw_115 (gi_sub zi_m113_X12_feed zg_m113_X12_feed)) rfl rfl rfl (by decide +kernel) ⟨Nat.le_of_ble_eq_true rfl, Nat.le_of_ble_eq_true rfl⟩ 0 rfl rfl rfl rfl (Nat.le_of_ble_eq_true rfl) ⟨Nat.le_of_ble_eq_true rfl, Nat.le_of_ble_eq_true rfl⟩ dL_law_267 (fun v ty' w' hp hk' => ?_)
  obtain ⟨y1089, y1090, y1091, y1092, y1093, y1094, y1095, y1096, y1097, y1098, y1099, y1100, y1101, y1102, y1103, y1104, y1105, y1106, y1107, y1108, rfl, rfl⟩ := hp
  show GW κ 4 82 21282 (wX q d (upd (upd (upd (upd (upd (upd (upd (upd (upd (upd (upd (upd (upd (upd (upd (upd (upd (upd (upd (upd iX0 0 1) 0 2) 0 3) 0 4) 0 5) 0 6) 0 7) 0 8) 0 9) 0 10) 0 11) 0 12) 0 13) 0 14) 0 15) 0 16) 0 17) 0 18) 0 19) 0 20) (up3 (up3 (up3 (up3 (up3 (up3 (up3 (up3 (up3 (up3 (up3 (up3 (up3 (up3 (up3 (up3 (up3 (up3 (up3 (up3 aX0 0 0 y1069) 0 1 y1070) 0 2 y1071) 0 3 y1072) 0 4 y1073) 0 5 y1074) 0 6 y1075) 0 7 y1076) 0 8 y1077) 0 9 y1078) 0 10 y1079) 0 11 y1080) 0 12 y1081) 0 13 y1082) 0 14 y1083) 0 15 y1084) 0 16 y1085) 0 17 y1086) 0 18 y1087) 0 19 y1088) ++ wM r g (upd (upd (upd (upd (upd (upd (upd (upd (upd (upd (upd (upd (upd (upd (upd (upd (upd (upd (upd (upd iM1 1 1) 1 2) 1 3) 1 4) 1 5) 1 6) 1 7) 1 8) 1 9) 1 10) 1 11) 1 12) 1 13) 1 14) 1 15) 1 16) 1 17) 1 18) 1 19) 1 20) (up3 (up3 (up3 (up3 (up3 (up3 (up3 (up3 (up3 (up3 (up3 (up3 (up3 (up3 (up3 (up3 (up3 (up3 (up3 (up3 aM1 0 0 y1089) 0 1 y1090) 0 2 y1091) 0 3 y1092) 0 4 y1093) 0 5 y1094) 0 6 y1095) 0 7 y1096) 0 8 y1097) 0 9 y1098) 0 10 y1099) 0 11 y1100) 0 12 y1101) 0 13 y1102) 0 14 y1103) 0 15 y1104) 0 16 y1105) 0 17 y1106) 0 18 y1107) 0 19 y1108) lM1) 270 [(3, .int 0), (2, .ref (r 0)), (1, .ref (q 0)), (0, .ref b)] [.int 20, .int 20]
  refine g_icmp_eq (tgt := 1465) (a := 20) (b := 20) hk dL_law_270 (by decide) rfl rfl (fun _ => ?_) (fun z9 => absurd (show (20 : Int) = (20 : Int) from by decide) z9)
  exact tail _
set_option maxHeartbeats 4000000 in
set_option maxRecDepth 100000 in
theorem law_1 {κ : Cx} {l : Launch} {D : va_G} {zt : Nat × Nat × Nat} {q r : Nat → Nat} {d g : Nat → ClassId} {b L : Nat} {xs : Nat → Int32} (hk : GC κ l D zt code 4 RL lw_tbl (tyX d ++ tyM g) room_1) (hX : GX κ b L xs) (hL6 : L = 6) (tail : ∀ ws, GW κ 4 82 21282 ws 1465 [(3, .int 0), (2, .ref (r 0)), (1, .ref (q 0)), (0, .ref b)] []) : GW κ 4 82 21282 (wX q d iX0 aX0 ++ wM r g iM1 aM1 lM1) 275 [(3, .int 0), (2, .ref (r 0)), (1, .ref (q 0)), (0, .ref b)] [] := by
  refine g_aload_n hk dL_law_275 rfl ?_
  refine g_aload_n hk dL_law_276 rfl ?_
  refine g_iload_n hk dL_law_277 rfl ?_
  refine g_iconst (v := 1) hk dL_law_278 (by decide) ?_
  refine g_iadd hk dL_law_279 ?_
  refine g_norm (v := 1) (by decide) ?_
  refine g_sld (v := xs 1) hk hX (vp_in_iff.mpr ⟨by decide, by show (1 : Int) < (L : Int); omega⟩) rfl dL_law_280 ?_
  refine g_callV (n := 1) hk (m210_X11_back l D zt d q (xs 1)) (SP.pre _ _) (fun q h => List.mem_append_left _ h) (gi_V zw_526 zw_527 zw_528 zw_103 (gi_sub zi_m210_X11_back zg_m210_X11_back)) rfl rfl rfl (by decide +kernel) ⟨Nat.le_of_ble_eq_true rfl, Nat.le_of_ble_eq_true rfl⟩ 0 rfl rfl rfl rfl (Nat.le_of_ble_eq_true rfl) ⟨Nat.le_of_ble_eq_true rfl, Nat.le_of_ble_eq_true rfl⟩ dL_law_281 (fun v ty' w' hp hk' => ?_)
  rcases hp with ⟨c1109, rfl, rfl⟩ | ⟨c1110, c1111, c1112, rfl, rfl⟩ | ⟨c1113, c1114, rfl, rfl⟩
  · show GW κ 4 82 21282 (wM r g iM1 aM1 lM1 ++ wX q d iX0 aX0) 284 [(3, .int 0), (2, .ref (r 0)), (1, .ref (q 0)), (0, .ref b)] [.int (-1)]
    refine g_aload_n hk dL_law_284 rfl ?_
    refine g_aload_n hk dL_law_285 rfl ?_
    refine g_iload_n hk dL_law_286 rfl ?_
    refine g_iconst (v := 1) hk dL_law_287 (by decide) ?_
    refine g_iadd hk dL_law_288 ?_
    refine g_norm (v := 1) (by decide) ?_
    refine g_sld (v := xs 1) hk hX (vp_in_iff.mpr ⟨by decide, by show (1 : Int) < (L : Int); omega⟩) rfl dL_law_289 ?_
    refine g_callV (n := 1) hk (m119_X12_back l D zt g r (xs 1)) (SP.pre _ _) (fun q h => List.mem_append_right _ h) (gi_V zw_1553 zw_1554 zw_1555 zw_115 (gi_sub zi_m119_X12_back zg_m119_X12_back)) rfl rfl rfl (by decide +kernel) ⟨Nat.le_of_ble_eq_true rfl, Nat.le_of_ble_eq_true rfl⟩ 0 rfl rfl rfl rfl (Nat.le_of_ble_eq_true rfl) ⟨Nat.le_of_ble_eq_true rfl, Nat.le_of_ble_eq_true rfl⟩ dL_law_290 (fun v ty' w' hp hk' => ?_)
    rcases hp with ⟨c1115, rfl, rfl⟩ | ⟨c1116, c1117, c1118, rfl, rfl⟩ | ⟨c1119, c1120, rfl, rfl⟩
    · show GW κ 4 82 21282 (wX q d iX0 aX0 ++ wM r g iM1 aM1 lM1) 293 [(3, .int 0), (2, .ref (r 0)), (1, .ref (q 0)), (0, .ref b)] [.int (-1), .int (-1)]
      refine g_icmp_eq (tgt := 1465) (a := (-1)) (b := (-1)) hk dL_law_293 (by decide) rfl rfl (fun _ => ?_) (fun z9 => absurd (show ((-1) : Int) = ((-1) : Int) from by decide) z9)
      exact tail _
    · show GW κ 4 82 21282 (wX q d iX0 aX0 ++ wM r g iM1 aM1 lM1) 293 [(3, .int 0), (2, .ref (r 0)), (1, .ref (q 0)), (0, .ref b)] [.int 0, .int (-1)]
      exfalso; omega
    · show GW κ 4 82 21282 (wX q d iX0 aX0 ++ wM r g iM1 aM1 lM1) 293 [(3, .int 0), (2, .ref (r 0)), (1, .ref (q 0)), (0, .ref b)] [.int (-1), .int (-1)]
      exfalso; omega
  · show GW κ 4 82 21282 (wM r g iM1 aM1 lM1 ++ wX q d iX0 aX0) 284 [(3, .int 0), (2, .ref (r 0)), (1, .ref (q 0)), (0, .ref b)] [.int 0]
    refine g_aload_n hk dL_law_284 rfl ?_
    refine g_aload_n hk dL_law_285 rfl ?_
    refine g_iload_n hk dL_law_286 rfl ?_
    refine g_iconst (v := 1) hk dL_law_287 (by decide) ?_
    refine g_iadd hk dL_law_288 ?_
    refine g_norm (v := 1) (by decide) ?_
    refine g_sld (v := xs 1) hk hX (vp_in_iff.mpr ⟨by decide, by show (1 : Int) < (L : Int); omega⟩) rfl dL_law_289 ?_
    refine g_callV (n := 1) hk (m119_X12_back l D zt g r (xs 1)) (SP.pre _ _) (fun q h => List.mem_append_right _ h) (gi_V zw_1553 zw_1554 zw_1555 zw_115 (gi_sub zi_m119_X12_back zg_m119_X12_back)) rfl rfl rfl (by decide +kernel) ⟨Nat.le_of_ble_eq_true rfl, Nat.le_of_ble_eq_true rfl⟩ 0 rfl rfl rfl rfl (Nat.le_of_ble_eq_true rfl) ⟨Nat.le_of_ble_eq_true rfl, Nat.le_of_ble_eq_true rfl⟩ dL_law_290 (fun v ty' w' hp hk' => ?_)
    rcases hp with ⟨c1121, rfl, rfl⟩ | ⟨c1122, c1123, c1124, rfl, rfl⟩ | ⟨c1125, c1126, rfl, rfl⟩
    · show GW κ 4 82 21282 (wX q d iX0 aX0 ++ wM r g iM1 aM1 lM1) 293 [(3, .int 0), (2, .ref (r 0)), (1, .ref (q 0)), (0, .ref b)] [.int (-1), .int 0]
      exfalso; omega
    · show GW κ 4 82 21282 (wX q d iX0 aX0 ++ wM r g iM1 aM1 lM1) 293 [(3, .int 0), (2, .ref (r 0)), (1, .ref (q 0)), (0, .ref b)] [.int 0, .int 0]
      refine g_icmp_eq (tgt := 1465) (a := 0) (b := 0) hk dL_law_293 (by decide) rfl rfl (fun _ => ?_) (fun z9 => absurd (show (0 : Int) = (0 : Int) from by decide) z9)
      exact tail _
    · show GW κ 4 82 21282 (wX q d iX0 aX0 ++ wM r g iM1 aM1 lM1) 293 [(3, .int 0), (2, .ref (r 0)), (1, .ref (q 0)), (0, .ref b)] [.int (-1), .int 0]
      exfalso; omega
  · show GW κ 4 82 21282 (wM r g iM1 aM1 lM1 ++ wX q d iX0 aX0) 284 [(3, .int 0), (2, .ref (r 0)), (1, .ref (q 0)), (0, .ref b)] [.int (-1)]
    refine g_aload_n hk dL_law_284 rfl ?_
    refine g_aload_n hk dL_law_285 rfl ?_
    refine g_iload_n hk dL_law_286 rfl ?_
    refine g_iconst (v := 1) hk dL_law_287 (by decide) ?_
    refine g_iadd hk dL_law_288 ?_
    refine g_norm (v := 1) (by decide) ?_
    refine g_sld (v := xs 1) hk hX (vp_in_iff.mpr ⟨by decide, by show (1 : Int) < (L : Int); omega⟩) rfl dL_law_289 ?_
    refine g_callV (n := 1) hk (m119_X12_back l D zt g r (xs 1)) (SP.pre _ _) (fun q h => List.mem_append_right _ h) (gi_V zw_1553 zw_1554 zw_1555 zw_115 (gi_sub zi_m119_X12_back zg_m119_X12_back)) rfl rfl rfl (by decide +kernel) ⟨Nat.le_of_ble_eq_true rfl, Nat.le_of_ble_eq_true rfl⟩ 0 rfl rfl rfl rfl (Nat.le_of_ble_eq_true rfl) ⟨Nat.le_of_ble_eq_true rfl, Nat.le_of_ble_eq_true rfl⟩ dL_law_290 (fun v ty' w' hp hk' => ?_)
    rcases hp with ⟨c1127, rfl, rfl⟩ | ⟨c1128, c1129, c1130, rfl, rfl⟩ | ⟨c1131, c1132, rfl, rfl⟩
    · show GW κ 4 82 21282 (wX q d iX0 aX0 ++ wM r g iM1 aM1 lM1) 293 [(3, .int 0), (2, .ref (r 0)), (1, .ref (q 0)), (0, .ref b)] [.int (-1), .int (-1)]
      exfalso; omega
    · show GW κ 4 82 21282 (wX q d iX0 aX0 ++ wM r g iM1 aM1 lM1) 293 [(3, .int 0), (2, .ref (r 0)), (1, .ref (q 0)), (0, .ref b)] [.int 0, .int (-1)]
      exfalso; omega
    · show GW κ 4 82 21282 (wX q d iX0 aX0 ++ wM r g iM1 aM1 lM1) 293 [(3, .int 0), (2, .ref (r 0)), (1, .ref (q 0)), (0, .ref b)] [.int (-1), .int (-1)]
      refine g_icmp_eq (tgt := 1465) (a := (-1)) (b := (-1)) hk dL_law_293 (by decide) rfl rfl (fun _ => ?_) (fun z9 => absurd (show ((-1) : Int) = ((-1) : Int) from by decide) z9)
      exact tail _
set_option maxHeartbeats 4000000 in
set_option maxRecDepth 100000 in
theorem law_2 {κ : Cx} {l : Launch} {D : va_G} {zt : Nat × Nat × Nat} {q r : Nat → Nat} {d g : Nat → ClassId} {b L : Nat} {xs : Nat → Int32} (hk : GC κ l D zt code 4 RL lw_tbl (tyX d ++ tyM g) room_1) (hX : GX κ b L xs) (hL6 : L = 6) (tail : ∀ ws, GW κ 4 82 21282 ws 1465 [(3, .int 0), (2, .ref (r 0)), (1, .ref (q 0)), (0, .ref b)] []) : GW κ 4 82 21282 (wX q d iX0 aX0 ++ wM r g iM1 aM1 lM1) 298 [(3, .int 0), (2, .ref (r 0)), (1, .ref (q 0)), (0, .ref b)] [] := by
  refine g_aload_n hk dL_law_298 rfl ?_
  refine g_callV (n := 0) hk (m211_X11_read l D zt d q) (SP.pre _ _) (fun q h => List.mem_append_left _ h) (gi_V zw_530 zw_531 zw_532 zw_103 (gi_sub zi_m211_X11_read zg_m211_X11_read)) rfl rfl rfl (by decide +kernel) ⟨Nat.le_of_ble_eq_true rfl, Nat.le_of_ble_eq_true rfl⟩ 0 rfl rfl rfl rfl (Nat.le_of_ble_eq_true rfl) ⟨Nat.le_of_ble_eq_true rfl, Nat.le_of_ble_eq_true rfl⟩ dL_law_299 (fun v ty' w' hp hk' => ?_)
  obtain ⟨rfl, rfl⟩ := hp
  show GW κ 4 82 21282 (wM r g iM1 aM1 lM1 ++ wX q d (upd iX0 4 1) aX0) 302 [(3, .int 0), (2, .ref (r 0)), (1, .ref (q 0)), (0, .ref b)] [.int 0]
  refine g_aload_n hk dL_law_302 rfl ?_
  refine g_callV (n := 0) hk (m120_X12_read l D zt g r) (SP.pre _ _) (fun q h => List.mem_append_right _ h) (gi_V zw_1557 zw_1558 zw_1559 zw_115 (gi_sub zi_m120_X12_read zg_m120_X12_read)) rfl rfl rfl (by decide +kernel) ⟨Nat.le_of_ble_eq_true rfl, Nat.le_of_ble_eq_true rfl⟩ 0 rfl rfl rfl rfl (Nat.le_of_ble_eq_true rfl) ⟨Nat.le_of_ble_eq_true rfl, Nat.le_of_ble_eq_true rfl⟩ dL_law_303 (fun v ty' w' hp hk' => ?_)
  obtain ⟨rfl, rfl⟩ := hp
  show GW κ 4 82 21282 (wX q d (upd iX0 4 1) aX0 ++ wM r g (upd (upd (upd (upd iM1 3 1) 11 (-2)) 16 1) 15 1) (up2 (up3 (up3 (up2 aM1 18 (cp (fun _ => 0) (aM1 18) 165)) 18 161 2) 18 164 8) 17 (cp ((up3 (up3 (up2 aM1 18 (cp (fun _ => 0) (aM1 18) 165)) 18 161 2) 18 164 8) 18) ((up3 (up3 (up2 aM1 18 (cp (fun _ => 0) (aM1 18) 165)) 18 161 2) 18 164 8) 17) 165)) (up3L lM1 5 0 0)) 306 [(3, .int 0), (2, .ref (r 0)), (1, .ref (q 0)), (0, .ref b)] [.int 0, .int 0]
  refine g_icmp_eq (tgt := 1465) (a := 0) (b := 0) hk dL_law_306 (by decide) rfl rfl (fun _ => ?_) (fun z9 => absurd (show (0 : Int) = (0 : Int) from by decide) z9)
  exact tail _
set_option maxHeartbeats 4000000 in
set_option maxRecDepth 100000 in
theorem law_3 {κ : Cx} {l : Launch} {D : va_G} {zt : Nat × Nat × Nat} {q r : Nat → Nat} {d g : Nat → ClassId} {b L : Nat} {xs : Nat → Int32} (hk : GC κ l D zt code 4 RL lw_tbl (tyX d ++ tyM g) room_1) (hX : GX κ b L xs) (hL6 : L = 6) (tail : ∀ ws, GW κ 4 82 21282 ws 1465 [(3, .int 0), (2, .ref (r 0)), (1, .ref (q 0)), (0, .ref b)] []) : GW κ 4 82 21282 (wX q d iX0 aX0 ++ wM r g iM1 aM1 lM1) 311 [(3, .int 0), (2, .ref (r 0)), (1, .ref (q 0)), (0, .ref b)] [] := by
  refine g_aload_n hk dL_law_311 rfl ?_
  refine g_callV (n := 0) hk (m233_X11_place l D zt d q) (SP.pre _ _) (fun q h => List.mem_append_left _ h) (gi_V zw_794 zw_795 zw_796 zw_103 (gi_sub zi_m233_X11_place zg_m233_X11_place)) rfl rfl rfl (by decide +kernel) ⟨Nat.le_of_ble_eq_true rfl, Nat.le_of_ble_eq_true rfl⟩ 0 rfl rfl rfl rfl (Nat.le_of_ble_eq_true rfl) ⟨Nat.le_of_ble_eq_true rfl, Nat.le_of_ble_eq_true rfl⟩ dL_law_312 (fun v ty' w' hp hk' => ?_)
  obtain ⟨rfl, rfl⟩ := hp
  show GW κ 4 82 21282 (wM r g iM1 aM1 lM1 ++ wX q d iX0 aX0) 315 [(3, .int 0), (2, .ref (r 0)), (1, .ref (q 0)), (0, .ref b)] [.int (-1)]
  refine g_aload_n hk dL_law_315 rfl ?_
  refine g_callV (n := 0) hk (m128_X12_place l D zt g r) (SP.pre _ _) (fun q h => List.mem_append_right _ h) (gi_V zw_1636 zw_1637 zw_1638 zw_115 (gi_sub zi_m128_X12_place zg_m128_X12_place)) rfl rfl rfl (by decide +kernel) ⟨Nat.le_of_ble_eq_true rfl, Nat.le_of_ble_eq_true rfl⟩ 0 rfl rfl rfl rfl (Nat.le_of_ble_eq_true rfl) ⟨Nat.le_of_ble_eq_true rfl, Nat.le_of_ble_eq_true rfl⟩ dL_law_316 (fun v ty' w' hp hk' => ?_)
  obtain ⟨rfl, rfl⟩ := hp
  show GW κ 4 82 21282 (wX q d iX0 aX0 ++ wM r g iM1 aM1 lM1) 319 [(3, .int 0), (2, .ref (r 0)), (1, .ref (q 0)), (0, .ref b)] [.int (-1), .int (-1)]
  refine g_icmp_eq (tgt := 1465) (a := (-1)) (b := (-1)) hk dL_law_319 (by decide) rfl rfl (fun _ => ?_) (fun z9 => absurd (show ((-1) : Int) = ((-1) : Int) from by decide) z9)
  exact tail _
set_option maxHeartbeats 4000000 in
set_option maxRecDepth 100000 in
theorem law_4 {κ : Cx} {l : Launch} {D : va_G} {zt : Nat × Nat × Nat} {q r : Nat → Nat} {d g : Nat → ClassId} {b L : Nat} {xs : Nat → Int32} (hk : GC κ l D zt code 4 RL lw_tbl (tyX d ++ tyM g) room_1) (hX : GX κ b L xs) (hL6 : L = 6) (tail : ∀ ws, GW κ 4 82 21282 ws 1465 [(3, .int 0), (2, .ref (r 0)), (1, .ref (q 0)), (0, .ref b)] []) : GW κ 4 82 21282 (wX q d iX0 aX0 ++ wM r g iM1 aM1 lM1) 324 [(3, .int 0), (2, .ref (r 0)), (1, .ref (q 0)), (0, .ref b)] [] := by
  refine g_aload_n hk dL_law_324 rfl ?_
  refine g_callV (n := 0) hk (m234_X11_cause l D zt d q) (SP.pre _ _) (fun q h => List.mem_append_left _ h) (gi_V zw_798 zw_799 zw_800 zw_103 (gi_sub zi_m234_X11_cause zg_m234_X11_cause)) rfl rfl rfl (by decide +kernel) ⟨Nat.le_of_ble_eq_true rfl, Nat.le_of_ble_eq_true rfl⟩ 0 rfl rfl rfl rfl (Nat.le_of_ble_eq_true rfl) ⟨Nat.le_of_ble_eq_true rfl, Nat.le_of_ble_eq_true rfl⟩ dL_law_325 (fun v ty' w' hp hk' => ?_)
  obtain ⟨rfl, rfl⟩ := hp
  show GW κ 4 82 21282 (wM r g iM1 aM1 lM1 ++ wX q d iX0 aX0) 328 [(3, .int 0), (2, .ref (r 0)), (1, .ref (q 0)), (0, .ref b)] [.int (-1)]
  refine g_aload_n hk dL_law_328 rfl ?_
  refine g_callV (n := 0) hk (m129_X12_cause l D zt g r) (SP.pre _ _) (fun q h => List.mem_append_right _ h) (gi_V zw_1640 zw_1641 zw_1642 zw_115 (gi_sub zi_m129_X12_cause zg_m129_X12_cause)) rfl rfl rfl (by decide +kernel) ⟨Nat.le_of_ble_eq_true rfl, Nat.le_of_ble_eq_true rfl⟩ 0 rfl rfl rfl rfl (Nat.le_of_ble_eq_true rfl) ⟨Nat.le_of_ble_eq_true rfl, Nat.le_of_ble_eq_true rfl⟩ dL_law_329 (fun v ty' w' hp hk' => ?_)
  obtain ⟨rfl, rfl⟩ := hp
  show GW κ 4 82 21282 (wX q d iX0 aX0 ++ wM r g iM1 aM1 lM1) 332 [(3, .int 0), (2, .ref (r 0)), (1, .ref (q 0)), (0, .ref b)] [.int (-1), .int (-1)]
  refine g_icmp_eq (tgt := 1465) (a := (-1)) (b := (-1)) hk dL_law_332 (by decide) rfl rfl (fun _ => ?_) (fun z9 => absurd (show ((-1) : Int) = ((-1) : Int) from by decide) z9)
  exact tail _
set_option maxHeartbeats 4000000 in
set_option maxRecDepth 100000 in
theorem law_5 {κ : Cx} {l : Launch} {D : va_G} {zt : Nat × Nat × Nat} {q r : Nat → Nat} {d g : Nat → ClassId} {b L : Nat} {xs : Nat → Int32} (hk : GC κ l D zt code 4 RL lw_tbl (tyX d ++ tyM g) room_1) (hX : GX κ b L xs) (hL6 : L = 6) (tail : ∀ ws, GW κ 4 82 21282 ws 1465 [(3, .int 0), (2, .ref (r 0)), (1, .ref (q 0)), (0, .ref b)] []) : GW κ 4 82 21282 (wX q d iX0 aX0 ++ wM r g iM1 aM1 lM1) 337 [(3, .int 0), (2, .ref (r 0)), (1, .ref (q 0)), (0, .ref b)] [] := by
  refine g_aload_n hk dL_law_337 rfl ?_
  refine g_aload_n hk dL_law_338 rfl ?_
  refine g_iload_n hk dL_law_339 rfl ?_
  refine g_iconst (v := 1) hk dL_law_340 (by decide) ?_
  refine g_iadd hk dL_law_341 ?_
  refine g_norm (v := 1) (by decide) ?_
  refine g_sld (v := xs 1) hk hX (vp_in_iff.mpr ⟨by decide, by show (1 : Int) < (L : Int); omega⟩) rfl dL_law_342 ?_
  refine g_callV (n := 1) hk (m235_X11_at l D zt d q (xs 1)) (SP.pre _ _) (fun q h => List.mem_append_left _ h) (gi_V zw_802 zw_803 zw_804 zw_103 (gi_sub zi_m235_X11_at zg_m235_X11_at)) rfl rfl rfl (by decide +kernel) ⟨Nat.le_of_ble_eq_true rfl, Nat.le_of_ble_eq_true rfl⟩ 0 rfl rfl rfl rfl (Nat.le_of_ble_eq_true rfl) ⟨Nat.le_of_ble_eq_true rfl, Nat.le_of_ble_eq_true rfl⟩ dL_law_343 (fun v ty' w' hp hk' => ?_)
  obtain ⟨rfl, rfl⟩ := hp
  show GW κ 4 82 21282 (wM r g iM1 aM1 lM1 ++ wX q d iX0 aX0) 346 [(3, .int 0), (2, .ref (r 0)), (1, .ref (q 0)), (0, .ref b)] [.int (-1000)]
  refine g_aload_n hk dL_law_346 rfl ?_
  refine g_aload_n hk dL_law_347 rfl ?_
  refine g_iload_n hk dL_law_348 rfl ?_
  refine g_iconst (v := 1) hk dL_law_349 (by decide) ?_
  refine g_iadd hk dL_law_350 ?_
  refine g_norm (v := 1) (by decide) ?_
  refine g_sld (v := xs 1) hk hX (vp_in_iff.mpr ⟨by decide, by show (1 : Int) < (L : Int); omega⟩) rfl dL_law_351 ?_
  refine g_callV (n := 1) hk (m130_X12_at l D zt g r (xs 1)) (SP.pre _ _) (fun q h => List.mem_append_right _ h) (gi_V zw_1644 zw_1645 zw_1646 zw_115 (gi_sub zi_m130_X12_at zg_m130_X12_at)) rfl rfl rfl (by decide +kernel) ⟨Nat.le_of_ble_eq_true rfl, Nat.le_of_ble_eq_true rfl⟩ 0 rfl rfl rfl rfl (Nat.le_of_ble_eq_true rfl) ⟨Nat.le_of_ble_eq_true rfl, Nat.le_of_ble_eq_true rfl⟩ dL_law_352 (fun v ty' w' hp hk' => ?_)
  obtain ⟨rfl, rfl⟩ := hp
  show GW κ 4 82 21282 (wX q d iX0 aX0 ++ wM r g iM1 aM1 lM1) 355 [(3, .int 0), (2, .ref (r 0)), (1, .ref (q 0)), (0, .ref b)] [.int (-1000), .int (-1000)]
  refine g_icmp_eq (tgt := 1465) (a := (-1000)) (b := (-1000)) hk dL_law_355 (by decide) rfl rfl (fun _ => ?_) (fun z9 => absurd (show ((-1000) : Int) = ((-1000) : Int) from by decide) z9)
  exact tail _
set_option maxHeartbeats 4000000 in
set_option maxRecDepth 100000 in
theorem law_6 {κ : Cx} {l : Launch} {D : va_G} {zt : Nat × Nat × Nat} {q r : Nat → Nat} {d g : Nat → ClassId} {b L : Nat} {xs : Nat → Int32} (hk : GC κ l D zt code 4 RL lw_tbl (tyX d ++ tyM g) room_1) (hX : GX κ b L xs) (hL6 : L = 6) (tail : ∀ ws, GW κ 4 82 21282 ws 1465 [(3, .int 0), (2, .ref (r 0)), (1, .ref (q 0)), (0, .ref b)] []) : GW κ 4 82 21282 (wX q d iX0 aX0 ++ wM r g iM1 aM1 lM1) 360 [(3, .int 0), (2, .ref (r 0)), (1, .ref (q 0)), (0, .ref b)] [] := by
  refine g_aload_n hk dL_law_360 rfl ?_
  refine g_aload_n hk dL_law_361 rfl ?_
  refine g_iload_n hk dL_law_362 rfl ?_
  refine g_iconst (v := 1) hk dL_law_363 (by decide) ?_
  refine g_iadd hk dL_law_364 ?_
  refine g_norm (v := 1) (by decide) ?_
  refine g_sld (v := xs 1) hk hX (vp_in_iff.mpr ⟨by decide, by show (1 : Int) < (L : Int); omega⟩) rfl dL_law_365 ?_
  refine g_aload_n hk dL_law_366 rfl ?_
  refine g_iload_n hk dL_law_367 rfl ?_
  refine g_iconst (v := 2) hk dL_law_368 (by decide) ?_
  refine g_iadd hk dL_law_369 ?_
  refine g_norm (v := 2) (by decide) ?_
  refine g_sld (v := xs 2) hk hX (vp_in_iff.mpr ⟨by decide, by show (2 : Int) < (L : Int); omega⟩) rfl dL_law_370 ?_
  refine g_callV (n := 2) hk (m237_X11_query l D zt d q (xs 1) (xs 2)) (SP.pre _ _) (fun q h => List.mem_append_left _ h) (gi_V zw_810 zw_811 zw_812 zw_103 (gi_sub zi_m237_X11_query zg_m237_X11_query)) rfl rfl rfl (by decide +kernel) ⟨Nat.le_of_ble_eq_true rfl, Nat.le_of_ble_eq_true rfl⟩ 0 rfl rfl rfl rfl (Nat.le_of_ble_eq_true rfl) ⟨Nat.le_of_ble_eq_true rfl, Nat.le_of_ble_eq_true rfl⟩ dL_law_371 (fun v ty' w' hp hk' => ?_)
  obtain ⟨rfl, rfl⟩ := hp
  show GW κ 4 82 21282 (wM r g iM1 aM1 lM1 ++ wX q d iX0 aX0) 374 [(3, .int 0), (2, .ref (r 0)), (1, .ref (q 0)), (0, .ref b)] [.int (-1000)]
  refine g_aload_n hk dL_law_374 rfl ?_
  refine g_aload_n hk dL_law_375 rfl ?_
  refine g_iload_n hk dL_law_376 rfl ?_
  refine g_iconst (v := 1) hk dL_law_377 (by decide) ?_
  refine g_iadd hk dL_law_378 ?_
  refine g_norm (v := 1) (by decide) ?_
  refine g_sld (v := xs 1) hk hX (vp_in_iff.mpr ⟨by decide, by show (1 : Int) < (L : Int); omega⟩) rfl dL_law_379 ?_
  refine g_aload_n hk dL_law_380 rfl ?_
  refine g_iload_n hk dL_law_381 rfl ?_
  refine g_iconst (v := 2) hk dL_law_382 (by decide) ?_
  refine g_iadd hk dL_law_383 ?_
  refine g_norm (v := 2) (by decide) ?_
  refine g_sld (v := xs 2) hk hX (vp_in_iff.mpr ⟨by decide, by show (2 : Int) < (L : Int); omega⟩) rfl dL_law_384 ?_
  refine g_callV (n := 2) hk (m134_X12_query l D zt g r (xs 1) (xs 2)) (SP.pre _ _) (fun q h => List.mem_append_right _ h) (gi_V zw_1659 zw_1660 zw_1661 zw_115 (gi_sub zi_m134_X12_query zg_m134_X12_query)) rfl rfl rfl (by decide +kernel) ⟨Nat.le_of_ble_eq_true rfl, Nat.le_of_ble_eq_true rfl⟩ 0 rfl rfl rfl rfl (Nat.le_of_ble_eq_true rfl) ⟨Nat.le_of_ble_eq_true rfl, Nat.le_of_ble_eq_true rfl⟩ dL_law_385 (fun v ty' w' hp hk' => ?_)
  obtain ⟨rfl, rfl⟩ := hp
  show GW κ 4 82 21282 (wX q d iX0 aX0 ++ wM r g iM1 aM1 lM1) 388 [(3, .int 0), (2, .ref (r 0)), (1, .ref (q 0)), (0, .ref b)] [.int (-1000), .int (-1000)]
  refine g_icmp_eq (tgt := 1465) (a := (-1000)) (b := (-1000)) hk dL_law_388 (by decide) rfl rfl (fun _ => ?_) (fun z9 => absurd (show ((-1000) : Int) = ((-1000) : Int) from by decide) z9)
  exact tail _
set_option maxHeartbeats 4000000 in
set_option maxRecDepth 100000 in
theorem law_7 {κ : Cx} {l : Launch} {D : va_G} {zt : Nat × Nat × Nat} {q r : Nat → Nat} {d g : Nat → ClassId} {b L : Nat} {xs : Nat → Int32} (hk : GC κ l D zt code 4 RL lw_tbl (tyX d ++ tyM g) room_1) (hX : GX κ b L xs) (hL6 : L = 6) (tail : ∀ ws, GW κ 4 82 21282 ws 1465 [(3, .int 0), (2, .ref (r 0)), (1, .ref (q 0)), (0, .ref b)] []) : GW κ 4 82 21282 (wX q d iX0 aX0 ++ wM r g iM1 aM1 lM1) 393 [(3, .int 0), (2, .ref (r 0)), (1, .ref (q 0)), (0, .ref b)] [] := by
  refine g_aload_n hk dL_law_393 rfl ?_
  refine g_aload_n hk dL_law_394 rfl ?_
  refine g_iload_n hk dL_law_395 rfl ?_
  refine g_iconst (v := 1) hk dL_law_396 (by decide) ?_
  refine g_iadd hk dL_law_397 ?_
  refine g_norm (v := 1) (by decide) ?_
  refine g_sld (v := xs 1) hk hX (vp_in_iff.mpr ⟨by decide, by show (1 : Int) < (L : Int); omega⟩) rfl dL_law_398 ?_
  refine g_callV (n := 1) hk (m241_X11_push l D zt d q (xs 1)) (SP.pre _ _) (fun q h => List.mem_append_left _ h) (gi_V zw_815 zw_816 zw_817 zw_103 (gi_sub zi_m241_X11_push zg_m241_X11_push)) rfl rfl rfl (by decide +kernel) ⟨Nat.le_of_ble_eq_true rfl, Nat.le_of_ble_eq_true rfl⟩ 0 rfl rfl rfl rfl (Nat.le_of_ble_eq_true rfl) ⟨Nat.le_of_ble_eq_true rfl, Nat.le_of_ble_eq_true rfl⟩ dL_law_399 (fun v ty' w' hp hk' => ?_)
  rcases hp with ⟨c1133, rfl, rfl⟩ | ⟨c1134, c1135, rfl, rfl⟩ | ⟨c1136, c1137, rfl, rfl⟩
  · show GW κ 4 82 21282 (wM r g iM1 aM1 lM1 ++ wX q d iX0 aX0) 402 [(3, .int 0), (2, .ref (r 0)), (1, .ref (q 0)), (0, .ref b)] [.int (-1)]
    refine g_aload_n hk dL_law_402 rfl ?_
    refine g_aload_n hk dL_law_403 rfl ?_
    refine g_iload_n hk dL_law_404 rfl ?_
    refine g_iconst (v := 1) hk dL_law_405 (by decide) ?_
    refine g_iadd hk dL_law_406 ?_
    refine g_norm (v := 1) (by decide) ?_
    refine g_sld (v := xs 1) hk hX (vp_in_iff.mpr ⟨by decide, by show (1 : Int) < (L : Int); omega⟩) rfl dL_law_407 ?_
    refine g_callV (n := 1) hk (m136_X12_push l D zt g r (xs 1)) (SP.pre _ _) (fun q h => List.mem_append_right _ h) (gi_V zw_1671 zw_1672 zw_1673 zw_115 (gi_sub zi_m136_X12_push zg_m136_X12_push)) rfl rfl rfl (by decide +kernel) ⟨Nat.le_of_ble_eq_true rfl, Nat.le_of_ble_eq_true rfl⟩ 0 rfl rfl rfl rfl (Nat.le_of_ble_eq_true rfl) ⟨Nat.le_of_ble_eq_true rfl, Nat.le_of_ble_eq_true rfl⟩ dL_law_408 (fun v ty' w' hp hk' => ?_)
    rcases hp with ⟨c1138, rfl, rfl⟩ | ⟨c1139, c1140, rfl, rfl⟩ | ⟨y1141, c1142, c1143, rfl, rfl⟩
    · show GW κ 4 82 21282 (wX q d iX0 aX0 ++ wM r g iM1 aM1 lM1) 411 [(3, .int 0), (2, .ref (r 0)), (1, .ref (q 0)), (0, .ref b)] [.int (-1), .int (-1)]
      refine g_icmp_eq (tgt := 1465) (a := (-1)) (b := (-1)) hk dL_law_411 (by decide) rfl rfl (fun _ => ?_) (fun z9 => absurd (show ((-1) : Int) = ((-1) : Int) from by decide) z9)
      exact tail _
    · show GW κ 4 82 21282 (wX q d iX0 aX0 ++ wM r g iM1 aM1 lM1) 411 [(3, .int 0), (2, .ref (r 0)), (1, .ref (q 0)), (0, .ref b)] [.int (-1), .int (-1)]
      exfalso; omega
    · show GW κ 4 82 21282 (wX q d iX0 aX0 ++ wM r g (upd iM1 22 1) (up2 (up2 (up3 (up3 (up2 aM1 18 (cp (aM1 17) (aM1 18) 165)) 18 1 (xs 1)) 18 0 1) 22 y1141) 17 (cp ((up2 (up3 (up3 (up2 aM1 18 (cp (aM1 17) (aM1 18) 165)) 18 1 (xs 1)) 18 0 1) 22 y1141) 18) ((up2 (up3 (up3 (up2 aM1 18 (cp (aM1 17) (aM1 18) 165)) 18 1 (xs 1)) 18 0 1) 22 y1141) 17) 165)) lM1) 411 [(3, .int 0), (2, .ref (r 0)), (1, .ref (q 0)), (0, .ref b)] [.int 1, .int (-1)]
      exfalso; omega
  · show GW κ 4 82 21282 (wM r g iM1 aM1 lM1 ++ wX q d (upd (upd (upd iX0 18 1) 20 1) 21 1) (up3 aX0 7 0 (xs 1))) 402 [(3, .int 0), (2, .ref (r 0)), (1, .ref (q 0)), (0, .ref b)] [.int 1]
    refine g_aload_n hk dL_law_402 rfl ?_
    refine g_aload_n hk dL_law_403 rfl ?_
    refine g_iload_n hk dL_law_404 rfl ?_
    refine g_iconst (v := 1) hk dL_law_405 (by decide) ?_
    refine g_iadd hk dL_law_406 ?_
    refine g_norm (v := 1) (by decide) ?_
    refine g_sld (v := xs 1) hk hX (vp_in_iff.mpr ⟨by decide, by show (1 : Int) < (L : Int); omega⟩) rfl dL_law_407 ?_
    refine g_callV (n := 1) hk (m136_X12_push l D zt g r (xs 1)) (SP.pre _ _) (fun q h => List.mem_append_right _ h) (gi_V zw_1671 zw_1672 zw_1673 zw_115 (gi_sub zi_m136_X12_push zg_m136_X12_push)) rfl rfl rfl (by decide +kernel) ⟨Nat.le_of_ble_eq_true rfl, Nat.le_of_ble_eq_true rfl⟩ 0 rfl rfl rfl rfl (Nat.le_of_ble_eq_true rfl) ⟨Nat.le_of_ble_eq_true rfl, Nat.le_of_ble_eq_true rfl⟩ dL_law_408 (fun v ty' w' hp hk' => ?_)
    rcases hp with ⟨c1144, rfl, rfl⟩ | ⟨c1145, c1146, rfl, rfl⟩ | ⟨y1147, c1148, c1149, rfl, rfl⟩
    · show GW κ 4 82 21282 (wX q d (upd (upd (upd iX0 18 1) 20 1) 21 1) (up3 aX0 7 0 (xs 1)) ++ wM r g iM1 aM1 lM1) 411 [(3, .int 0), (2, .ref (r 0)), (1, .ref (q 0)), (0, .ref b)] [.int (-1), .int 1]
      exfalso; omega
    · show GW κ 4 82 21282 (wX q d (upd (upd (upd iX0 18 1) 20 1) 21 1) (up3 aX0 7 0 (xs 1)) ++ wM r g iM1 aM1 lM1) 411 [(3, .int 0), (2, .ref (r 0)), (1, .ref (q 0)), (0, .ref b)] [.int (-1), .int 1]
      exfalso; omega
    · show GW κ 4 82 21282 (wX q d (upd (upd (upd iX0 18 1) 20 1) 21 1) (up3 aX0 7 0 (xs 1)) ++ wM r g (upd iM1 22 1) (up2 (up2 (up3 (up3 (up2 aM1 18 (cp (aM1 17) (aM1 18) 165)) 18 1 (xs 1)) 18 0 1) 22 y1147) 17 (cp ((up2 (up3 (up3 (up2 aM1 18 (cp (aM1 17) (aM1 18) 165)) 18 1 (xs 1)) 18 0 1) 22 y1147) 18) ((up2 (up3 (up3 (up2 aM1 18 (cp (aM1 17) (aM1 18) 165)) 18 1 (xs 1)) 18 0 1) 22 y1147) 17) 165)) lM1) 411 [(3, .int 0), (2, .ref (r 0)), (1, .ref (q 0)), (0, .ref b)] [.int 1, .int 1]
      refine g_icmp_eq (tgt := 1465) (a := 1) (b := 1) hk dL_law_411 (by decide) rfl rfl (fun _ => ?_) (fun z9 => absurd (show (1 : Int) = (1 : Int) from by decide) z9)
      exact tail _
  · show GW κ 4 82 21282 (wM r g iM1 aM1 lM1 ++ wX q d iX0 aX0) 402 [(3, .int 0), (2, .ref (r 0)), (1, .ref (q 0)), (0, .ref b)] [.int (-1)]
    refine g_aload_n hk dL_law_402 rfl ?_
    refine g_aload_n hk dL_law_403 rfl ?_
    refine g_iload_n hk dL_law_404 rfl ?_
    refine g_iconst (v := 1) hk dL_law_405 (by decide) ?_
    refine g_iadd hk dL_law_406 ?_
    refine g_norm (v := 1) (by decide) ?_
    refine g_sld (v := xs 1) hk hX (vp_in_iff.mpr ⟨by decide, by show (1 : Int) < (L : Int); omega⟩) rfl dL_law_407 ?_
    refine g_callV (n := 1) hk (m136_X12_push l D zt g r (xs 1)) (SP.pre _ _) (fun q h => List.mem_append_right _ h) (gi_V zw_1671 zw_1672 zw_1673 zw_115 (gi_sub zi_m136_X12_push zg_m136_X12_push)) rfl rfl rfl (by decide +kernel) ⟨Nat.le_of_ble_eq_true rfl, Nat.le_of_ble_eq_true rfl⟩ 0 rfl rfl rfl rfl (Nat.le_of_ble_eq_true rfl) ⟨Nat.le_of_ble_eq_true rfl, Nat.le_of_ble_eq_true rfl⟩ dL_law_408 (fun v ty' w' hp hk' => ?_)
    rcases hp with ⟨c1150, rfl, rfl⟩ | ⟨c1151, c1152, rfl, rfl⟩ | ⟨y1153, c1154, c1155, rfl, rfl⟩
    · show GW κ 4 82 21282 (wX q d iX0 aX0 ++ wM r g iM1 aM1 lM1) 411 [(3, .int 0), (2, .ref (r 0)), (1, .ref (q 0)), (0, .ref b)] [.int (-1), .int (-1)]
      exfalso; omega
    · show GW κ 4 82 21282 (wX q d iX0 aX0 ++ wM r g iM1 aM1 lM1) 411 [(3, .int 0), (2, .ref (r 0)), (1, .ref (q 0)), (0, .ref b)] [.int (-1), .int (-1)]
      refine g_icmp_eq (tgt := 1465) (a := (-1)) (b := (-1)) hk dL_law_411 (by decide) rfl rfl (fun _ => ?_) (fun z9 => absurd (show ((-1) : Int) = ((-1) : Int) from by decide) z9)
      exact tail _
    · show GW κ 4 82 21282 (wX q d iX0 aX0 ++ wM r g (upd iM1 22 1) (up2 (up2 (up3 (up3 (up2 aM1 18 (cp (aM1 17) (aM1 18) 165)) 18 1 (xs 1)) 18 0 1) 22 y1153) 17 (cp ((up2 (up3 (up3 (up2 aM1 18 (cp (aM1 17) (aM1 18) 165)) 18 1 (xs 1)) 18 0 1) 22 y1153) 18) ((up2 (up3 (up3 (up2 aM1 18 (cp (aM1 17) (aM1 18) 165)) 18 1 (xs 1)) 18 0 1) 22 y1153) 17) 165)) lM1) 411 [(3, .int 0), (2, .ref (r 0)), (1, .ref (q 0)), (0, .ref b)] [.int 1, .int (-1)]
      exfalso; omega
set_option maxHeartbeats 4000000 in
set_option maxRecDepth 100000 in
theorem law_8 {κ : Cx} {l : Launch} {D : va_G} {zt : Nat × Nat × Nat} {q r : Nat → Nat} {d g : Nat → ClassId} {b L : Nat} {xs : Nat → Int32} (hk : GC κ l D zt code 4 RL lw_tbl (tyX d ++ tyM g) room_1) (hX : GX κ b L xs) (hL6 : L = 6) (tail : ∀ ws, GW κ 4 82 21282 ws 1465 [(3, .int 0), (2, .ref (r 0)), (1, .ref (q 0)), (0, .ref b)] []) : GW κ 4 82 21282 (wX q d iX0 aX0 ++ wM r g iM1 aM1 lM1) 416 [(3, .int 0), (2, .ref (r 0)), (1, .ref (q 0)), (0, .ref b)] [] := by
  refine g_aload_n hk dL_law_416 rfl ?_
  refine g_callV (n := 0) hk (m245_X11_gap l D zt d q) (SP.pre _ _) (fun q h => List.mem_append_left _ h) (gi_V zw_831 zw_832 zw_833 zw_103 (gi_sub zi_m245_X11_gap zg_m245_X11_gap)) rfl rfl rfl (by decide +kernel) ⟨Nat.le_of_ble_eq_true rfl, Nat.le_of_ble_eq_true rfl⟩ 0 rfl rfl rfl rfl (Nat.le_of_ble_eq_true rfl) ⟨Nat.le_of_ble_eq_true rfl, Nat.le_of_ble_eq_true rfl⟩ dL_law_417 (fun v ty' w' hp hk' => ?_)
  obtain ⟨rfl, rfl⟩ := hp
  show GW κ 4 82 21282 (wM r g iM1 aM1 lM1 ++ wX q d (upd (upd (upd iX0 18 1) 20 1) 21 1) (up3 aX0 7 0 (-1000))) 420 [(3, .int 0), (2, .ref (r 0)), (1, .ref (q 0)), (0, .ref b)] [.int 1]
  refine g_aload_n hk dL_law_420 rfl ?_
  refine g_callV (n := 0) hk (m142_X12_gap l D zt g r) (SP.pre _ _) (fun q h => List.mem_append_right _ h) (gi_V zw_1687 zw_1688 zw_1689 zw_115 (gi_sub zi_m142_X12_gap zg_m142_X12_gap)) rfl rfl rfl (by decide +kernel) ⟨Nat.le_of_ble_eq_true rfl, Nat.le_of_ble_eq_true rfl⟩ 0 rfl rfl rfl rfl (Nat.le_of_ble_eq_true rfl) ⟨Nat.le_of_ble_eq_true rfl, Nat.le_of_ble_eq_true rfl⟩ dL_law_421 (fun v ty' w' hp hk' => ?_)
  obtain ⟨y1156, rfl, rfl⟩ := hp
  show GW κ 4 82 21282 (wX q d (upd (upd (upd iX0 18 1) 20 1) 21 1) (up3 aX0 7 0 (-1000)) ++ wM r g (upd iM1 22 1) (up2 (up2 (up3 (up3 (up2 aM1 18 (cp (aM1 17) (aM1 18) 165)) 18 1 100000) 18 0 1) 22 y1156) 17 (cp ((up2 (up3 (up3 (up2 aM1 18 (cp (aM1 17) (aM1 18) 165)) 18 1 100000) 18 0 1) 22 y1156) 18) ((up2 (up3 (up3 (up2 aM1 18 (cp (aM1 17) (aM1 18) 165)) 18 1 100000) 18 0 1) 22 y1156) 17) 165)) lM1) 424 [(3, .int 0), (2, .ref (r 0)), (1, .ref (q 0)), (0, .ref b)] [.int 1, .int 1]
  refine g_icmp_eq (tgt := 1465) (a := 1) (b := 1) hk dL_law_424 (by decide) rfl rfl (fun _ => ?_) (fun z9 => absurd (show (1 : Int) = (1 : Int) from by decide) z9)
  exact tail _
set_option maxHeartbeats 4000000 in
set_option maxRecDepth 100000 in
theorem law_9 {κ : Cx} {l : Launch} {D : va_G} {zt : Nat × Nat × Nat} {q r : Nat → Nat} {d g : Nat → ClassId} {b L : Nat} {xs : Nat → Int32} (hk : GC κ l D zt code 4 RL lw_tbl (tyX d ++ tyM g) room_1) (hX : GX κ b L xs) (hL6 : L = 6) (tail : ∀ ws, GW κ 4 82 21282 ws 1465 [(3, .int 0), (2, .ref (r 0)), (1, .ref (q 0)), (0, .ref b)] []) : GW κ 4 82 21282 (wX q d iX0 aX0 ++ wM r g iM1 aM1 lM1) 429 [(3, .int 0), (2, .ref (r 0)), (1, .ref (q 0)), (0, .ref b)] [] := by
  refine g_aload_n hk dL_law_429 rfl ?_
  refine g_aload_n hk dL_law_430 rfl ?_
  refine g_iload_n hk dL_law_431 rfl ?_
  refine g_iconst (v := 1) hk dL_law_432 (by decide) ?_
  refine g_iadd hk dL_law_433 ?_
  refine g_norm (v := 1) (by decide) ?_
  refine g_sld (v := xs 1) hk hX (vp_in_iff.mpr ⟨by decide, by show (1 : Int) < (L : Int); omega⟩) rfl dL_law_434 ?_
  refine g_callV (n := 1) hk (m249_X11_mend l D zt d q (xs 1)) (SP.pre _ _) (fun q h => List.mem_append_left _ h) (gi_V zw_835 zw_836 zw_837 zw_103 (gi_sub zi_m249_X11_mend zg_m249_X11_mend)) rfl rfl rfl (by decide +kernel) ⟨Nat.le_of_ble_eq_true rfl, Nat.le_of_ble_eq_true rfl⟩ 0 rfl rfl rfl rfl (Nat.le_of_ble_eq_true rfl) ⟨Nat.le_of_ble_eq_true rfl, Nat.le_of_ble_eq_true rfl⟩ dL_law_435 (fun v ty' w' hp hk' => ?_)
  obtain ⟨rfl, rfl⟩ := hp
  show GW κ 4 82 21282 (wM r g iM1 aM1 lM1 ++ wX q d iX0 aX0) 438 [(3, .int 0), (2, .ref (r 0)), (1, .ref (q 0)), (0, .ref b)] [.int (-1000)]
  refine g_aload_n hk dL_law_438 rfl ?_
  refine g_aload_n hk dL_law_439 rfl ?_
  refine g_iload_n hk dL_law_440 rfl ?_
  refine g_iconst (v := 1) hk dL_law_441 (by decide) ?_
  refine g_iadd hk dL_law_442 ?_
  refine g_norm (v := 1) (by decide) ?_
  refine g_sld (v := xs 1) hk hX (vp_in_iff.mpr ⟨by decide, by show (1 : Int) < (L : Int); omega⟩) rfl dL_law_443 ?_
  refine g_callV (n := 1) hk (m146_X12_mend l D zt g r (xs 1)) (SP.pre _ _) (fun q h => List.mem_append_right _ h) (gi_V zw_1691 zw_1692 zw_1693 zw_115 (gi_sub zi_m146_X12_mend zg_m146_X12_mend)) rfl rfl rfl (by decide +kernel) ⟨Nat.le_of_ble_eq_true rfl, Nat.le_of_ble_eq_true rfl⟩ 0 rfl rfl rfl rfl (Nat.le_of_ble_eq_true rfl) ⟨Nat.le_of_ble_eq_true rfl, Nat.le_of_ble_eq_true rfl⟩ dL_law_444 (fun v ty' w' hp hk' => ?_)
  obtain ⟨rfl, rfl⟩ := hp
  show GW κ 4 82 21282 (wX q d iX0 aX0 ++ wM r g iM1 aM1 lM1) 447 [(3, .int 0), (2, .ref (r 0)), (1, .ref (q 0)), (0, .ref b)] [.int (-1000), .int (-1000)]
  refine g_icmp_eq (tgt := 1465) (a := (-1000)) (b := (-1000)) hk dL_law_447 (by decide) rfl rfl (fun _ => ?_) (fun z9 => absurd (show ((-1000) : Int) = ((-1000) : Int) from by decide) z9)
  exact tail _
set_option maxHeartbeats 4000000 in
set_option maxRecDepth 100000 in
theorem law_10 {κ : Cx} {l : Launch} {D : va_G} {zt : Nat × Nat × Nat} {q r : Nat → Nat} {d g : Nat → ClassId} {b L : Nat} {xs : Nat → Int32} (hk : GC κ l D zt code 4 RL lw_tbl (tyX d ++ tyM g) room_1) (hX : GX κ b L xs) (hL6 : L = 6) (tail : ∀ ws, GW κ 4 82 21282 ws 1465 [(3, .int 0), (2, .ref (r 0)), (1, .ref (q 0)), (0, .ref b)] []) : GW κ 4 82 21282 (wX q d iX0 aX0 ++ wM r g iM1 aM1 lM1) 452 [(3, .int 0), (2, .ref (r 0)), (1, .ref (q 0)), (0, .ref b)] [] := by
  refine g_aload_n hk dL_law_452 rfl ?_
  refine g_aload_n hk dL_law_453 rfl ?_
  refine g_iload_n hk dL_law_454 rfl ?_
  refine g_iconst (v := 1) hk dL_law_455 (by decide) ?_
  refine g_iadd hk dL_law_456 ?_
  refine g_norm (v := 1) (by decide) ?_
  refine g_sld (v := xs 1) hk hX (vp_in_iff.mpr ⟨by decide, by show (1 : Int) < (L : Int); omega⟩) rfl dL_law_457 ?_
  refine g_callV (n := 1) hk (m250_X11_drop l D zt d q (xs 1)) (SP.pre _ _) (fun q h => List.mem_append_left _ h) (gi_V zw_851 zw_852 zw_853 zw_103 (gi_sub zi_m250_X11_drop zg_m250_X11_drop)) rfl rfl rfl (by decide +kernel) ⟨Nat.le_of_ble_eq_true rfl, Nat.le_of_ble_eq_true rfl⟩ 0 rfl rfl rfl rfl (Nat.le_of_ble_eq_true rfl) ⟨Nat.le_of_ble_eq_true rfl, Nat.le_of_ble_eq_true rfl⟩ dL_law_458 (fun v ty' w' hp hk' => ?_)
  obtain ⟨rfl, rfl⟩ := hp
  show GW κ 4 82 21282 (wM r g iM1 aM1 lM1 ++ wX q d iX0 aX0) 461 [(3, .int 0), (2, .ref (r 0)), (1, .ref (q 0)), (0, .ref b)] [.int 0]
  refine g_aload_n hk dL_law_461 rfl ?_
  refine g_aload_n hk dL_law_462 rfl ?_
  refine g_iload_n hk dL_law_463 rfl ?_
  refine g_iconst (v := 1) hk dL_law_464 (by decide) ?_
  refine g_iadd hk dL_law_465 ?_
  refine g_norm (v := 1) (by decide) ?_
  refine g_sld (v := xs 1) hk hX (vp_in_iff.mpr ⟨by decide, by show (1 : Int) < (L : Int); omega⟩) rfl dL_law_466 ?_
  refine g_callV (n := 1) hk (m147_X12_drop l D zt g r (xs 1)) (SP.pre _ _) (fun q h => List.mem_append_right _ h) (gi_V zw_1698 zw_1699 zw_1700 zw_115 (gi_sub zi_m147_X12_drop zg_m147_X12_drop)) rfl rfl rfl (by decide +kernel) ⟨Nat.le_of_ble_eq_true rfl, Nat.le_of_ble_eq_true rfl⟩ 0 rfl rfl rfl rfl (Nat.le_of_ble_eq_true rfl) ⟨Nat.le_of_ble_eq_true rfl, Nat.le_of_ble_eq_true rfl⟩ dL_law_467 (fun v ty' w' hp hk' => ?_)
  obtain ⟨rfl, rfl⟩ := hp
  show GW κ 4 82 21282 (wX q d iX0 aX0 ++ wM r g iM1 aM1 lM1) 470 [(3, .int 0), (2, .ref (r 0)), (1, .ref (q 0)), (0, .ref b)] [.int 0, .int 0]
  refine g_icmp_eq (tgt := 1465) (a := 0) (b := 0) hk dL_law_470 (by decide) rfl rfl (fun _ => ?_) (fun z9 => absurd (show (0 : Int) = (0 : Int) from by decide) z9)
  exact tail _
set_option maxHeartbeats 4000000 in
set_option maxRecDepth 100000 in
theorem law_11 {κ : Cx} {l : Launch} {D : va_G} {zt : Nat × Nat × Nat} {q r : Nat → Nat} {d g : Nat → ClassId} {b L : Nat} {xs : Nat → Int32} (hk : GC κ l D zt code 4 RL lw_tbl (tyX d ++ tyM g) room_1) (hX : GX κ b L xs) (hL6 : L = 6) (tail : ∀ ws, GW κ 4 82 21282 ws 1465 [(3, .int 0), (2, .ref (r 0)), (1, .ref (q 0)), (0, .ref b)] []) : GW κ 4 82 21282 (wX q d iX0 aX0 ++ wM r g iM1 aM1 lM1) 475 [(3, .int 0), (2, .ref (r 0)), (1, .ref (q 0)), (0, .ref b)] [] := by
  refine g_aload_n hk dL_law_475 rfl ?_
  refine g_aload_n hk dL_law_476 rfl ?_
  refine g_iload_n hk dL_law_477 rfl ?_
  refine g_iconst (v := 1) hk dL_law_478 (by decide) ?_
  refine g_iadd hk dL_law_479 ?_
  refine g_norm (v := 1) (by decide) ?_
  refine g_sld (v := xs 1) hk hX (vp_in_iff.mpr ⟨by decide, by show (1 : Int) < (L : Int); omega⟩) rfl dL_law_480 ?_
  refine g_aload_n hk dL_law_481 rfl ?_
  refine g_iload_n hk dL_law_482 rfl ?_
  refine g_iconst (v := 2) hk dL_law_483 (by decide) ?_
  refine g_iadd hk dL_law_484 ?_
  refine g_norm (v := 2) (by decide) ?_
  refine g_sld (v := xs 2) hk hX (vp_in_iff.mpr ⟨by decide, by show (2 : Int) < (L : Int); omega⟩) rfl dL_law_485 ?_
  refine g_callV (n := 2) hk (m252_X11_set l D zt d q (xs 1) (xs 2)) (SP.pre _ _) (fun q h => List.mem_append_left _ h) (gi_V zw_859 zw_860 zw_861 zw_103 (gi_sub zi_m252_X11_set zg_m252_X11_set)) rfl rfl rfl (by decide +kernel) ⟨Nat.le_of_ble_eq_true rfl, Nat.le_of_ble_eq_true rfl⟩ 0 rfl rfl rfl rfl (Nat.le_of_ble_eq_true rfl) ⟨Nat.le_of_ble_eq_true rfl, Nat.le_of_ble_eq_true rfl⟩ dL_law_486 (fun v ty' w' hp hk' => ?_)
  rcases hp with ⟨c1157, rfl, rfl⟩ | ⟨c1158, c1159, rfl, rfl⟩ | ⟨c1160, c1161, c1162, c1163, c1164, rfl, rfl⟩ | ⟨c1165, c1166, c1167, c1168, c1169, c1170, rfl, rfl⟩ | ⟨c1171, c1172, c1173, c1174, c1175, c1176, c1177, rfl, rfl⟩ | ⟨c1178, c1179, c1180, c1181, c1182, c1183, c1184, rfl, rfl⟩ | ⟨c1185, c1186, c1187, c1188, c1189, c1190, rfl, rfl⟩ | ⟨c1191, c1192, c1193, c1194, c1195, c1196, c1197, rfl, rfl⟩ | ⟨c1198, c1199, c1200, c1201, c1202, c1203, c1204, c1205, rfl, rfl⟩ | ⟨c1206, c1207, c1208, c1209, c1210, c1211, c1212, c1213, rfl, rfl⟩ | ⟨c1214, c1215, c1216, c1217, c1218, c1219, c1220, rfl, rfl⟩ | ⟨c1221, c1222, c1223, c1224, c1225, c1226, c1227, c1228, rfl, rfl⟩ | ⟨c1229, c1230, c1231, c1232, c1233, c1234, c1235, c1236, c1237, rfl, rfl⟩ | ⟨c1238, c1239, c1240, c1241, c1242, c1243, c1244, c1245, c1246, rfl, rfl⟩ | ⟨c1247, c1248, c1249, c1250, c1251, c1252, c1253, c1254, rfl, rfl⟩ | ⟨c1255, c1256, c1257, c1258, c1259, c1260, c1261, c1262, c1263, rfl, rfl⟩ | ⟨c1264, c1265, c1266, c1267, c1268, c1269, c1270, c1271, c1272, c1273, rfl, rfl⟩ | ⟨c1274, c1275, c1276, c1277, c1278, c1279, c1280, c1281, c1282, c1283, rfl, rfl⟩
  · show GW κ 4 82 21282 (wM r g iM1 aM1 lM1 ++ wX q d iX0 aX0) 489 [(3, .int 0), (2, .ref (r 0)), (1, .ref (q 0)), (0, .ref b)] [.int 0]
    refine g_aload_n hk dL_law_489 rfl ?_
    refine g_aload_n hk dL_law_490 rfl ?_
    refine g_iload_n hk dL_law_491 rfl ?_
    refine g_iconst (v := 1) hk dL_law_492 (by decide) ?_
    refine g_iadd hk dL_law_493 ?_
    refine g_norm (v := 1) (by decide) ?_
    refine g_sld (v := xs 1) hk hX (vp_in_iff.mpr ⟨by decide, by show (1 : Int) < (L : Int); omega⟩) rfl dL_law_494 ?_
    refine g_aload_n hk dL_law_495 rfl ?_
    refine g_iload_n hk dL_law_496 rfl ?_
    refine g_iconst (v := 2) hk dL_law_497 (by decide) ?_
    refine g_iadd hk dL_law_498 ?_
    refine g_norm (v := 2) (by decide) ?_
    refine g_sld (v := xs 2) hk hX (vp_in_iff.mpr ⟨by decide, by show (2 : Int) < (L : Int); omega⟩) rfl dL_law_499 ?_
    refine g_callV (n := 2) hk (m149_X12_set l D zt g r (xs 1) (xs 2)) (SP.pre _ _) (fun q h => List.mem_append_right _ h) (gi_V zw_1702 zw_1703 zw_1704 zw_115 (gi_sub zi_m149_X12_set zg_m149_X12_set)) rfl rfl rfl (by decide +kernel) ⟨Nat.le_of_ble_eq_true rfl, Nat.le_of_ble_eq_true rfl⟩ 0 rfl rfl rfl rfl (Nat.le_of_ble_eq_true rfl) ⟨Nat.le_of_ble_eq_true rfl, Nat.le_of_ble_eq_true rfl⟩ dL_law_500 (fun v ty' w' hp hk' => ?_)
    rcases hp with ⟨c1284, rfl, rfl⟩ | ⟨c1285, c1286, rfl, rfl⟩ | ⟨c1287, c1288, c1289, c1290, c1291, rfl, rfl⟩ | ⟨c1292, c1293, c1294, c1295, c1296, c1297, rfl, rfl⟩ | ⟨y1298, c1299, c1300, c1301, c1302, c1303, c1304, rfl, rfl⟩ | ⟨c1305, c1306, c1307, c1308, rfl, rfl⟩ | ⟨c1309, c1310, c1311, c1312, c1313, c1314, rfl, rfl⟩ | ⟨c1315, c1316, c1317, c1318, c1319, c1320, c1321, rfl, rfl⟩ | ⟨y1322, c1323, c1324, c1325, c1326, c1327, c1328, c1329, rfl, rfl⟩ | ⟨c1330, c1331, c1332, c1333, c1334, rfl, rfl⟩ | ⟨c1335, c1336, c1337, c1338, c1339, c1340, c1341, rfl, rfl⟩ | ⟨c1342, c1343, c1344, c1345, c1346, c1347, c1348, c1349, rfl, rfl⟩ | ⟨y1350, c1351, c1352, c1353, c1354, c1355, c1356, c1357, c1358, rfl, rfl⟩ | ⟨c1359, c1360, c1361, c1362, c1363, c1364, rfl, rfl⟩ | ⟨c1365, c1366, c1367, c1368, c1369, c1370, c1371, c1372, rfl, rfl⟩ | ⟨c1373, c1374, c1375, c1376, c1377, c1378, c1379, c1380, c1381, rfl, rfl⟩ | ⟨y1382, c1383, c1384, c1385, c1386, c1387, c1388, c1389, c1390, c1391, rfl, rfl⟩ | ⟨c1392, c1393, c1394, c1395, c1396, c1397, c1398, rfl, rfl⟩
    · show GW κ 4 82 21282 (wX q d iX0 aX0 ++ wM r g iM1 aM1 lM1) 503 [(3, .int 0), (2, .ref (r 0)), (1, .ref (q 0)), (0, .ref b)] [.int 0, .int 0]
      refine g_icmp_eq (tgt := 1465) (a := 0) (b := 0) hk dL_law_503 (by decide) rfl rfl (fun _ => ?_) (fun z9 => absurd (show (0 : Int) = (0 : Int) from by decide) z9)
      exact tail _
    · show GW κ 4 82 21282 (wX q d iX0 aX0 ++ wM r g iM1 aM1 lM1) 503 [(3, .int 0), (2, .ref (r 0)), (1, .ref (q 0)), (0, .ref b)] [.int 0, .int 0]
      exfalso; omega
    · show GW κ 4 82 21282 (wX q d iX0 aX0 ++ wM r g iM1 aM1 lM1) 503 [(3, .int 0), (2, .ref (r 0)), (1, .ref (q 0)), (0, .ref b)] [.int 0, .int 0]
      exfalso; omega
    · show GW κ 4 82 21282 (wX q d iX0 aX0 ++ wM r g iM1 aM1 lM1) 503 [(3, .int 0), (2, .ref (r 0)), (1, .ref (q 0)), (0, .ref b)] [.int 0, .int 0]
      exfalso; omega
    · show GW κ 4 82 21282 (wX q d iX0 aX0 ++ wM r g (upd iM1 22 1) (up2 (up2 (up3 (up2 aM1 18 (cp (aM1 17) (aM1 18) 165)) 18 161 (xs 2)) 22 y1298) 17 (cp ((up2 (up3 (up2 aM1 18 (cp (aM1 17) (aM1 18) 165)) 18 161 (xs 2)) 22 y1298) 18) ((up2 (up3 (up2 aM1 18 (cp (aM1 17) (aM1 18) 165)) 18 161 (xs 2)) 22 y1298) 17) 165)) lM1) 503 [(3, .int 0), (2, .ref (r 0)), (1, .ref (q 0)), (0, .ref b)] [.int 1, .int 0]
      exfalso; omega
    · show GW κ 4 82 21282 (wX q d iX0 aX0 ++ wM r g iM1 aM1 lM1) 503 [(3, .int 0), (2, .ref (r 0)), (1, .ref (q 0)), (0, .ref b)] [.int 0, .int 0]
      exfalso; omega
    · show GW κ 4 82 21282 (wX q d iX0 aX0 ++ wM r g iM1 aM1 lM1) 503 [(3, .int 0), (2, .ref (r 0)), (1, .ref (q 0)), (0, .ref b)] [.int 0, .int 0]
      exfalso; omega
    · show GW κ 4 82 21282 (wX q d iX0 aX0 ++ wM r g iM1 aM1 lM1) 503 [(3, .int 0), (2, .ref (r 0)), (1, .ref (q 0)), (0, .ref b)] [.int 0, .int 0]
      exfalso; omega
    · show GW κ 4 82 21282 (wX q d iX0 aX0 ++ wM r g (upd iM1 22 1) (up2 (up2 (up3 (up2 aM1 18 (cp (aM1 17) (aM1 18) 165)) 18 162 (xs 2)) 22 y1322) 17 (cp ((up2 (up3 (up2 aM1 18 (cp (aM1 17) (aM1 18) 165)) 18 162 (xs 2)) 22 y1322) 18) ((up2 (up3 (up2 aM1 18 (cp (aM1 17) (aM1 18) 165)) 18 162 (xs 2)) 22 y1322) 17) 165)) lM1) 503 [(3, .int 0), (2, .ref (r 0)), (1, .ref (q 0)), (0, .ref b)] [.int 1, .int 0]
      exfalso; omega
    · show GW κ 4 82 21282 (wX q d iX0 aX0 ++ wM r g iM1 aM1 lM1) 503 [(3, .int 0), (2, .ref (r 0)), (1, .ref (q 0)), (0, .ref b)] [.int 0, .int 0]
      exfalso; omega
    · show GW κ 4 82 21282 (wX q d iX0 aX0 ++ wM r g iM1 aM1 lM1) 503 [(3, .int 0), (2, .ref (r 0)), (1, .ref (q 0)), (0, .ref b)] [.int 0, .int 0]
      exfalso; omega
    · show GW κ 4 82 21282 (wX q d iX0 aX0 ++ wM r g iM1 aM1 lM1) 503 [(3, .int 0), (2, .ref (r 0)), (1, .ref (q 0)), (0, .ref b)] [.int 0, .int 0]
      exfalso; omega
    · show GW κ 4 82 21282 (wX q d iX0 aX0 ++ wM r g (upd iM1 22 1) (up2 (up2 (up3 (up2 aM1 18 (cp (aM1 17) (aM1 18) 165)) 18 163 (xs 2)) 22 y1350) 17 (cp ((up2 (up3 (up2 aM1 18 (cp (aM1 17) (aM1 18) 165)) 18 163 (xs 2)) 22 y1350) 18) ((up2 (up3 (up2 aM1 18 (cp (aM1 17) (aM1 18) 165)) 18 163 (xs 2)) 22 y1350) 17) 165)) lM1) 503 [(3, .int 0), (2, .ref (r 0)), (1, .ref (q 0)), (0, .ref b)] [.int 1, .int 0]
      exfalso; omega
    · show GW κ 4 82 21282 (wX q d iX0 aX0 ++ wM r g iM1 aM1 lM1) 503 [(3, .int 0), (2, .ref (r 0)), (1, .ref (q 0)), (0, .ref b)] [.int 0, .int 0]
      exfalso; omega
    · show GW κ 4 82 21282 (wX q d iX0 aX0 ++ wM r g iM1 aM1 lM1) 503 [(3, .int 0), (2, .ref (r 0)), (1, .ref (q 0)), (0, .ref b)] [.int 0, .int 0]
      exfalso; omega
    · show GW κ 4 82 21282 (wX q d iX0 aX0 ++ wM r g iM1 aM1 lM1) 503 [(3, .int 0), (2, .ref (r 0)), (1, .ref (q 0)), (0, .ref b)] [.int 0, .int 0]
      exfalso; omega
    · show GW κ 4 82 21282 (wX q d iX0 aX0 ++ wM r g (upd iM1 22 1) (up2 (up2 (up3 (up2 aM1 18 (cp (aM1 17) (aM1 18) 165)) 18 164 (xs 2)) 22 y1382) 17 (cp ((up2 (up3 (up2 aM1 18 (cp (aM1 17) (aM1 18) 165)) 18 164 (xs 2)) 22 y1382) 18) ((up2 (up3 (up2 aM1 18 (cp (aM1 17) (aM1 18) 165)) 18 164 (xs 2)) 22 y1382) 17) 165)) lM1) 503 [(3, .int 0), (2, .ref (r 0)), (1, .ref (q 0)), (0, .ref b)] [.int 1, .int 0]
      exfalso; omega
    · show GW κ 4 82 21282 (wX q d iX0 aX0 ++ wM r g iM1 aM1 lM1) 503 [(3, .int 0), (2, .ref (r 0)), (1, .ref (q 0)), (0, .ref b)] [.int 0, .int 0]
      exfalso; omega
  · show GW κ 4 82 21282 (wM r g iM1 aM1 lM1 ++ wX q d iX0 aX0) 489 [(3, .int 0), (2, .ref (r 0)), (1, .ref (q 0)), (0, .ref b)] [.int 0]
    refine g_aload_n hk dL_law_489 rfl ?_
    refine g_aload_n hk dL_law_490 rfl ?_
    refine g_iload_n hk dL_law_491 rfl ?_
    refine g_iconst (v := 1) hk dL_law_492 (by decide) ?_
    refine g_iadd hk dL_law_493 ?_
    refine g_norm (v := 1) (by decide) ?_
    refine g_sld (v := xs 1) hk hX (vp_in_iff.mpr ⟨by decide, by show (1 : Int) < (L : Int); omega⟩) rfl dL_law_494 ?_
    refine g_aload_n hk dL_law_495 rfl ?_
    refine g_iload_n hk dL_law_496 rfl ?_
    refine g_iconst (v := 2) hk dL_law_497 (by decide) ?_
    refine g_iadd hk dL_law_498 ?_
    refine g_norm (v := 2) (by decide) ?_
    refine g_sld (v := xs 2) hk hX (vp_in_iff.mpr ⟨by decide, by show (2 : Int) < (L : Int); omega⟩) rfl dL_law_499 ?_
    refine g_callV (n := 2) hk (m149_X12_set l D zt g r (xs 1) (xs 2)) (SP.pre _ _) (fun q h => List.mem_append_right _ h) (gi_V zw_1702 zw_1703 zw_1704 zw_115 (gi_sub zi_m149_X12_set zg_m149_X12_set)) rfl rfl rfl (by decide +kernel) ⟨Nat.le_of_ble_eq_true rfl, Nat.le_of_ble_eq_true rfl⟩ 0 rfl rfl rfl rfl (Nat.le_of_ble_eq_true rfl) ⟨Nat.le_of_ble_eq_true rfl, Nat.le_of_ble_eq_true rfl⟩ dL_law_500 (fun v ty' w' hp hk' => ?_)
    rcases hp with ⟨c1399, rfl, rfl⟩ | ⟨c1400, c1401, rfl, rfl⟩ | ⟨c1402, c1403, c1404, c1405, c1406, rfl, rfl⟩ | ⟨c1407, c1408, c1409, c1410, c1411, c1412, rfl, rfl⟩ | ⟨y1413, c1414, c1415, c1416, c1417, c1418, c1419, rfl, rfl⟩ | ⟨c1420, c1421, c1422, c1423, rfl, rfl⟩ | ⟨c1424, c1425, c1426, c1427, c1428, c1429, rfl, rfl⟩ | ⟨c1430, c1431, c1432, c1433, c1434, c1435, c1436, rfl, rfl⟩ | ⟨y1437, c1438, c1439, c1440, c1441, c1442, c1443, c1444, rfl, rfl⟩ | ⟨c1445, c1446, c1447, c1448, c1449, rfl, rfl⟩ | ⟨c1450, c1451, c1452, c1453, c1454, c1455, c1456, rfl, rfl⟩ | ⟨c1457, c1458, c1459, c1460, c1461, c1462, c1463, c1464, rfl, rfl⟩ | ⟨y1465, c1466, c1467, c1468, c1469, c1470, c1471, c1472, c1473, rfl, rfl⟩ | ⟨c1474, c1475, c1476, c1477, c1478, c1479, rfl, rfl⟩ | ⟨c1480, c1481, c1482, c1483, c1484, c1485, c1486, c1487, rfl, rfl⟩ | ⟨c1488, c1489, c1490, c1491, c1492, c1493, c1494, c1495, c1496, rfl, rfl⟩ | ⟨y1497, c1498, c1499, c1500, c1501, c1502, c1503, c1504, c1505, c1506, rfl, rfl⟩ | ⟨c1507, c1508, c1509, c1510, c1511, c1512, c1513, rfl, rfl⟩
    · show GW κ 4 82 21282 (wX q d iX0 aX0 ++ wM r g iM1 aM1 lM1) 503 [(3, .int 0), (2, .ref (r 0)), (1, .ref (q 0)), (0, .ref b)] [.int 0, .int 0]
      exfalso; omega
    · show GW κ 4 82 21282 (wX q d iX0 aX0 ++ wM r g iM1 aM1 lM1) 503 [(3, .int 0), (2, .ref (r 0)), (1, .ref (q 0)), (0, .ref b)] [.int 0, .int 0]
      refine g_icmp_eq (tgt := 1465) (a := 0) (b := 0) hk dL_law_503 (by decide) rfl rfl (fun _ => ?_) (fun z9 => absurd (show (0 : Int) = (0 : Int) from by decide) z9)
      exact tail _
    · show GW κ 4 82 21282 (wX q d iX0 aX0 ++ wM r g iM1 aM1 lM1) 503 [(3, .int 0), (2, .ref (r 0)), (1, .ref (q 0)), (0, .ref b)] [.int 0, .int 0]
      exfalso; omega
    · show GW κ 4 82 21282 (wX q d iX0 aX0 ++ wM r g iM1 aM1 lM1) 503 [(3, .int 0), (2, .ref (r 0)), (1, .ref (q 0)), (0, .ref b)] [.int 0, .int 0]
      exfalso; omega
    · show GW κ 4 82 21282 (wX q d iX0 aX0 ++ wM r g (upd iM1 22 1) (up2 (up2 (up3 (up2 aM1 18 (cp (aM1 17) (aM1 18) 165)) 18 161 (xs 2)) 22 y1413) 17 (cp ((up2 (up3 (up2 aM1 18 (cp (aM1 17) (aM1 18) 165)) 18 161 (xs 2)) 22 y1413) 18) ((up2 (up3 (up2 aM1 18 (cp (aM1 17) (aM1 18) 165)) 18 161 (xs 2)) 22 y1413) 17) 165)) lM1) 503 [(3, .int 0), (2, .ref (r 0)), (1, .ref (q 0)), (0, .ref b)] [.int 1, .int 0]
      exfalso; omega
    · show GW κ 4 82 21282 (wX q d iX0 aX0 ++ wM r g iM1 aM1 lM1) 503 [(3, .int 0), (2, .ref (r 0)), (1, .ref (q 0)), (0, .ref b)] [.int 0, .int 0]
      exfalso; omega
    · show GW κ 4 82 21282 (wX q d iX0 aX0 ++ wM r g iM1 aM1 lM1) 503 [(3, .int 0), (2, .ref (r 0)), (1, .ref (q 0)), (0, .ref b)] [.int 0, .int 0]
      exfalso; omega
    · show GW κ 4 82 21282 (wX q d iX0 aX0 ++ wM r g iM1 aM1 lM1) 503 [(3, .int 0), (2, .ref (r 0)), (1, .ref (q 0)), (0, .ref b)] [.int 0, .int 0]
      exfalso; omega
    · show GW κ 4 82 21282 (wX q d iX0 aX0 ++ wM r g (upd iM1 22 1) (up2 (up2 (up3 (up2 aM1 18 (cp (aM1 17) (aM1 18) 165)) 18 162 (xs 2)) 22 y1437) 17 (cp ((up2 (up3 (up2 aM1 18 (cp (aM1 17) (aM1 18) 165)) 18 162 (xs 2)) 22 y1437) 18) ((up2 (up3 (up2 aM1 18 (cp (aM1 17) (aM1 18) 165)) 18 162 (xs 2)) 22 y1437) 17) 165)) lM1) 503 [(3, .int 0), (2, .ref (r 0)), (1, .ref (q 0)), (0, .ref b)] [.int 1, .int 0]
      exfalso; omega
    · show GW κ 4 82 21282 (wX q d iX0 aX0 ++ wM r g iM1 aM1 lM1) 503 [(3, .int 0), (2, .ref (r 0)), (1, .ref (q 0)), (0, .ref b)] [.int 0, .int 0]
      exfalso; omega
    · show GW κ 4 82 21282 (wX q d iX0 aX0 ++ wM r g iM1 aM1 lM1) 503 [(3, .int 0), (2, .ref (r 0)), (1, .ref (q 0)), (0, .ref b)] [.int 0, .int 0]
      exfalso; omega
    · show GW κ 4 82 21282 (wX q d iX0 aX0 ++ wM r g iM1 aM1 lM1) 503 [(3, .int 0), (2, .ref (r 0)), (1, .ref (q 0)), (0, .ref b)] [.int 0, .int 0]
      exfalso; omega
    · show GW κ 4 82 21282 (wX q d iX0 aX0 ++ wM r g (upd iM1 22 1) (up2 (up2 (up3 (up2 aM1 18 (cp (aM1 17) (aM1 18) 165)) 18 163 (xs 2)) 22 y1465) 17 (cp ((up2 (up3 (up2 aM1 18 (cp (aM1 17) (aM1 18) 165)) 18 163 (xs 2)) 22 y1465) 18) ((up2 (up3 (up2 aM1 18 (cp (aM1 17) (aM1 18) 165)) 18 163 (xs 2)) 22 y1465) 17) 165)) lM1) 503 [(3, .int 0), (2, .ref (r 0)), (1, .ref (q 0)), (0, .ref b)] [.int 1, .int 0]
      exfalso; omega
    · show GW κ 4 82 21282 (wX q d iX0 aX0 ++ wM r g iM1 aM1 lM1) 503 [(3, .int 0), (2, .ref (r 0)), (1, .ref (q 0)), (0, .ref b)] [.int 0, .int 0]
      exfalso; omega
    · show GW κ 4 82 21282 (wX q d iX0 aX0 ++ wM r g iM1 aM1 lM1) 503 [(3, .int 0), (2, .ref (r 0)), (1, .ref (q 0)), (0, .ref b)] [.int 0, .int 0]
      exfalso; omega
    · show GW κ 4 82 21282 (wX q d iX0 aX0 ++ wM r g iM1 aM1 lM1) 503 [(3, .int 0), (2, .ref (r 0)), (1, .ref (q 0)), (0, .ref b)] [.int 0, .int 0]
      exfalso; omega
    · show GW κ 4 82 21282 (wX q d iX0 aX0 ++ wM r g (upd iM1 22 1) (up2 (up2 (up3 (up2 aM1 18 (cp (aM1 17) (aM1 18) 165)) 18 164 (xs 2)) 22 y1497) 17 (cp ((up2 (up3 (up2 aM1 18 (cp (aM1 17) (aM1 18) 165)) 18 164 (xs 2)) 22 y1497) 18) ((up2 (up3 (up2 aM1 18 (cp (aM1 17) (aM1 18) 165)) 18 164 (xs 2)) 22 y1497) 17) 165)) lM1) 503 [(3, .int 0), (2, .ref (r 0)), (1, .ref (q 0)), (0, .ref b)] [.int 1, .int 0]
      exfalso; omega
    · show GW κ 4 82 21282 (wX q d iX0 aX0 ++ wM r g iM1 aM1 lM1) 503 [(3, .int 0), (2, .ref (r 0)), (1, .ref (q 0)), (0, .ref b)] [.int 0, .int 0]
      exfalso; omega
  · show GW κ 4 82 21282 (wM r g iM1 aM1 lM1 ++ wX q d iX0 aX0) 489 [(3, .int 0), (2, .ref (r 0)), (1, .ref (q 0)), (0, .ref b)] [.int 0]
    refine g_aload_n hk dL_law_489 rfl ?_
    refine g_aload_n hk dL_law_490 rfl ?_
    refine g_iload_n hk dL_law_491 rfl ?_
    refine g_iconst (v := 1) hk dL_law_492 (by decide) ?_
    refine g_iadd hk dL_law_493 ?_
    refine g_norm (v := 1) (by decide) ?_
    refine g_sld (v := xs 1) hk hX (vp_in_iff.mpr ⟨by decide, by show (1 : Int) < (L : Int); omega⟩) rfl dL_law_494 ?_
    refine g_aload_n hk dL_law_495 rfl ?_
    refine g_iload_n hk dL_law_496 rfl ?_
    refine g_iconst (v := 2) hk dL_law_497 (by decide) ?_
    refine g_iadd hk dL_law_498 ?_
    refine g_norm (v := 2) (by decide) ?_
    refine g_sld (v := xs 2) hk hX (vp_in_iff.mpr ⟨by decide, by show (2 : Int) < (L : Int); omega⟩) rfl dL_law_499 ?_
    refine g_callV (n := 2) hk (m149_X12_set l D zt g r (xs 1) (xs 2)) (SP.pre _ _) (fun q h => List.mem_append_right _ h) (gi_V zw_1702 zw_1703 zw_1704 zw_115 (gi_sub zi_m149_X12_set zg_m149_X12_set)) rfl rfl rfl (by decide +kernel) ⟨Nat.le_of_ble_eq_true rfl, Nat.le_of_ble_eq_true rfl⟩ 0 rfl rfl rfl rfl (Nat.le_of_ble_eq_true rfl) ⟨Nat.le_of_ble_eq_true rfl, Nat.le_of_ble_eq_true rfl⟩ dL_law_500 (fun v ty' w' hp hk' => ?_)
    rcases hp with ⟨c1514, rfl, rfl⟩ | ⟨c1515, c1516, rfl, rfl⟩ | ⟨c1517, c1518, c1519, c1520, c1521, rfl, rfl⟩ | ⟨c1522, c1523, c1524, c1525, c1526, c1527, rfl, rfl⟩ | ⟨y1528, c1529, c1530, c1531, c1532, c1533, c1534, rfl, rfl⟩ | ⟨c1535, c1536, c1537, c1538, rfl, rfl⟩ | ⟨c1539, c1540, c1541, c1542, c1543, c1544, rfl, rfl⟩ | ⟨c1545, c1546, c1547, c1548, c1549, c1550, c1551, rfl, rfl⟩ | ⟨y1552, c1553, c1554, c1555, c1556, c1557, c1558, c1559, rfl, rfl⟩ | ⟨c1560, c1561, c1562, c1563, c1564, rfl, rfl⟩ | ⟨c1565, c1566, c1567, c1568, c1569, c1570, c1571, rfl, rfl⟩ | ⟨c1572, c1573, c1574, c1575, c1576, c1577, c1578, c1579, rfl, rfl⟩ | ⟨y1580, c1581, c1582, c1583, c1584, c1585, c1586, c1587, c1588, rfl, rfl⟩ | ⟨c1589, c1590, c1591, c1592, c1593, c1594, rfl, rfl⟩ | ⟨c1595, c1596, c1597, c1598, c1599, c1600, c1601, c1602, rfl, rfl⟩ | ⟨c1603, c1604, c1605, c1606, c1607, c1608, c1609, c1610, c1611, rfl, rfl⟩ | ⟨y1612, c1613, c1614, c1615, c1616, c1617, c1618, c1619, c1620, c1621, rfl, rfl⟩ | ⟨c1622, c1623, c1624, c1625, c1626, c1627, c1628, rfl, rfl⟩
    · show GW κ 4 82 21282 (wX q d iX0 aX0 ++ wM r g iM1 aM1 lM1) 503 [(3, .int 0), (2, .ref (r 0)), (1, .ref (q 0)), (0, .ref b)] [.int 0, .int 0]
      exfalso; omega
    · show GW κ 4 82 21282 (wX q d iX0 aX0 ++ wM r g iM1 aM1 lM1) 503 [(3, .int 0), (2, .ref (r 0)), (1, .ref (q 0)), (0, .ref b)] [.int 0, .int 0]
      exfalso; omega
    · show GW κ 4 82 21282 (wX q d iX0 aX0 ++ wM r g iM1 aM1 lM1) 503 [(3, .int 0), (2, .ref (r 0)), (1, .ref (q 0)), (0, .ref b)] [.int 0, .int 0]
      refine g_icmp_eq (tgt := 1465) (a := 0) (b := 0) hk dL_law_503 (by decide) rfl rfl (fun _ => ?_) (fun z9 => absurd (show (0 : Int) = (0 : Int) from by decide) z9)
      exact tail _
    · show GW κ 4 82 21282 (wX q d iX0 aX0 ++ wM r g iM1 aM1 lM1) 503 [(3, .int 0), (2, .ref (r 0)), (1, .ref (q 0)), (0, .ref b)] [.int 0, .int 0]
      exfalso; omega
    · show GW κ 4 82 21282 (wX q d iX0 aX0 ++ wM r g (upd iM1 22 1) (up2 (up2 (up3 (up2 aM1 18 (cp (aM1 17) (aM1 18) 165)) 18 161 (xs 2)) 22 y1528) 17 (cp ((up2 (up3 (up2 aM1 18 (cp (aM1 17) (aM1 18) 165)) 18 161 (xs 2)) 22 y1528) 18) ((up2 (up3 (up2 aM1 18 (cp (aM1 17) (aM1 18) 165)) 18 161 (xs 2)) 22 y1528) 17) 165)) lM1) 503 [(3, .int 0), (2, .ref (r 0)), (1, .ref (q 0)), (0, .ref b)] [.int 1, .int 0]
      exfalso; omega
    · show GW κ 4 82 21282 (wX q d iX0 aX0 ++ wM r g iM1 aM1 lM1) 503 [(3, .int 0), (2, .ref (r 0)), (1, .ref (q 0)), (0, .ref b)] [.int 0, .int 0]
      exfalso; omega
    · show GW κ 4 82 21282 (wX q d iX0 aX0 ++ wM r g iM1 aM1 lM1) 503 [(3, .int 0), (2, .ref (r 0)), (1, .ref (q 0)), (0, .ref b)] [.int 0, .int 0]
      exfalso; omega
    · show GW κ 4 82 21282 (wX q d iX0 aX0 ++ wM r g iM1 aM1 lM1) 503 [(3, .int 0), (2, .ref (r 0)), (1, .ref (q 0)), (0, .ref b)] [.int 0, .int 0]
      exfalso; omega
    · show GW κ 4 82 21282 (wX q d iX0 aX0 ++ wM r g (upd iM1 22 1) (up2 (up2 (up3 (up2 aM1 18 (cp (aM1 17) (aM1 18) 165)) 18 162 (xs 2)) 22 y1552) 17 (cp ((up2 (up3 (up2 aM1 18 (cp (aM1 17) (aM1 18) 165)) 18 162 (xs 2)) 22 y1552) 18) ((up2 (up3 (up2 aM1 18 (cp (aM1 17) (aM1 18) 165)) 18 162 (xs 2)) 22 y1552) 17) 165)) lM1) 503 [(3, .int 0), (2, .ref (r 0)), (1, .ref (q 0)), (0, .ref b)] [.int 1, .int 0]
      exfalso; omega
    · show GW κ 4 82 21282 (wX q d iX0 aX0 ++ wM r g iM1 aM1 lM1) 503 [(3, .int 0), (2, .ref (r 0)), (1, .ref (q 0)), (0, .ref b)] [.int 0, .int 0]
      exfalso; omega
    · show GW κ 4 82 21282 (wX q d iX0 aX0 ++ wM r g iM1 aM1 lM1) 503 [(3, .int 0), (2, .ref (r 0)), (1, .ref (q 0)), (0, .ref b)] [.int 0, .int 0]
      exfalso; omega
    · show GW κ 4 82 21282 (wX q d iX0 aX0 ++ wM r g iM1 aM1 lM1) 503 [(3, .int 0), (2, .ref (r 0)), (1, .ref (q 0)), (0, .ref b)] [.int 0, .int 0]
      exfalso; omega
    · show GW κ 4 82 21282 (wX q d iX0 aX0 ++ wM r g (upd iM1 22 1) (up2 (up2 (up3 (up2 aM1 18 (cp (aM1 17) (aM1 18) 165)) 18 163 (xs 2)) 22 y1580) 17 (cp ((up2 (up3 (up2 aM1 18 (cp (aM1 17) (aM1 18) 165)) 18 163 (xs 2)) 22 y1580) 18) ((up2 (up3 (up2 aM1 18 (cp (aM1 17) (aM1 18) 165)) 18 163 (xs 2)) 22 y1580) 17) 165)) lM1) 503 [(3, .int 0), (2, .ref (r 0)), (1, .ref (q 0)), (0, .ref b)] [.int 1, .int 0]
      exfalso; omega
    · show GW κ 4 82 21282 (wX q d iX0 aX0 ++ wM r g iM1 aM1 lM1) 503 [(3, .int 0), (2, .ref (r 0)), (1, .ref (q 0)), (0, .ref b)] [.int 0, .int 0]
      exfalso; omega
    · show GW κ 4 82 21282 (wX q d iX0 aX0 ++ wM r g iM1 aM1 lM1) 503 [(3, .int 0), (2, .ref (r 0)), (1, .ref (q 0)), (0, .ref b)] [.int 0, .int 0]
      exfalso; omega
    · show GW κ 4 82 21282 (wX q d iX0 aX0 ++ wM r g iM1 aM1 lM1) 503 [(3, .int 0), (2, .ref (r 0)), (1, .ref (q 0)), (0, .ref b)] [.int 0, .int 0]
      exfalso; omega
    · show GW κ 4 82 21282 (wX q d iX0 aX0 ++ wM r g (upd iM1 22 1) (up2 (up2 (up3 (up2 aM1 18 (cp (aM1 17) (aM1 18) 165)) 18 164 (xs 2)) 22 y1612) 17 (cp ((up2 (up3 (up2 aM1 18 (cp (aM1 17) (aM1 18) 165)) 18 164 (xs 2)) 22 y1612) 18) ((up2 (up3 (up2 aM1 18 (cp (aM1 17) (aM1 18) 165)) 18 164 (xs 2)) 22 y1612) 17) 165)) lM1) 503 [(3, .int 0), (2, .ref (r 0)), (1, .ref (q 0)), (0, .ref b)] [.int 1, .int 0]
      exfalso; omega
    · show GW κ 4 82 21282 (wX q d iX0 aX0 ++ wM r g iM1 aM1 lM1) 503 [(3, .int 0), (2, .ref (r 0)), (1, .ref (q 0)), (0, .ref b)] [.int 0, .int 0]
      exfalso; omega
  · show GW κ 4 82 21282 (wM r g iM1 aM1 lM1 ++ wX q d iX0 aX0) 489 [(3, .int 0), (2, .ref (r 0)), (1, .ref (q 0)), (0, .ref b)] [.int 0]
    refine g_aload_n hk dL_law_489 rfl ?_
    refine g_aload_n hk dL_law_490 rfl ?_
    refine g_iload_n hk dL_law_491 rfl ?_
    refine g_iconst (v := 1) hk dL_law_492 (by decide) ?_
    refine g_iadd hk dL_law_493 ?_
    refine g_norm (v := 1) (by decide) ?_
    refine g_sld (v := xs 1) hk hX (vp_in_iff.mpr ⟨by decide, by show (1 : Int) < (L : Int); omega⟩) rfl dL_law_494 ?_
    refine g_aload_n hk dL_law_495 rfl ?_
    refine g_iload_n hk dL_law_496 rfl ?_
    refine g_iconst (v := 2) hk dL_law_497 (by decide) ?_
    refine g_iadd hk dL_law_498 ?_
    refine g_norm (v := 2) (by decide) ?_
    refine g_sld (v := xs 2) hk hX (vp_in_iff.mpr ⟨by decide, by show (2 : Int) < (L : Int); omega⟩) rfl dL_law_499 ?_
    refine g_callV (n := 2) hk (m149_X12_set l D zt g r (xs 1) (xs 2)) (SP.pre _ _) (fun q h => List.mem_append_right _ h) (gi_V zw_1702 zw_1703 zw_1704 zw_115 (gi_sub zi_m149_X12_set zg_m149_X12_set)) rfl rfl rfl (by decide +kernel) ⟨Nat.le_of_ble_eq_true rfl, Nat.le_of_ble_eq_true rfl⟩ 0 rfl rfl rfl rfl (Nat.le_of_ble_eq_true rfl) ⟨Nat.le_of_ble_eq_true rfl, Nat.le_of_ble_eq_true rfl⟩ dL_law_500 (fun v ty' w' hp hk' => ?_)
    rcases hp with ⟨c1629, rfl, rfl⟩ | ⟨c1630, c1631, rfl, rfl⟩ | ⟨c1632, c1633, c1634, c1635, c1636, rfl, rfl⟩ | ⟨c1637, c1638, c1639, c1640, c1641, c1642, rfl, rfl⟩ | ⟨y1643, c1644, c1645, c1646, c1647, c1648, c1649, rfl, rfl⟩ | ⟨c1650, c1651, c1652, c1653, rfl, rfl⟩ | ⟨c1654, c1655, c1656, c1657, c1658, c1659, rfl, rfl⟩ | ⟨c1660, c1661, c1662, c1663, c1664, c1665, c1666, rfl, rfl⟩ | ⟨y1667, c1668, c1669, c1670, c1671, c1672, c1673, c1674, rfl, rfl⟩ | ⟨c1675, c1676, c1677, c1678, c1679, rfl, rfl⟩ | ⟨c1680, c1681, c1682, c1683, c1684, c1685, c1686, rfl, rfl⟩ | ⟨c1687, c1688, c1689, c1690, c1691, c1692, c1693, c1694, rfl, rfl⟩ | ⟨y1695, c1696, c1697, c1698, c1699, c1700, c1701, c1702, c1703, rfl, rfl⟩ | ⟨c1704, c1705, c1706, c1707, c1708, c1709, rfl, rfl⟩ | ⟨c1710, c1711, c1712, c1713, c1714, c1715, c1716, c1717, rfl, rfl⟩ | ⟨c1718, c1719, c1720, c1721, c1722, c1723, c1724, c1725, c1726, rfl, rfl⟩ | ⟨y1727, c1728, c1729, c1730, c1731, c1732, c1733, c1734, c1735, c1736, rfl, rfl⟩ | ⟨c1737, c1738, c1739, c1740, c1741, c1742, c1743, rfl, rfl⟩
    · show GW κ 4 82 21282 (wX q d iX0 aX0 ++ wM r g iM1 aM1 lM1) 503 [(3, .int 0), (2, .ref (r 0)), (1, .ref (q 0)), (0, .ref b)] [.int 0, .int 0]
      exfalso; omega
    · show GW κ 4 82 21282 (wX q d iX0 aX0 ++ wM r g iM1 aM1 lM1) 503 [(3, .int 0), (2, .ref (r 0)), (1, .ref (q 0)), (0, .ref b)] [.int 0, .int 0]
      exfalso; omega
    · show GW κ 4 82 21282 (wX q d iX0 aX0 ++ wM r g iM1 aM1 lM1) 503 [(3, .int 0), (2, .ref (r 0)), (1, .ref (q 0)), (0, .ref b)] [.int 0, .int 0]
      exfalso; omega
    · show GW κ 4 82 21282 (wX q d iX0 aX0 ++ wM r g iM1 aM1 lM1) 503 [(3, .int 0), (2, .ref (r 0)), (1, .ref (q 0)), (0, .ref b)] [.int 0, .int 0]
      refine g_icmp_eq (tgt := 1465) (a := 0) (b := 0) hk dL_law_503 (by decide) rfl rfl (fun _ => ?_) (fun z9 => absurd (show (0 : Int) = (0 : Int) from by decide) z9)
      exact tail _
    · show GW κ 4 82 21282 (wX q d iX0 aX0 ++ wM r g (upd iM1 22 1) (up2 (up2 (up3 (up2 aM1 18 (cp (aM1 17) (aM1 18) 165)) 18 161 (xs 2)) 22 y1643) 17 (cp ((up2 (up3 (up2 aM1 18 (cp (aM1 17) (aM1 18) 165)) 18 161 (xs 2)) 22 y1643) 18) ((up2 (up3 (up2 aM1 18 (cp (aM1 17) (aM1 18) 165)) 18 161 (xs 2)) 22 y1643) 17) 165)) lM1) 503 [(3, .int 0), (2, .ref (r 0)), (1, .ref (q 0)), (0, .ref b)] [.int 1, .int 0]
      exfalso; omega
    · show GW κ 4 82 21282 (wX q d iX0 aX0 ++ wM r g iM1 aM1 lM1) 503 [(3, .int 0), (2, .ref (r 0)), (1, .ref (q 0)), (0, .ref b)] [.int 0, .int 0]
      exfalso; omega
    · show GW κ 4 82 21282 (wX q d iX0 aX0 ++ wM r g iM1 aM1 lM1) 503 [(3, .int 0), (2, .ref (r 0)), (1, .ref (q 0)), (0, .ref b)] [.int 0, .int 0]
      exfalso; omega
    · show GW κ 4 82 21282 (wX q d iX0 aX0 ++ wM r g iM1 aM1 lM1) 503 [(3, .int 0), (2, .ref (r 0)), (1, .ref (q 0)), (0, .ref b)] [.int 0, .int 0]
      exfalso; omega
    · show GW κ 4 82 21282 (wX q d iX0 aX0 ++ wM r g (upd iM1 22 1) (up2 (up2 (up3 (up2 aM1 18 (cp (aM1 17) (aM1 18) 165)) 18 162 (xs 2)) 22 y1667) 17 (cp ((up2 (up3 (up2 aM1 18 (cp (aM1 17) (aM1 18) 165)) 18 162 (xs 2)) 22 y1667) 18) ((up2 (up3 (up2 aM1 18 (cp (aM1 17) (aM1 18) 165)) 18 162 (xs 2)) 22 y1667) 17) 165)) lM1) 503 [(3, .int 0), (2, .ref (r 0)), (1, .ref (q 0)), (0, .ref b)] [.int 1, .int 0]
      exfalso; omega
    · show GW κ 4 82 21282 (wX q d iX0 aX0 ++ wM r g iM1 aM1 lM1) 503 [(3, .int 0), (2, .ref (r 0)), (1, .ref (q 0)), (0, .ref b)] [.int 0, .int 0]
      exfalso; omega
    · show GW κ 4 82 21282 (wX q d iX0 aX0 ++ wM r g iM1 aM1 lM1) 503 [(3, .int 0), (2, .ref (r 0)), (1, .ref (q 0)), (0, .ref b)] [.int 0, .int 0]
      exfalso; omega
    · show GW κ 4 82 21282 (wX q d iX0 aX0 ++ wM r g iM1 aM1 lM1) 503 [(3, .int 0), (2, .ref (r 0)), (1, .ref (q 0)), (0, .ref b)] [.int 0, .int 0]
      exfalso; omega
    · show GW κ 4 82 21282 (wX q d iX0 aX0 ++ wM r g (upd iM1 22 1) (up2 (up2 (up3 (up2 aM1 18 (cp (aM1 17) (aM1 18) 165)) 18 163 (xs 2)) 22 y1695) 17 (cp ((up2 (up3 (up2 aM1 18 (cp (aM1 17) (aM1 18) 165)) 18 163 (xs 2)) 22 y1695) 18) ((up2 (up3 (up2 aM1 18 (cp (aM1 17) (aM1 18) 165)) 18 163 (xs 2)) 22 y1695) 17) 165)) lM1) 503 [(3, .int 0), (2, .ref (r 0)), (1, .ref (q 0)), (0, .ref b)] [.int 1, .int 0]
      exfalso; omega
    · show GW κ 4 82 21282 (wX q d iX0 aX0 ++ wM r g iM1 aM1 lM1) 503 [(3, .int 0), (2, .ref (r 0)), (1, .ref (q 0)), (0, .ref b)] [.int 0, .int 0]
      exfalso; omega
    · show GW κ 4 82 21282 (wX q d iX0 aX0 ++ wM r g iM1 aM1 lM1) 503 [(3, .int 0), (2, .ref (r 0)), (1, .ref (q 0)), (0, .ref b)] [.int 0, .int 0]
      exfalso; omega
    · show GW κ 4 82 21282 (wX q d iX0 aX0 ++ wM r g iM1 aM1 lM1) 503 [(3, .int 0), (2, .ref (r 0)), (1, .ref (q 0)), (0, .ref b)] [.int 0, .int 0]
      exfalso; omega
    · show GW κ 4 82 21282 (wX q d iX0 aX0 ++ wM r g (upd iM1 22 1) (up2 (up2 (up3 (up2 aM1 18 (cp (aM1 17) (aM1 18) 165)) 18 164 (xs 2)) 22 y1727) 17 (cp ((up2 (up3 (up2 aM1 18 (cp (aM1 17) (aM1 18) 165)) 18 164 (xs 2)) 22 y1727) 18) ((up2 (up3 (up2 aM1 18 (cp (aM1 17) (aM1 18) 165)) 18 164 (xs 2)) 22 y1727) 17) 165)) lM1) 503 [(3, .int 0), (2, .ref (r 0)), (1, .ref (q 0)), (0, .ref b)] [.int 1, .int 0]
      exfalso; omega
    · show GW κ 4 82 21282 (wX q d iX0 aX0 ++ wM r g iM1 aM1 lM1) 503 [(3, .int 0), (2, .ref (r 0)), (1, .ref (q 0)), (0, .ref b)] [.int 0, .int 0]
      exfalso; omega
  · show GW κ 4 82 21282 (wM r g iM1 aM1 lM1 ++ wX q d (upd (upd iX0 20 1) 21 1) (up3 (up3 (up3 (up3 aX0 10 0 (xs 2)) 11 0 3) 12 0 (xs 1)) 13 0 2)) 489 [(3, .int 0), (2, .ref (r 0)), (1, .ref (q 0)), (0, .ref b)] [.int 1]
    refine g_aload_n hk dL_law_489 rfl ?_
    refine g_aload_n hk dL_law_490 rfl ?_
    refine g_iload_n hk dL_law_491 rfl ?_
    refine g_iconst (v := 1) hk dL_law_492 (by decide) ?_
    refine g_iadd hk dL_law_493 ?_
    refine g_norm (v := 1) (by decide) ?_
    refine g_sld (v := xs 1) hk hX (vp_in_iff.mpr ⟨by decide, by show (1 : Int) < (L : Int); omega⟩) rfl dL_law_494 ?_
    refine g_aload_n hk dL_law_495 rfl ?_
    refine g_iload_n hk dL_law_496 rfl ?_
    refine g_iconst (v := 2) hk dL_law_497 (by decide) ?_
    refine g_iadd hk dL_law_498 ?_
    refine g_norm (v := 2) (by decide) ?_
    refine g_sld (v := xs 2) hk hX (vp_in_iff.mpr ⟨by decide, by show (2 : Int) < (L : Int); omega⟩) rfl dL_law_499 ?_
    refine g_callV (n := 2) hk (m149_X12_set l D zt g r (xs 1) (xs 2)) (SP.pre _ _) (fun q h => List.mem_append_right _ h) (gi_V zw_1702 zw_1703 zw_1704 zw_115 (gi_sub zi_m149_X12_set zg_m149_X12_set)) rfl rfl rfl (by decide +kernel) ⟨Nat.le_of_ble_eq_true rfl, Nat.le_of_ble_eq_true rfl⟩ 0 rfl rfl rfl rfl (Nat.le_of_ble_eq_true rfl) ⟨Nat.le_of_ble_eq_true rfl, Nat.le_of_ble_eq_true rfl⟩ dL_law_500 (fun v ty' w' hp hk' => ?_)
    rcases hp with ⟨c1744, rfl, rfl⟩ | ⟨c1745, c1746, rfl, rfl⟩ | ⟨c1747, c1748, c1749, c1750, c1751, rfl, rfl⟩ | ⟨c1752, c1753, c1754, c1755, c1756, c1757, rfl, rfl⟩ | ⟨y1758, c1759, c1760, c1761, c1762, c1763, c1764, rfl, rfl⟩ | ⟨c1765, c1766, c1767, c1768, rfl, rfl⟩ | ⟨c1769, c1770, c1771, c1772, c1773, c1774, rfl, rfl⟩ | ⟨c1775, c1776, c1777, c1778, c1779, c1780, c1781, rfl, rfl⟩ | ⟨y1782, c1783, c1784, c1785, c1786, c1787, c1788, c1789, rfl, rfl⟩ | ⟨c1790, c1791, c1792, c1793, c1794, rfl, rfl⟩ | ⟨c1795, c1796, c1797, c1798, c1799, c1800, c1801, rfl, rfl⟩ | ⟨c1802, c1803, c1804, c1805, c1806, c1807, c1808, c1809, rfl, rfl⟩ | ⟨y1810, c1811, c1812, c1813, c1814, c1815, c1816, c1817, c1818, rfl, rfl⟩ | ⟨c1819, c1820, c1821, c1822, c1823, c1824, rfl, rfl⟩ | ⟨c1825, c1826, c1827, c1828, c1829, c1830, c1831, c1832, rfl, rfl⟩ | ⟨c1833, c1834, c1835, c1836, c1837, c1838, c1839, c1840, c1841, rfl, rfl⟩ | ⟨y1842, c1843, c1844, c1845, c1846, c1847, c1848, c1849, c1850, c1851, rfl, rfl⟩ | ⟨c1852, c1853, c1854, c1855, c1856, c1857, c1858, rfl, rfl⟩
    · show GW κ 4 82 21282 (wX q d (upd (upd iX0 20 1) 21 1) (up3 (up3 (up3 (up3 aX0 10 0 (xs 2)) 11 0 3) 12 0 (xs 1)) 13 0 2) ++ wM r g iM1 aM1 lM1) 503 [(3, .int 0), (2, .ref (r 0)), (1, .ref (q 0)), (0, .ref b)] [.int 0, .int 1]
      exfalso; omega
    · show GW κ 4 82 21282 (wX q d (upd (upd iX0 20 1) 21 1) (up3 (up3 (up3 (up3 aX0 10 0 (xs 2)) 11 0 3) 12 0 (xs 1)) 13 0 2) ++ wM r g iM1 aM1 lM1) 503 [(3, .int 0), (2, .ref (r 0)), (1, .ref (q 0)), (0, .ref b)] [.int 0, .int 1]
      exfalso; omega
    · show GW κ 4 82 21282 (wX q d (upd (upd iX0 20 1) 21 1) (up3 (up3 (up3 (up3 aX0 10 0 (xs 2)) 11 0 3) 12 0 (xs 1)) 13 0 2) ++ wM r g iM1 aM1 lM1) 503 [(3, .int 0), (2, .ref (r 0)), (1, .ref (q 0)), (0, .ref b)] [.int 0, .int 1]
      exfalso; omega
    · show GW κ 4 82 21282 (wX q d (upd (upd iX0 20 1) 21 1) (up3 (up3 (up3 (up3 aX0 10 0 (xs 2)) 11 0 3) 12 0 (xs 1)) 13 0 2) ++ wM r g iM1 aM1 lM1) 503 [(3, .int 0), (2, .ref (r 0)), (1, .ref (q 0)), (0, .ref b)] [.int 0, .int 1]
      exfalso; omega
    · show GW κ 4 82 21282 (wX q d (upd (upd iX0 20 1) 21 1) (up3 (up3 (up3 (up3 aX0 10 0 (xs 2)) 11 0 3) 12 0 (xs 1)) 13 0 2) ++ wM r g (upd iM1 22 1) (up2 (up2 (up3 (up2 aM1 18 (cp (aM1 17) (aM1 18) 165)) 18 161 (xs 2)) 22 y1758) 17 (cp ((up2 (up3 (up2 aM1 18 (cp (aM1 17) (aM1 18) 165)) 18 161 (xs 2)) 22 y1758) 18) ((up2 (up3 (up2 aM1 18 (cp (aM1 17) (aM1 18) 165)) 18 161 (xs 2)) 22 y1758) 17) 165)) lM1) 503 [(3, .int 0), (2, .ref (r 0)), (1, .ref (q 0)), (0, .ref b)] [.int 1, .int 1]
      refine g_icmp_eq (tgt := 1465) (a := 1) (b := 1) hk dL_law_503 (by decide) rfl rfl (fun _ => ?_) (fun z9 => absurd (show (1 : Int) = (1 : Int) from by decide) z9)
      exact tail _
    · show GW κ 4 82 21282 (wX q d (upd (upd iX0 20 1) 21 1) (up3 (up3 (up3 (up3 aX0 10 0 (xs 2)) 11 0 3) 12 0 (xs 1)) 13 0 2) ++ wM r g iM1 aM1 lM1) 503 [(3, .int 0), (2, .ref (r 0)), (1, .ref (q 0)), (0, .ref b)] [.int 0, .int 1]
      exfalso; omega
    · show GW κ 4 82 21282 (wX q d (upd (upd iX0 20 1) 21 1) (up3 (up3 (up3 (up3 aX0 10 0 (xs 2)) 11 0 3) 12 0 (xs 1)) 13 0 2) ++ wM r g iM1 aM1 lM1) 503 [(3, .int 0), (2, .ref (r 0)), (1, .ref (q 0)), (0, .ref b)] [.int 0, .int 1]
      exfalso; omega
    · show GW κ 4 82 21282 (wX q d (upd (upd iX0 20 1) 21 1) (up3 (up3 (up3 (up3 aX0 10 0 (xs 2)) 11 0 3) 12 0 (xs 1)) 13 0 2) ++ wM r g iM1 aM1 lM1) 503 [(3, .int 0), (2, .ref (r 0)), (1, .ref (q 0)), (0, .ref b)] [.int 0, .int 1]
      exfalso; omega
    · show GW κ 4 82 21282 (wX q d (upd (upd iX0 20 1) 21 1) (up3 (up3 (up3 (up3 aX0 10 0 (xs 2)) 11 0 3) 12 0 (xs 1)) 13 0 2) ++ wM r g (upd iM1 22 1) (up2 (up2 (up3 (up2 aM1 18 (cp (aM1 17) (aM1 18) 165)) 18 162 (xs 2)) 22 y1782) 17 (cp ((up2 (up3 (up2 aM1 18 (cp (aM1 17) (aM1 18) 165)) 18 162 (xs 2)) 22 y1782) 18) ((up2 (up3 (up2 aM1 18 (cp (aM1 17) (aM1 18) 165)) 18 162 (xs 2)) 22 y1782) 17) 165)) lM1) 503 [(3, .int 0), (2, .ref (r 0)), (1, .ref (q 0)), (0, .ref b)] [.int 1, .int 1]
      exfalso; omega
    · show GW κ 4 82 21282 (wX q d (upd (upd iX0 20 1) 21 1) (up3 (up3 (up3 (up3 aX0 10 0 (xs 2)) 11 0 3) 12 0 (xs 1)) 13 0 2) ++ wM r g iM1 aM1 lM1) 503 [(3, .int 0), (2, .ref (r 0)), (1, .ref (q 0)), (0, .ref b)] [.int 0, .int 1]
      exfalso; omega
    · show GW κ 4 82 21282 (wX q d (upd (upd iX0 20 1) 21 1) (up3 (up3 (up3 (up3 aX0 10 0 (xs 2)) 11 0 3) 12 0 (xs 1)) 13 0 2) ++ wM r g iM1 aM1 lM1) 503 [(3, .int 0), (2, .ref (r 0)), (1, .ref (q 0)), (0, .ref b)] [.int 0, .int 1]
      exfalso; omega
    · show GW κ 4 82 21282 (wX q d (upd (upd iX0 20 1) 21 1) (up3 (up3 (up3 (up3 aX0 10 0 (xs 2)) 11 0 3) 12 0 (xs 1)) 13 0 2) ++ wM r g iM1 aM1 lM1) 503 [(3, .int 0), (2, .ref (r 0)), (1, .ref (q 0)), (0, .ref b)] [.int 0, .int 1]
      exfalso; omega
    · show GW κ 4 82 21282 (wX q d (upd (upd iX0 20 1) 21 1) (up3 (up3 (up3 (up3 aX0 10 0 (xs 2)) 11 0 3) 12 0 (xs 1)) 13 0 2) ++ wM r g (upd iM1 22 1) (up2 (up2 (up3 (up2 aM1 18 (cp (aM1 17) (aM1 18) 165)) 18 163 (xs 2)) 22 y1810) 17 (cp ((up2 (up3 (up2 aM1 18 (cp (aM1 17) (aM1 18) 165)) 18 163 (xs 2)) 22 y1810) 18) ((up2 (up3 (up2 aM1 18 (cp (aM1 17) (aM1 18) 165)) 18 163 (xs 2)) 22 y1810) 17) 165)) lM1) 503 [(3, .int 0), (2, .ref (r 0)), (1, .ref (q 0)), (0, .ref b)] [.int 1, .int 1]
      exfalso; omega
    · show GW κ 4 82 21282 (wX q d (upd (upd iX0 20 1) 21 1) (up3 (up3 (up3 (up3 aX0 10 0 (xs 2)) 11 0 3) 12 0 (xs 1)) 13 0 2) ++ wM r g iM1 aM1 lM1) 503 [(3, .int 0), (2, .ref (r 0)), (1, .ref (q 0)), (0, .ref b)] [.int 0, .int 1]
      exfalso; omega
    · show GW κ 4 82 21282 (wX q d (upd (upd iX0 20 1) 21 1) (up3 (up3 (up3 (up3 aX0 10 0 (xs 2)) 11 0 3) 12 0 (xs 1)) 13 0 2) ++ wM r g iM1 aM1 lM1) 503 [(3, .int 0), (2, .ref (r 0)), (1, .ref (q 0)), (0, .ref b)] [.int 0, .int 1]
      exfalso; omega
    · show GW κ 4 82 21282 (wX q d (upd (upd iX0 20 1) 21 1) (up3 (up3 (up3 (up3 aX0 10 0 (xs 2)) 11 0 3) 12 0 (xs 1)) 13 0 2) ++ wM r g iM1 aM1 lM1) 503 [(3, .int 0), (2, .ref (r 0)), (1, .ref (q 0)), (0, .ref b)] [.int 0, .int 1]
      exfalso; omega
    · show GW κ 4 82 21282 (wX q d (upd (upd iX0 20 1) 21 1) (up3 (up3 (up3 (up3 aX0 10 0 (xs 2)) 11 0 3) 12 0 (xs 1)) 13 0 2) ++ wM r g (upd iM1 22 1) (up2 (up2 (up3 (up2 aM1 18 (cp (aM1 17) (aM1 18) 165)) 18 164 (xs 2)) 22 y1842) 17 (cp ((up2 (up3 (up2 aM1 18 (cp (aM1 17) (aM1 18) 165)) 18 164 (xs 2)) 22 y1842) 18) ((up2 (up3 (up2 aM1 18 (cp (aM1 17) (aM1 18) 165)) 18 164 (xs 2)) 22 y1842) 17) 165)) lM1) 503 [(3, .int 0), (2, .ref (r 0)), (1, .ref (q 0)), (0, .ref b)] [.int 1, .int 1]
      exfalso; omega
    · show GW κ 4 82 21282 (wX q d (upd (upd iX0 20 1) 21 1) (up3 (up3 (up3 (up3 aX0 10 0 (xs 2)) 11 0 3) 12 0 (xs 1)) 13 0 2) ++ wM r g iM1 aM1 lM1) 503 [(3, .int 0), (2, .ref (r 0)), (1, .ref (q 0)), (0, .ref b)] [.int 0, .int 1]
      exfalso; omega
  · show GW κ 4 82 21282 (wM r g iM1 aM1 lM1 ++ wX q d iX0 aX0) 489 [(3, .int 0), (2, .ref (r 0)), (1, .ref (q 0)), (0, .ref b)] [.int 0]
    refine g_aload_n hk dL_law_489 rfl ?_
    refine g_aload_n hk dL_law_490 rfl ?_
    refine g_iload_n hk dL_law_491 rfl ?_
    refine g_iconst (v := 1) hk dL_law_492 (by decide) ?_
    refine g_iadd hk dL_law_493 ?_
    refine g_norm (v := 1) (by decide) ?_
    refine g_sld (v := xs 1) hk hX (vp_in_iff.mpr ⟨by decide, by show (1 : Int) < (L : Int); omega⟩) rfl dL_law_494 ?_
    refine g_aload_n hk dL_law_495 rfl ?_
    refine g_iload_n hk dL_law_496 rfl ?_
    refine g_iconst (v := 2) hk dL_law_497 (by decide) ?_
    refine g_iadd hk dL_law_498 ?_
    refine g_norm (v := 2) (by decide) ?_
    refine g_sld (v := xs 2) hk hX (vp_in_iff.mpr ⟨by decide, by show (2 : Int) < (L : Int); omega⟩) rfl dL_law_499 ?_
    refine g_callV (n := 2) hk (m149_X12_set l D zt g r (xs 1) (xs 2)) (SP.pre _ _) (fun q h => List.mem_append_right _ h) (gi_V zw_1702 zw_1703 zw_1704 zw_115 (gi_sub zi_m149_X12_set zg_m149_X12_set)) rfl rfl rfl (by decide +kernel) ⟨Nat.le_of_ble_eq_true rfl, Nat.le_of_ble_eq_true rfl⟩ 0 rfl rfl rfl rfl (Nat.le_of_ble_eq_true rfl) ⟨Nat.le_of_ble_eq_true rfl, Nat.le_of_ble_eq_true rfl⟩ dL_law_500 (fun v ty' w' hp hk' => ?_)
    rcases hp with ⟨c1859, rfl, rfl⟩ | ⟨c1860, c1861, rfl, rfl⟩ | ⟨c1862, c1863, c1864, c1865, c1866, rfl, rfl⟩ | ⟨c1867, c1868, c1869, c1870, c1871, c1872, rfl, rfl⟩ | ⟨y1873, c1874, c1875, c1876, c1877, c1878, c1879, rfl, rfl⟩ | ⟨c1880, c1881, c1882, c1883, rfl, rfl⟩ | ⟨c1884, c1885, c1886, c1887, c1888, c1889, rfl, rfl⟩ | ⟨c1890, c1891, c1892, c1893, c1894, c1895, c1896, rfl, rfl⟩ | ⟨y1897, c1898, c1899, c1900, c1901, c1902, c1903, c1904, rfl, rfl⟩ | ⟨c1905, c1906, c1907, c1908, c1909, rfl, rfl⟩ | ⟨c1910, c1911, c1912, c1913, c1914, c1915, c1916, rfl, rfl⟩ | ⟨c1917, c1918, c1919, c1920, c1921, c1922, c1923, c1924, rfl, rfl⟩ | ⟨y1925, c1926, c1927, c1928, c1929, c1930, c1931, c1932, c1933, rfl, rfl⟩ | ⟨c1934, c1935, c1936, c1937, c1938, c1939, rfl, rfl⟩ | ⟨c1940, c1941, c1942, c1943, c1944, c1945, c1946, c1947, rfl, rfl⟩ | ⟨c1948, c1949, c1950, c1951, c1952, c1953, c1954, c1955, c1956, rfl, rfl⟩ | ⟨y1957, c1958, c1959, c1960, c1961, c1962, c1963, c1964, c1965, c1966, rfl, rfl⟩ | ⟨c1967, c1968, c1969, c1970, c1971, c1972, c1973, rfl, rfl⟩
    · show GW κ 4 82 21282 (wX q d iX0 aX0 ++ wM r g iM1 aM1 lM1) 503 [(3, .int 0), (2, .ref (r 0)), (1, .ref (q 0)), (0, .ref b)] [.int 0, .int 0]
      exfalso; omega
    · show GW κ 4 82 21282 (wX q d iX0 aX0 ++ wM r g iM1 aM1 lM1) 503 [(3, .int 0), (2, .ref (r 0)), (1, .ref (q 0)), (0, .ref b)] [.int 0, .int 0]
      exfalso; omega
    · show GW κ 4 82 21282 (wX q d iX0 aX0 ++ wM r g iM1 aM1 lM1) 503 [(3, .int 0), (2, .ref (r 0)), (1, .ref (q 0)), (0, .ref b)] [.int 0, .int 0]
      exfalso; omega
    · show GW κ 4 82 21282 (wX q d iX0 aX0 ++ wM r g iM1 aM1 lM1) 503 [(3, .int 0), (2, .ref (r 0)), (1, .ref (q 0)), (0, .ref b)] [.int 0, .int 0]
      exfalso; omega
    · show GW κ 4 82 21282 (wX q d iX0 aX0 ++ wM r g (upd iM1 22 1) (up2 (up2 (up3 (up2 aM1 18 (cp (aM1 17) (aM1 18) 165)) 18 161 (xs 2)) 22 y1873) 17 (cp ((up2 (up3 (up2 aM1 18 (cp (aM1 17) (aM1 18) 165)) 18 161 (xs 2)) 22 y1873) 18) ((up2 (up3 (up2 aM1 18 (cp (aM1 17) (aM1 18) 165)) 18 161 (xs 2)) 22 y1873) 17) 165)) lM1) 503 [(3, .int 0), (2, .ref (r 0)), (1, .ref (q 0)), (0, .ref b)] [.int 1, .int 0]
      exfalso; omega
    · show GW κ 4 82 21282 (wX q d iX0 aX0 ++ wM r g iM1 aM1 lM1) 503 [(3, .int 0), (2, .ref (r 0)), (1, .ref (q 0)), (0, .ref b)] [.int 0, .int 0]
      refine g_icmp_eq (tgt := 1465) (a := 0) (b := 0) hk dL_law_503 (by decide) rfl rfl (fun _ => ?_) (fun z9 => absurd (show (0 : Int) = (0 : Int) from by decide) z9)
      exact tail _
    · show GW κ 4 82 21282 (wX q d iX0 aX0 ++ wM r g iM1 aM1 lM1) 503 [(3, .int 0), (2, .ref (r 0)), (1, .ref (q 0)), (0, .ref b)] [.int 0, .int 0]
      exfalso; omega
    · show GW κ 4 82 21282 (wX q d iX0 aX0 ++ wM r g iM1 aM1 lM1) 503 [(3, .int 0), (2, .ref (r 0)), (1, .ref (q 0)), (0, .ref b)] [.int 0, .int 0]
      exfalso; omega
    · show GW κ 4 82 21282 (wX q d iX0 aX0 ++ wM r g (upd iM1 22 1) (up2 (up2 (up3 (up2 aM1 18 (cp (aM1 17) (aM1 18) 165)) 18 162 (xs 2)) 22 y1897) 17 (cp ((up2 (up3 (up2 aM1 18 (cp (aM1 17) (aM1 18) 165)) 18 162 (xs 2)) 22 y1897) 18) ((up2 (up3 (up2 aM1 18 (cp (aM1 17) (aM1 18) 165)) 18 162 (xs 2)) 22 y1897) 17) 165)) lM1) 503 [(3, .int 0), (2, .ref (r 0)), (1, .ref (q 0)), (0, .ref b)] [.int 1, .int 0]
      exfalso; omega
    · show GW κ 4 82 21282 (wX q d iX0 aX0 ++ wM r g iM1 aM1 lM1) 503 [(3, .int 0), (2, .ref (r 0)), (1, .ref (q 0)), (0, .ref b)] [.int 0, .int 0]
      exfalso; omega
    · show GW κ 4 82 21282 (wX q d iX0 aX0 ++ wM r g iM1 aM1 lM1) 503 [(3, .int 0), (2, .ref (r 0)), (1, .ref (q 0)), (0, .ref b)] [.int 0, .int 0]
      exfalso; omega
    · show GW κ 4 82 21282 (wX q d iX0 aX0 ++ wM r g iM1 aM1 lM1) 503 [(3, .int 0), (2, .ref (r 0)), (1, .ref (q 0)), (0, .ref b)] [.int 0, .int 0]
      exfalso; omega
    · show GW κ 4 82 21282 (wX q d iX0 aX0 ++ wM r g (upd iM1 22 1) (up2 (up2 (up3 (up2 aM1 18 (cp (aM1 17) (aM1 18) 165)) 18 163 (xs 2)) 22 y1925) 17 (cp ((up2 (up3 (up2 aM1 18 (cp (aM1 17) (aM1 18) 165)) 18 163 (xs 2)) 22 y1925) 18) ((up2 (up3 (up2 aM1 18 (cp (aM1 17) (aM1 18) 165)) 18 163 (xs 2)) 22 y1925) 17) 165)) lM1) 503 [(3, .int 0), (2, .ref (r 0)), (1, .ref (q 0)), (0, .ref b)] [.int 1, .int 0]
      exfalso; omega
    · show GW κ 4 82 21282 (wX q d iX0 aX0 ++ wM r g iM1 aM1 lM1) 503 [(3, .int 0), (2, .ref (r 0)), (1, .ref (q 0)), (0, .ref b)] [.int 0, .int 0]
      exfalso; omega
    · show GW κ 4 82 21282 (wX q d iX0 aX0 ++ wM r g iM1 aM1 lM1) 503 [(3, .int 0), (2, .ref (r 0)), (1, .ref (q 0)), (0, .ref b)] [.int 0, .int 0]
      exfalso; omega
    · show GW κ 4 82 21282 (wX q d iX0 aX0 ++ wM r g iM1 aM1 lM1) 503 [(3, .int 0), (2, .ref (r 0)), (1, .ref (q 0)), (0, .ref b)] [.int 0, .int 0]
      exfalso; omega
    · show GW κ 4 82 21282 (wX q d iX0 aX0 ++ wM r g (upd iM1 22 1) (up2 (up2 (up3 (up2 aM1 18 (cp (aM1 17) (aM1 18) 165)) 18 164 (xs 2)) 22 y1957) 17 (cp ((up2 (up3 (up2 aM1 18 (cp (aM1 17) (aM1 18) 165)) 18 164 (xs 2)) 22 y1957) 18) ((up2 (up3 (up2 aM1 18 (cp (aM1 17) (aM1 18) 165)) 18 164 (xs 2)) 22 y1957) 17) 165)) lM1) 503 [(3, .int 0), (2, .ref (r 0)), (1, .ref (q 0)), (0, .ref b)] [.int 1, .int 0]
      exfalso; omega
    · show GW κ 4 82 21282 (wX q d iX0 aX0 ++ wM r g iM1 aM1 lM1) 503 [(3, .int 0), (2, .ref (r 0)), (1, .ref (q 0)), (0, .ref b)] [.int 0, .int 0]
      exfalso; omega
  · show GW κ 4 82 21282 (wM r g iM1 aM1 lM1 ++ wX q d iX0 aX0) 489 [(3, .int 0), (2, .ref (r 0)), (1, .ref (q 0)), (0, .ref b)] [.int 0]
    refine g_aload_n hk dL_law_489 rfl ?_
    refine g_aload_n hk dL_law_490 rfl ?_
    refine g_iload_n hk dL_law_491 rfl ?_
    refine g_iconst (v := 1) hk dL_law_492 (by decide) ?_
    refine g_iadd hk dL_law_493 ?_
    refine g_norm (v := 1) (by decide) ?_
    refine g_sld (v := xs 1) hk hX (vp_in_iff.mpr ⟨by decide, by show (1 : Int) < (L : Int); omega⟩) rfl dL_law_494 ?_
    refine g_aload_n hk dL_law_495 rfl ?_
    refine g_iload_n hk dL_law_496 rfl ?_
    refine g_iconst (v := 2) hk dL_law_497 (by decide) ?_
    refine g_iadd hk dL_law_498 ?_
    refine g_norm (v := 2) (by decide) ?_
    refine g_sld (v := xs 2) hk hX (vp_in_iff.mpr ⟨by decide, by show (2 : Int) < (L : Int); omega⟩) rfl dL_law_499 ?_
    refine g_callV (n := 2) hk (m149_X12_set l D zt g r (xs 1) (xs 2)) (SP.pre _ _) (fun q h => List.mem_append_right _ h) (gi_V zw_1702 zw_1703 zw_1704 zw_115 (gi_sub zi_m149_X12_set zg_m149_X12_set)) rfl rfl rfl (by decide +kernel) ⟨Nat.le_of_ble_eq_true rfl, Nat.le_of_ble_eq_true rfl⟩ 0 rfl rfl rfl rfl (Nat.le_of_ble_eq_true rfl) ⟨Nat.le_of_ble_eq_true rfl, Nat.le_of_ble_eq_true rfl⟩ dL_law_500 (fun v ty' w' hp hk' => ?_)
    rcases hp with ⟨c1974, rfl, rfl⟩ | ⟨c1975, c1976, rfl, rfl⟩ | ⟨c1977, c1978, c1979, c1980, c1981, rfl, rfl⟩ | ⟨c1982, c1983, c1984, c1985, c1986, c1987, rfl, rfl⟩ | ⟨y1988, c1989, c1990, c1991, c1992, c1993, c1994, rfl, rfl⟩ | ⟨c1995, c1996, c1997, c1998, rfl, rfl⟩ | ⟨c1999, c2000, c2001, c2002, c2003, c2004, rfl, rfl⟩ | ⟨c2005, c2006, c2007, c2008, c2009, c2010, c2011, rfl, rfl⟩ | ⟨y2012, c2013, c2014, c2015, c2016, c2017, c2018, c2019, rfl, rfl⟩ | ⟨c2020, c2021, c2022, c2023, c2024, rfl, rfl⟩ | ⟨c2025, c2026, c2027, c2028, c2029, c2030, c2031, rfl, rfl⟩ | ⟨c2032, c2033, c2034, c2035, c2036, c2037, c2038, c2039, rfl, rfl⟩ | ⟨y2040, c2041, c2042, c2043, c2044, c2045, c2046, c2047, c2048, rfl, rfl⟩ | ⟨c2049, c2050, c2051, c2052, c2053, c2054, rfl, rfl⟩ | ⟨c2055, c2056, c2057, c2058, c2059, c2060, c2061, c2062, rfl, rfl⟩ | ⟨c2063, c2064, c2065, c2066, c2067, c2068, c2069, c2070, c2071, rfl, rfl⟩ | ⟨y2072, c2073, c2074, c2075, c2076, c2077, c2078, c2079, c2080, c2081, rfl, rfl⟩ | ⟨c2082, c2083, c2084, c2085, c2086, c2087, c2088, rfl, rfl⟩
    · show GW κ 4 82 21282 (wX q d iX0 aX0 ++ wM r g iM1 aM1 lM1) 503 [(3, .int 0), (2, .ref (r 0)), (1, .ref (q 0)), (0, .ref b)] [.int 0, .int 0]
      exfalso; omega
    · show GW κ 4 82 21282 (wX q d iX0 aX0 ++ wM r g iM1 aM1 lM1) 503 [(3, .int 0), (2, .ref (r 0)), (1, .ref (q 0)), (0, .ref b)] [.int 0, .int 0]
      exfalso; omega
    · show GW κ 4 82 21282 (wX q d iX0 aX0 ++ wM r g iM1 aM1 lM1) 503 [(3, .int 0), (2, .ref (r 0)), (1, .ref (q 0)), (0, .ref b)] [.int 0, .int 0]
      exfalso; omega
    · show GW κ 4 82 21282 (wX q d iX0 aX0 ++ wM r g iM1 aM1 lM1) 503 [(3, .int 0), (2, .ref (r 0)), (1, .ref (q 0)), (0, .ref b)] [.int 0, .int 0]
      exfalso; omega
    · show GW κ 4 82 21282 (wX q d iX0 aX0 ++ wM r g (upd iM1 22 1) (up2 (up2 (up3 (up2 aM1 18 (cp (aM1 17) (aM1 18) 165)) 18 161 (xs 2)) 22 y1988) 17 (cp ((up2 (up3 (up2 aM1 18 (cp (aM1 17) (aM1 18) 165)) 18 161 (xs 2)) 22 y1988) 18) ((up2 (up3 (up2 aM1 18 (cp (aM1 17) (aM1 18) 165)) 18 161 (xs 2)) 22 y1988) 17) 165)) lM1) 503 [(3, .int 0), (2, .ref (r 0)), (1, .ref (q 0)), (0, .ref b)] [.int 1, .int 0]
      exfalso; omega
    · show GW κ 4 82 21282 (wX q d iX0 aX0 ++ wM r g iM1 aM1 lM1) 503 [(3, .int 0), (2, .ref (r 0)), (1, .ref (q 0)), (0, .ref b)] [.int 0, .int 0]
      exfalso; omega
    · show GW κ 4 82 21282 (wX q d iX0 aX0 ++ wM r g iM1 aM1 lM1) 503 [(3, .int 0), (2, .ref (r 0)), (1, .ref (q 0)), (0, .ref b)] [.int 0, .int 0]
      refine g_icmp_eq (tgt := 1465) (a := 0) (b := 0) hk dL_law_503 (by decide) rfl rfl (fun _ => ?_) (fun z9 => absurd (show (0 : Int) = (0 : Int) from by decide) z9)
      exact tail _
    · show GW κ 4 82 21282 (wX q d iX0 aX0 ++ wM r g iM1 aM1 lM1) 503 [(3, .int 0), (2, .ref (r 0)), (1, .ref (q 0)), (0, .ref b)] [.int 0, .int 0]
      exfalso; omega
    · show GW κ 4 82 21282 (wX q d iX0 aX0 ++ wM r g (upd iM1 22 1) (up2 (up2 (up3 (up2 aM1 18 (cp (aM1 17) (aM1 18) 165)) 18 162 (xs 2)) 22 y2012) 17 (cp ((up2 (up3 (up2 aM1 18 (cp (aM1 17) (aM1 18) 165)) 18 162 (xs 2)) 22 y2012) 18) ((up2 (up3 (up2 aM1 18 (cp (aM1 17) (aM1 18) 165)) 18 162 (xs 2)) 22 y2012) 17) 165)) lM1) 503 [(3, .int 0), (2, .ref (r 0)), (1, .ref (q 0)), (0, .ref b)] [.int 1, .int 0]
      exfalso; omega
    · show GW κ 4 82 21282 (wX q d iX0 aX0 ++ wM r g iM1 aM1 lM1) 503 [(3, .int 0), (2, .ref (r 0)), (1, .ref (q 0)), (0, .ref b)] [.int 0, .int 0]
      exfalso; omega
    · show GW κ 4 82 21282 (wX q d iX0 aX0 ++ wM r g iM1 aM1 lM1) 503 [(3, .int 0), (2, .ref (r 0)), (1, .ref (q 0)), (0, .ref b)] [.int 0, .int 0]
      exfalso; omega
    · show GW κ 4 82 21282 (wX q d iX0 aX0 ++ wM r g iM1 aM1 lM1) 503 [(3, .int 0), (2, .ref (r 0)), (1, .ref (q 0)), (0, .ref b)] [.int 0, .int 0]
      exfalso; omega
    · show GW κ 4 82 21282 (wX q d iX0 aX0 ++ wM r g (upd iM1 22 1) (up2 (up2 (up3 (up2 aM1 18 (cp (aM1 17) (aM1 18) 165)) 18 163 (xs 2)) 22 y2040) 17 (cp ((up2 (up3 (up2 aM1 18 (cp (aM1 17) (aM1 18) 165)) 18 163 (xs 2)) 22 y2040) 18) ((up2 (up3 (up2 aM1 18 (cp (aM1 17) (aM1 18) 165)) 18 163 (xs 2)) 22 y2040) 17) 165)) lM1) 503 [(3, .int 0), (2, .ref (r 0)), (1, .ref (q 0)), (0, .ref b)] [.int 1, .int 0]
      exfalso; omega
    · show GW κ 4 82 21282 (wX q d iX0 aX0 ++ wM r g iM1 aM1 lM1) 503 [(3, .int 0), (2, .ref (r 0)), (1, .ref (q 0)), (0, .ref b)] [.int 0, .int 0]
      exfalso; omega
    · show GW κ 4 82 21282 (wX q d iX0 aX0 ++ wM r g iM1 aM1 lM1) 503 [(3, .int 0), (2, .ref (r 0)), (1, .ref (q 0)), (0, .ref b)] [.int 0, .int 0]
      exfalso; omega
    · show GW κ 4 82 21282 (wX q d iX0 aX0 ++ wM r g iM1 aM1 lM1) 503 [(3, .int 0), (2, .ref (r 0)), (1, .ref (q 0)), (0, .ref b)] [.int 0, .int 0]
      exfalso; omega
    · show GW κ 4 82 21282 (wX q d iX0 aX0 ++ wM r g (upd iM1 22 1) (up2 (up2 (up3 (up2 aM1 18 (cp (aM1 17) (aM1 18) 165)) 18 164 (xs 2)) 22 y2072) 17 (cp ((up2 (up3 (up2 aM1 18 (cp (aM1 17) (aM1 18) 165)) 18 164 (xs 2)) 22 y2072) 18) ((up2 (up3 (up2 aM1 18 (cp (aM1 17) (aM1 18) 165)) 18 164 (xs 2)) 22 y2072) 17) 165)) lM1) 503 [(3, .int 0), (2, .ref (r 0)), (1, .ref (q 0)), (0, .ref b)] [.int 1, .int 0]
      exfalso; omega
    · show GW κ 4 82 21282 (wX q d iX0 aX0 ++ wM r g iM1 aM1 lM1) 503 [(3, .int 0), (2, .ref (r 0)), (1, .ref (q 0)), (0, .ref b)] [.int 0, .int 0]
      exfalso; omega
  · show GW κ 4 82 21282 (wM r g iM1 aM1 lM1 ++ wX q d iX0 aX0) 489 [(3, .int 0), (2, .ref (r 0)), (1, .ref (q 0)), (0, .ref b)] [.int 0]
    refine g_aload_n hk dL_law_489 rfl ?_
    refine g_aload_n hk dL_law_490 rfl ?_
    refine g_iload_n hk dL_law_491 rfl ?_
    refine g_iconst (v := 1) hk dL_law_492 (by decide) ?_
    refine g_iadd hk dL_law_493 ?_
    refine g_norm (v := 1) (by decide) ?_
    refine g_sld (v := xs 1) hk hX (vp_in_iff.mpr ⟨by decide, by show (1 : Int) < (L : Int); omega⟩) rfl dL_law_494 ?_
    refine g_aload_n hk dL_law_495 rfl ?_
    refine g_iload_n hk dL_law_496 rfl ?_
    refine g_iconst (v := 2) hk dL_law_497 (by decide) ?_
    refine g_iadd hk dL_law_498 ?_
    refine g_norm (v := 2) (by decide) ?_
    refine g_sld (v := xs 2) hk hX (vp_in_iff.mpr ⟨by decide, by show (2 : Int) < (L : Int); omega⟩) rfl dL_law_499 ?_
    refine g_callV (n := 2) hk (m149_X12_set l D zt g r (xs 1) (xs 2)) (SP.pre _ _) (fun q h => List.mem_append_right _ h) (gi_V zw_1702 zw_1703 zw_1704 zw_115 (gi_sub zi_m149_X12_set zg_m149_X12_set)) rfl rfl rfl (by decide +kernel) ⟨Nat.le_of_ble_eq_true rfl, Nat.le_of_ble_eq_true rfl⟩ 0 rfl rfl rfl rfl (Nat.le_of_ble_eq_true rfl) ⟨Nat.le_of_ble_eq_true rfl, Nat.le_of_ble_eq_true rfl⟩ dL_law_500 (fun v ty' w' hp hk' => ?_)
    rcases hp with ⟨c2089, rfl, rfl⟩ | ⟨c2090, c2091, rfl, rfl⟩ | ⟨c2092, c2093, c2094, c2095, c2096, rfl, rfl⟩ | ⟨c2097, c2098, c2099, c2100, c2101, c2102, rfl, rfl⟩ | ⟨y2103, c2104, c2105, c2106, c2107, c2108, c2109, rfl, rfl⟩ | ⟨c2110, c2111, c2112, c2113, rfl, rfl⟩ | ⟨c2114, c2115, c2116, c2117, c2118, c2119, rfl, rfl⟩ | ⟨c2120, c2121, c2122, c2123, c2124, c2125, c2126, rfl, rfl⟩ | ⟨y2127, c2128, c2129, c2130, c2131, c2132, c2133, c2134, rfl, rfl⟩ | ⟨c2135, c2136, c2137, c2138, c2139, rfl, rfl⟩ | ⟨c2140, c2141, c2142, c2143, c2144, c2145, c2146, rfl, rfl⟩ | ⟨c2147, c2148, c2149, c2150, c2151, c2152, c2153, c2154, rfl, rfl⟩ | ⟨y2155, c2156, c2157, c2158, c2159, c2160, c2161, c2162, c2163, rfl, rfl⟩ | ⟨c2164, c2165, c2166, c2167, c2168, c2169, rfl, rfl⟩ | ⟨c2170, c2171, c2172, c2173, c2174, c2175, c2176, c2177, rfl, rfl⟩ | ⟨c2178, c2179, c2180, c2181, c2182, c2183, c2184, c2185, c2186, rfl, rfl⟩ | ⟨y2187, c2188, c2189, c2190, c2191, c2192, c2193, c2194, c2195, c2196, rfl, rfl⟩ | ⟨c2197, c2198, c2199, c2200, c2201, c2202, c2203, rfl, rfl⟩
    · show GW κ 4 82 21282 (wX q d iX0 aX0 ++ wM r g iM1 aM1 lM1) 503 [(3, .int 0), (2, .ref (r 0)), (1, .ref (q 0)), (0, .ref b)] [.int 0, .int 0]
      exfalso; omega
    · show GW κ 4 82 21282 (wX q d iX0 aX0 ++ wM r g iM1 aM1 lM1) 503 [(3, .int 0), (2, .ref (r 0)), (1, .ref (q 0)), (0, .ref b)] [.int 0, .int 0]
      exfalso; omega
    · show GW κ 4 82 21282 (wX q d iX0 aX0 ++ wM r g iM1 aM1 lM1) 503 [(3, .int 0), (2, .ref (r 0)), (1, .ref (q 0)), (0, .ref b)] [.int 0, .int 0]
      exfalso; omega
    · show GW κ 4 82 21282 (wX q d iX0 aX0 ++ wM r g iM1 aM1 lM1) 503 [(3, .int 0), (2, .ref (r 0)), (1, .ref (q 0)), (0, .ref b)] [.int 0, .int 0]
      exfalso; omega
    · show GW κ 4 82 21282 (wX q d iX0 aX0 ++ wM r g (upd iM1 22 1) (up2 (up2 (up3 (up2 aM1 18 (cp (aM1 17) (aM1 18) 165)) 18 161 (xs 2)) 22 y2103) 17 (cp ((up2 (up3 (up2 aM1 18 (cp (aM1 17) (aM1 18) 165)) 18 161 (xs 2)) 22 y2103) 18) ((up2 (up3 (up2 aM1 18 (cp (aM1 17) (aM1 18) 165)) 18 161 (xs 2)) 22 y2103) 17) 165)) lM1) 503 [(3, .int 0), (2, .ref (r 0)), (1, .ref (q 0)), (0, .ref b)] [.int 1, .int 0]
      exfalso; omega
    · show GW κ 4 82 21282 (wX q d iX0 aX0 ++ wM r g iM1 aM1 lM1) 503 [(3, .int 0), (2, .ref (r 0)), (1, .ref (q 0)), (0, .ref b)] [.int 0, .int 0]
      exfalso; omega
    · show GW κ 4 82 21282 (wX q d iX0 aX0 ++ wM r g iM1 aM1 lM1) 503 [(3, .int 0), (2, .ref (r 0)), (1, .ref (q 0)), (0, .ref b)] [.int 0, .int 0]
      exfalso; omega
    · show GW κ 4 82 21282 (wX q d iX0 aX0 ++ wM r g iM1 aM1 lM1) 503 [(3, .int 0), (2, .ref (r 0)), (1, .ref (q 0)), (0, .ref b)] [.int 0, .int 0]
      refine g_icmp_eq (tgt := 1465) (a := 0) (b := 0) hk dL_law_503 (by decide) rfl rfl (fun _ => ?_) (fun z9 => absurd (show (0 : Int) = (0 : Int) from by decide) z9)
      exact tail _
    · show GW κ 4 82 21282 (wX q d iX0 aX0 ++ wM r g (upd iM1 22 1) (up2 (up2 (up3 (up2 aM1 18 (cp (aM1 17) (aM1 18) 165)) 18 162 (xs 2)) 22 y2127) 17 (cp ((up2 (up3 (up2 aM1 18 (cp (aM1 17) (aM1 18) 165)) 18 162 (xs 2)) 22 y2127) 18) ((up2 (up3 (up2 aM1 18 (cp (aM1 17) (aM1 18) 165)) 18 162 (xs 2)) 22 y2127) 17) 165)) lM1) 503 [(3, .int 0), (2, .ref (r 0)), (1, .ref (q 0)), (0, .ref b)] [.int 1, .int 0]
      exfalso; omega
    · show GW κ 4 82 21282 (wX q d iX0 aX0 ++ wM r g iM1 aM1 lM1) 503 [(3, .int 0), (2, .ref (r 0)), (1, .ref (q 0)), (0, .ref b)] [.int 0, .int 0]
      exfalso; omega
    · show GW κ 4 82 21282 (wX q d iX0 aX0 ++ wM r g iM1 aM1 lM1) 503 [(3, .int 0), (2, .ref (r 0)), (1, .ref (q 0)), (0, .ref b)] [.int 0, .int 0]
      exfalso; omega
    · show GW κ 4 82 21282 (wX q d iX0 aX0 ++ wM r g iM1 aM1 lM1) 503 [(3, .int 0), (2, .ref (r 0)), (1, .ref (q 0)), (0, .ref b)] [.int 0, .int 0]
      exfalso; omega
    · show GW κ 4 82 21282 (wX q d iX0 aX0 ++ wM r g (upd iM1 22 1) (up2 (up2 (up3 (up2 aM1 18 (cp (aM1 17) (aM1 18) 165)) 18 163 (xs 2)) 22 y2155) 17 (cp ((up2 (up3 (up2 aM1 18 (cp (aM1 17) (aM1 18) 165)) 18 163 (xs 2)) 22 y2155) 18) ((up2 (up3 (up2 aM1 18 (cp (aM1 17) (aM1 18) 165)) 18 163 (xs 2)) 22 y2155) 17) 165)) lM1) 503 [(3, .int 0), (2, .ref (r 0)), (1, .ref (q 0)), (0, .ref b)] [.int 1, .int 0]
      exfalso; omega
    · show GW κ 4 82 21282 (wX q d iX0 aX0 ++ wM r g iM1 aM1 lM1) 503 [(3, .int 0), (2, .ref (r 0)), (1, .ref (q 0)), (0, .ref b)] [.int 0, .int 0]
      exfalso; omega
    · show GW κ 4 82 21282 (wX q d iX0 aX0 ++ wM r g iM1 aM1 lM1) 503 [(3, .int 0), (2, .ref (r 0)), (1, .ref (q 0)), (0, .ref b)] [.int 0, .int 0]
      exfalso; omega
    · show GW κ 4 82 21282 (wX q d iX0 aX0 ++ wM r g iM1 aM1 lM1) 503 [(3, .int 0), (2, .ref (r 0)), (1, .ref (q 0)), (0, .ref b)] [.int 0, .int 0]
      exfalso; omega
    · show GW κ 4 82 21282 (wX q d iX0 aX0 ++ wM r g (upd iM1 22 1) (up2 (up2 (up3 (up2 aM1 18 (cp (aM1 17) (aM1 18) 165)) 18 164 (xs 2)) 22 y2187) 17 (cp ((up2 (up3 (up2 aM1 18 (cp (aM1 17) (aM1 18) 165)) 18 164 (xs 2)) 22 y2187) 18) ((up2 (up3 (up2 aM1 18 (cp (aM1 17) (aM1 18) 165)) 18 164 (xs 2)) 22 y2187) 17) 165)) lM1) 503 [(3, .int 0), (2, .ref (r 0)), (1, .ref (q 0)), (0, .ref b)] [.int 1, .int 0]
      exfalso; omega
    · show GW κ 4 82 21282 (wX q d iX0 aX0 ++ wM r g iM1 aM1 lM1) 503 [(3, .int 0), (2, .ref (r 0)), (1, .ref (q 0)), (0, .ref b)] [.int 0, .int 0]
      exfalso; omega
  · show GW κ 4 82 21282 (wM r g iM1 aM1 lM1 ++ wX q d (upd (upd iX0 20 1) 21 1) (up3 (up3 (up3 aX0 10 1 (xs 2)) 11 0 3) 12 0 (xs 1))) 489 [(3, .int 0), (2, .ref (r 0)), (1, .ref (q 0)), (0, .ref b)] [.int 1]
    refine g_aload_n hk dL_law_489 rfl ?_
    refine g_aload_n hk dL_law_490 rfl ?_
    refine g_iload_n hk dL_law_491 rfl ?_
    refine g_iconst (v := 1) hk dL_law_492 (by decide) ?_
    refine g_iadd hk dL_law_493 ?_
    refine g_norm (v := 1) (by decide) ?_
    refine g_sld (v := xs 1) hk hX (vp_in_iff.mpr ⟨by decide, by show (1 : Int) < (L : Int); omega⟩) rfl dL_law_494 ?_
    refine g_aload_n hk dL_law_495 rfl ?_
    refine g_iload_n hk dL_law_496 rfl ?_
    refine g_iconst (v := 2) hk dL_law_497 (by decide) ?_
    refine g_iadd hk dL_law_498 ?_
    refine g_norm (v := 2) (by decide) ?_
    refine g_sld (v := xs 2) hk hX (vp_in_iff.mpr ⟨by decide, by show (2 : Int) < (L : Int); omega⟩) rfl dL_law_499 ?_
    refine g_callV (n := 2) hk (m149_X12_set l D zt g r (xs 1) (xs 2)) (SP.pre _ _) (fun q h => List.mem_append_right _ h) (gi_V zw_1702 zw_1703 zw_1704 zw_115 (gi_sub zi_m149_X12_set zg_m149_X12_set)) rfl rfl rfl (by decide +kernel) ⟨Nat.le_of_ble_eq_true rfl, Nat.le_of_ble_eq_true rfl⟩ 0 rfl rfl rfl rfl (Nat.le_of_ble_eq_true rfl) ⟨Nat.le_of_ble_eq_true rfl, Nat.le_of_ble_eq_true rfl⟩ dL_law_500 (fun v ty' w' hp hk' => ?_)
    rcases hp with ⟨c2204, rfl, rfl⟩ | ⟨c2205, c2206, rfl, rfl⟩ | ⟨c2207, c2208, c2209, c2210, c2211, rfl, rfl⟩ | ⟨c2212, c2213, c2214, c2215, c2216, c2217, rfl, rfl⟩ | ⟨y2218, c2219, c2220, c2221, c2222, c2223, c2224, rfl, rfl⟩ | ⟨c2225, c2226, c2227, c2228, rfl, rfl⟩ | ⟨c2229, c2230, c2231, c2232, c2233, c2234, rfl, rfl⟩ | ⟨c2235, c2236, c2237, c2238, c2239, c2240, c2241, rfl, rfl⟩ | ⟨y2242, c2243, c2244, c2245, c2246, c2247, c2248, c2249, rfl, rfl⟩ | ⟨c2250, c2251, c2252, c2253, c2254, rfl, rfl⟩ | ⟨c2255, c2256, c2257, c2258, c2259, c2260, c2261, rfl, rfl⟩ | ⟨c2262, c2263, c2264, c2265, c2266, c2267, c2268, c2269, rfl, rfl⟩ | ⟨y2270, c2271, c2272, c2273, c2274, c2275, c2276, c2277, c2278, rfl, rfl⟩ | ⟨c2279, c2280, c2281, c2282, c2283, c2284, rfl, rfl⟩ | ⟨c2285, c2286, c2287, c2288, c2289, c2290, c2291, c2292, rfl, rfl⟩ | ⟨c2293, c2294, c2295, c2296, c2297, c2298, c2299, c2300, c2301, rfl, rfl⟩ | ⟨y2302, c2303, c2304, c2305, c2306, c2307, c2308, c2309, c2310, c2311, rfl, rfl⟩ | ⟨c2312, c2313, c2314, c2315, c2316, c2317, c2318, rfl, rfl⟩
    · show GW κ 4 82 21282 (wX q d (upd (upd iX0 20 1) 21 1) (up3 (up3 (up3 aX0 10 1 (xs 2)) 11 0 3) 12 0 (xs 1)) ++ wM r g iM1 aM1 lM1) 503 [(3, .int 0), (2, .ref (r 0)), (1, .ref (q 0)), (0, .ref b)] [.int 0, .int 1]
      exfalso; omega
    · show GW κ 4 82 21282 (wX q d (upd (upd iX0 20 1) 21 1) (up3 (up3 (up3 aX0 10 1 (xs 2)) 11 0 3) 12 0 (xs 1)) ++ wM r g iM1 aM1 lM1) 503 [(3, .int 0), (2, .ref (r 0)), (1, .ref (q 0)), (0, .ref b)] [.int 0, .int 1]
      exfalso; omega
    · show GW κ 4 82 21282 (wX q d (upd (upd iX0 20 1) 21 1) (up3 (up3 (up3 aX0 10 1 (xs 2)) 11 0 3) 12 0 (xs 1)) ++ wM r g iM1 aM1 lM1) 503 [(3, .int 0), (2, .ref (r 0)), (1, .ref (q 0)), (0, .ref b)] [.int 0, .int 1]
      exfalso; omega
    · show GW κ 4 82 21282 (wX q d (upd (upd iX0 20 1) 21 1) (up3 (up3 (up3 aX0 10 1 (xs 2)) 11 0 3) 12 0 (xs 1)) ++ wM r g iM1 aM1 lM1) 503 [(3, .int 0), (2, .ref (r 0)), (1, .ref (q 0)), (0, .ref b)] [.int 0, .int 1]
      exfalso; omega
    · show GW κ 4 82 21282 (wX q d (upd (upd iX0 20 1) 21 1) (up3 (up3 (up3 aX0 10 1 (xs 2)) 11 0 3) 12 0 (xs 1)) ++ wM r g (upd iM1 22 1) (up2 (up2 (up3 (up2 aM1 18 (cp (aM1 17) (aM1 18) 165)) 18 161 (xs 2)) 22 y2218) 17 (cp ((up2 (up3 (up2 aM1 18 (cp (aM1 17) (aM1 18) 165)) 18 161 (xs 2)) 22 y2218) 18) ((up2 (up3 (up2 aM1 18 (cp (aM1 17) (aM1 18) 165)) 18 161 (xs 2)) 22 y2218) 17) 165)) lM1) 503 [(3, .int 0), (2, .ref (r 0)), (1, .ref (q 0)), (0, .ref b)] [.int 1, .int 1]
      exfalso; omega
    · show GW κ 4 82 21282 (wX q d (upd (upd iX0 20 1) 21 1) (up3 (up3 (up3 aX0 10 1 (xs 2)) 11 0 3) 12 0 (xs 1)) ++ wM r g iM1 aM1 lM1) 503 [(3, .int 0), (2, .ref (r 0)), (1, .ref (q 0)), (0, .ref b)] [.int 0, .int 1]
      exfalso; omega
    · show GW κ 4 82 21282 (wX q d (upd (upd iX0 20 1) 21 1) (up3 (up3 (up3 aX0 10 1 (xs 2)) 11 0 3) 12 0 (xs 1)) ++ wM r g iM1 aM1 lM1) 503 [(3, .int 0), (2, .ref (r 0)), (1, .ref (q 0)), (0, .ref b)] [.int 0, .int 1]
      exfalso; omega
    · show GW κ 4 82 21282 (wX q d (upd (upd iX0 20 1) 21 1) (up3 (up3 (up3 aX0 10 1 (xs 2)) 11 0 3) 12 0 (xs 1)) ++ wM r g iM1 aM1 lM1) 503 [(3, .int 0), (2, .ref (r 0)), (1, .ref (q 0)), (0, .ref b)] [.int 0, .int 1]
      exfalso; omega
    · show GW κ 4 82 21282 (wX q d (upd (upd iX0 20 1) 21 1) (up3 (up3 (up3 aX0 10 1 (xs 2)) 11 0 3) 12 0 (xs 1)) ++ wM r g (upd iM1 22 1) (up2 (up2 (up3 (up2 aM1 18 (cp (aM1 17) (aM1 18) 165)) 18 162 (xs 2)) 22 y2242) 17 (cp ((up2 (up3 (up2 aM1 18 (cp (aM1 17) (aM1 18) 165)) 18 162 (xs 2)) 22 y2242) 18) ((up2 (up3 (up2 aM1 18 (cp (aM1 17) (aM1 18) 165)) 18 162 (xs 2)) 22 y2242) 17) 165)) lM1) 503 [(3, .int 0), (2, .ref (r 0)), (1, .ref (q 0)), (0, .ref b)] [.int 1, .int 1]
      refine g_icmp_eq (tgt := 1465) (a := 1) (b := 1) hk dL_law_503 (by decide) rfl rfl (fun _ => ?_) (fun z9 => absurd (show (1 : Int) = (1 : Int) from by decide) z9)
      exact tail _
    · show GW κ 4 82 21282 (wX q d (upd (upd iX0 20 1) 21 1) (up3 (up3 (up3 aX0 10 1 (xs 2)) 11 0 3) 12 0 (xs 1)) ++ wM r g iM1 aM1 lM1) 503 [(3, .int 0), (2, .ref (r 0)), (1, .ref (q 0)), (0, .ref b)] [.int 0, .int 1]
      exfalso; omega
    · show GW κ 4 82 21282 (wX q d (upd (upd iX0 20 1) 21 1) (up3 (up3 (up3 aX0 10 1 (xs 2)) 11 0 3) 12 0 (xs 1)) ++ wM r g iM1 aM1 lM1) 503 [(3, .int 0), (2, .ref (r 0)), (1, .ref (q 0)), (0, .ref b)] [.int 0, .int 1]
      exfalso; omega
    · show GW κ 4 82 21282 (wX q d (upd (upd iX0 20 1) 21 1) (up3 (up3 (up3 aX0 10 1 (xs 2)) 11 0 3) 12 0 (xs 1)) ++ wM r g iM1 aM1 lM1) 503 [(3, .int 0), (2, .ref (r 0)), (1, .ref (q 0)), (0, .ref b)] [.int 0, .int 1]
      exfalso; omega
    · show GW κ 4 82 21282 (wX q d (upd (upd iX0 20 1) 21 1) (up3 (up3 (up3 aX0 10 1 (xs 2)) 11 0 3) 12 0 (xs 1)) ++ wM r g (upd iM1 22 1) (up2 (up2 (up3 (up2 aM1 18 (cp (aM1 17) (aM1 18) 165)) 18 163 (xs 2)) 22 y2270) 17 (cp ((up2 (up3 (up2 aM1 18 (cp (aM1 17) (aM1 18) 165)) 18 163 (xs 2)) 22 y2270) 18) ((up2 (up3 (up2 aM1 18 (cp (aM1 17) (aM1 18) 165)) 18 163 (xs 2)) 22 y2270) 17) 165)) lM1) 503 [(3, .int 0), (2, .ref (r 0)), (1, .ref (q 0)), (0, .ref b)] [.int 1, .int 1]
      exfalso; omega
    · show GW κ 4 82 21282 (wX q d (upd (upd iX0 20 1) 21 1) (up3 (up3 (up3 aX0 10 1 (xs 2)) 11 0 3) 12 0 (xs 1)) ++ wM r g iM1 aM1 lM1) 503 [(3, .int 0), (2, .ref (r 0)), (1, .ref (q 0)), (0, .ref b)] [.int 0, .int 1]
      exfalso; omega
    · show GW κ 4 82 21282 (wX q d (upd (upd iX0 20 1) 21 1) (up3 (up3 (up3 aX0 10 1 (xs 2)) 11 0 3) 12 0 (xs 1)) ++ wM r g iM1 aM1 lM1) 503 [(3, .int 0), (2, .ref (r 0)), (1, .ref (q 0)), (0, .ref b)] [.int 0, .int 1]
      exfalso; omega
    · show GW κ 4 82 21282 (wX q d (upd (upd iX0 20 1) 21 1) (up3 (up3 (up3 aX0 10 1 (xs 2)) 11 0 3) 12 0 (xs 1)) ++ wM r g iM1 aM1 lM1) 503 [(3, .int 0), (2, .ref (r 0)), (1, .ref (q 0)), (0, .ref b)] [.int 0, .int 1]
      exfalso; omega
    · show GW κ 4 82 21282 (wX q d (upd (upd iX0 20 1) 21 1) (up3 (up3 (up3 aX0 10 1 (xs 2)) 11 0 3) 12 0 (xs 1)) ++ wM r g (upd iM1 22 1) (up2 (up2 (up3 (up2 aM1 18 (cp (aM1 17) (aM1 18) 165)) 18 164 (xs 2)) 22 y2302) 17 (cp ((up2 (up3 (up2 aM1 18 (cp (aM1 17) (aM1 18) 165)) 18 164 (xs 2)) 22 y2302) 18) ((up2 (up3 (up2 aM1 18 (cp (aM1 17) (aM1 18) 165)) 18 164 (xs 2)) 22 y2302) 17) 165)) lM1) 503 [(3, .int 0), (2, .ref (r 0)), (1, .ref (q 0)), (0, .ref b)] [.int 1, .int 1]
      exfalso; omega
    · show GW κ 4 82 21282 (wX q d (upd (upd iX0 20 1) 21 1) (up3 (up3 (up3 aX0 10 1 (xs 2)) 11 0 3) 12 0 (xs 1)) ++ wM r g iM1 aM1 lM1) 503 [(3, .int 0), (2, .ref (r 0)), (1, .ref (q 0)), (0, .ref b)] [.int 0, .int 1]
      exfalso; omega
  · show GW κ 4 82 21282 (wM r g iM1 aM1 lM1 ++ wX q d iX0 aX0) 489 [(3, .int 0), (2, .ref (r 0)), (1, .ref (q 0)), (0, .ref b)] [.int 0]
    refine g_aload_n hk dL_law_489 rfl ?_
    refine g_aload_n hk dL_law_490 rfl ?_
    refine g_iload_n hk dL_law_491 rfl ?_
    refine g_iconst (v := 1) hk dL_law_492 (by decide) ?_
    refine g_iadd hk dL_law_493 ?_
    refine g_norm (v := 1) (by decide) ?_
    refine g_sld (v := xs 1) hk hX (vp_in_iff.mpr ⟨by decide, by show (1 : Int) < (L : Int); omega⟩) rfl dL_law_494 ?_
    refine g_aload_n hk dL_law_495 rfl ?_
    refine g_iload_n hk dL_law_496 rfl ?_
    refine g_iconst (v := 2) hk dL_law_497 (by decide) ?_
    refine g_iadd hk dL_law_498 ?_
    refine g_norm (v := 2) (by decide) ?_
    refine g_sld (v := xs 2) hk hX (vp_in_iff.mpr ⟨by decide, by show (2 : Int) < (L : Int); omega⟩) rfl dL_law_499 ?_
    refine g_callV (n := 2) hk (m149_X12_set l D zt g r (xs 1) (xs 2)) (SP.pre _ _) (fun q h => List.mem_append_right _ h) (gi_V zw_1702 zw_1703 zw_1704 zw_115 (gi_sub zi_m149_X12_set zg_m149_X12_set)) rfl rfl rfl (by decide +kernel) ⟨Nat.le_of_ble_eq_true rfl, Nat.le_of_ble_eq_true rfl⟩ 0 rfl rfl rfl rfl (Nat.le_of_ble_eq_true rfl) ⟨Nat.le_of_ble_eq_true rfl, Nat.le_of_ble_eq_true rfl⟩ dL_law_500 (fun v ty' w' hp hk' => ?_)
    rcases hp with ⟨c2319, rfl, rfl⟩ | ⟨c2320, c2321, rfl, rfl⟩ | ⟨c2322, c2323, c2324, c2325, c2326, rfl, rfl⟩ | ⟨c2327, c2328, c2329, c2330, c2331, c2332, rfl, rfl⟩ | ⟨y2333, c2334, c2335, c2336, c2337, c2338, c2339, rfl, rfl⟩ | ⟨c2340, c2341, c2342, c2343, rfl, rfl⟩ | ⟨c2344, c2345, c2346, c2347, c2348, c2349, rfl, rfl⟩ | ⟨c2350, c2351, c2352, c2353, c2354, c2355, c2356, rfl, rfl⟩ | ⟨y2357, c2358, c2359, c2360, c2361, c2362, c2363, c2364, rfl, rfl⟩ | ⟨c2365, c2366, c2367, c2368, c2369, rfl, rfl⟩ | ⟨c2370, c2371, c2372, c2373, c2374, c2375, c2376, rfl, rfl⟩ | ⟨c2377, c2378, c2379, c2380, c2381, c2382, c2383, c2384, rfl, rfl⟩ | ⟨y2385, c2386, c2387, c2388, c2389, c2390, c2391, c2392, c2393, rfl, rfl⟩ | ⟨c2394, c2395, c2396, c2397, c2398, c2399, rfl, rfl⟩ | ⟨c2400, c2401, c2402, c2403, c2404, c2405, c2406, c2407, rfl, rfl⟩ | ⟨c2408, c2409, c2410, c2411, c2412, c2413, c2414, c2415, c2416, rfl, rfl⟩ | ⟨y2417, c2418, c2419, c2420, c2421, c2422, c2423, c2424, c2425, c2426, rfl, rfl⟩ | ⟨c2427, c2428, c2429, c2430, c2431, c2432, c2433, rfl, rfl⟩
    · show GW κ 4 82 21282 (wX q d iX0 aX0 ++ wM r g iM1 aM1 lM1) 503 [(3, .int 0), (2, .ref (r 0)), (1, .ref (q 0)), (0, .ref b)] [.int 0, .int 0]
      exfalso; omega
    · show GW κ 4 82 21282 (wX q d iX0 aX0 ++ wM r g iM1 aM1 lM1) 503 [(3, .int 0), (2, .ref (r 0)), (1, .ref (q 0)), (0, .ref b)] [.int 0, .int 0]
      exfalso; omega
    · show GW κ 4 82 21282 (wX q d iX0 aX0 ++ wM r g iM1 aM1 lM1) 503 [(3, .int 0), (2, .ref (r 0)), (1, .ref (q 0)), (0, .ref b)] [.int 0, .int 0]
      exfalso; omega
    · show GW κ 4 82 21282 (wX q d iX0 aX0 ++ wM r g iM1 aM1 lM1) 503 [(3, .int 0), (2, .ref (r 0)), (1, .ref (q 0)), (0, .ref b)] [.int 0, .int 0]
      exfalso; omega
    · show GW κ 4 82 21282 (wX q d iX0 aX0 ++ wM r g (upd iM1 22 1) (up2 (up2 (up3 (up2 aM1 18 (cp (aM1 17) (aM1 18) 165)) 18 161 (xs 2)) 22 y2333) 17 (cp ((up2 (up3 (up2 aM1 18 (cp (aM1 17) (aM1 18) 165)) 18 161 (xs 2)) 22 y2333) 18) ((up2 (up3 (up2 aM1 18 (cp (aM1 17) (aM1 18) 165)) 18 161 (xs 2)) 22 y2333) 17) 165)) lM1) 503 [(3, .int 0), (2, .ref (r 0)), (1, .ref (q 0)), (0, .ref b)] [.int 1, .int 0]
      exfalso; omega
    · show GW κ 4 82 21282 (wX q d iX0 aX0 ++ wM r g iM1 aM1 lM1) 503 [(3, .int 0), (2, .ref (r 0)), (1, .ref (q 0)), (0, .ref b)] [.int 0, .int 0]
      exfalso; omega
    · show GW κ 4 82 21282 (wX q d iX0 aX0 ++ wM r g iM1 aM1 lM1) 503 [(3, .int 0), (2, .ref (r 0)), (1, .ref (q 0)), (0, .ref b)] [.int 0, .int 0]
      exfalso; omega
    · show GW κ 4 82 21282 (wX q d iX0 aX0 ++ wM r g iM1 aM1 lM1) 503 [(3, .int 0), (2, .ref (r 0)), (1, .ref (q 0)), (0, .ref b)] [.int 0, .int 0]
      exfalso; omega
    · show GW κ 4 82 21282 (wX q d iX0 aX0 ++ wM r g (upd iM1 22 1) (up2 (up2 (up3 (up2 aM1 18 (cp (aM1 17) (aM1 18) 165)) 18 162 (xs 2)) 22 y2357) 17 (cp ((up2 (up3 (up2 aM1 18 (cp (aM1 17) (aM1 18) 165)) 18 162 (xs 2)) 22 y2357) 18) ((up2 (up3 (up2 aM1 18 (cp (aM1 17) (aM1 18) 165)) 18 162 (xs 2)) 22 y2357) 17) 165)) lM1) 503 [(3, .int 0), (2, .ref (r 0)), (1, .ref (q 0)), (0, .ref b)] [.int 1, .int 0]
      exfalso; omega
    · show GW κ 4 82 21282 (wX q d iX0 aX0 ++ wM r g iM1 aM1 lM1) 503 [(3, .int 0), (2, .ref (r 0)), (1, .ref (q 0)), (0, .ref b)] [.int 0, .int 0]
      refine g_icmp_eq (tgt := 1465) (a := 0) (b := 0) hk dL_law_503 (by decide) rfl rfl (fun _ => ?_) (fun z9 => absurd (show (0 : Int) = (0 : Int) from by decide) z9)
      exact tail _
    · show GW κ 4 82 21282 (wX q d iX0 aX0 ++ wM r g iM1 aM1 lM1) 503 [(3, .int 0), (2, .ref (r 0)), (1, .ref (q 0)), (0, .ref b)] [.int 0, .int 0]
      exfalso; omega
    · show GW κ 4 82 21282 (wX q d iX0 aX0 ++ wM r g iM1 aM1 lM1) 503 [(3, .int 0), (2, .ref (r 0)), (1, .ref (q 0)), (0, .ref b)] [.int 0, .int 0]
      exfalso; omega
    · show GW κ 4 82 21282 (wX q d iX0 aX0 ++ wM r g (upd iM1 22 1) (up2 (up2 (up3 (up2 aM1 18 (cp (aM1 17) (aM1 18) 165)) 18 163 (xs 2)) 22 y2385) 17 (cp ((up2 (up3 (up2 aM1 18 (cp (aM1 17) (aM1 18) 165)) 18 163 (xs 2)) 22 y2385) 18) ((up2 (up3 (up2 aM1 18 (cp (aM1 17) (aM1 18) 165)) 18 163 (xs 2)) 22 y2385) 17) 165)) lM1) 503 [(3, .int 0), (2, .ref (r 0)), (1, .ref (q 0)), (0, .ref b)] [.int 1, .int 0]
      exfalso; omega
    · show GW κ 4 82 21282 (wX q d iX0 aX0 ++ wM r g iM1 aM1 lM1) 503 [(3, .int 0), (2, .ref (r 0)), (1, .ref (q 0)), (0, .ref b)] [.int 0, .int 0]
      exfalso; omega
    · show GW κ 4 82 21282 (wX q d iX0 aX0 ++ wM r g iM1 aM1 lM1) 503 [(3, .int 0), (2, .ref (r 0)), (1, .ref (q 0)), (0, .ref b)] [.int 0, .int 0]
      exfalso; omega
    · show GW κ 4 82 21282 (wX q d iX0 aX0 ++ wM r g iM1 aM1 lM1) 503 [(3, .int 0), (2, .ref (r 0)), (1, .ref (q 0)), (0, .ref b)] [.int 0, .int 0]
      exfalso; omega
    · show GW κ 4 82 21282 (wX q d iX0 aX0 ++ wM r g (upd iM1 22 1) (up2 (up2 (up3 (up2 aM1 18 (cp (aM1 17) (aM1 18) 165)) 18 164 (xs 2)) 22 y2417) 17 (cp ((up2 (up3 (up2 aM1 18 (cp (aM1 17) (aM1 18) 165)) 18 164 (xs 2)) 22 y2417) 18) ((up2 (up3 (up2 aM1 18 (cp (aM1 17) (aM1 18) 165)) 18 164 (xs 2)) 22 y2417) 17) 165)) lM1) 503 [(3, .int 0), (2, .ref (r 0)), (1, .ref (q 0)), (0, .ref b)] [.int 1, .int 0]
      exfalso; omega
    · show GW κ 4 82 21282 (wX q d iX0 aX0 ++ wM r g iM1 aM1 lM1) 503 [(3, .int 0), (2, .ref (r 0)), (1, .ref (q 0)), (0, .ref b)] [.int 0, .int 0]
      exfalso; omega
  · show GW κ 4 82 21282 (wM r g iM1 aM1 lM1 ++ wX q d iX0 aX0) 489 [(3, .int 0), (2, .ref (r 0)), (1, .ref (q 0)), (0, .ref b)] [.int 0]
    refine g_aload_n hk dL_law_489 rfl ?_
    refine g_aload_n hk dL_law_490 rfl ?_
    refine g_iload_n hk dL_law_491 rfl ?_
    refine g_iconst (v := 1) hk dL_law_492 (by decide) ?_
    refine g_iadd hk dL_law_493 ?_
    refine g_norm (v := 1) (by decide) ?_
    refine g_sld (v := xs 1) hk hX (vp_in_iff.mpr ⟨by decide, by show (1 : Int) < (L : Int); omega⟩) rfl dL_law_494 ?_
    refine g_aload_n hk dL_law_495 rfl ?_
    refine g_iload_n hk dL_law_496 rfl ?_
    refine g_iconst (v := 2) hk dL_law_497 (by decide) ?_
    refine g_iadd hk dL_law_498 ?_
    refine g_norm (v := 2) (by decide) ?_
    refine g_sld (v := xs 2) hk hX (vp_in_iff.mpr ⟨by decide, by show (2 : Int) < (L : Int); omega⟩) rfl dL_law_499 ?_
    refine g_callV (n := 2) hk (m149_X12_set l D zt g r (xs 1) (xs 2)) (SP.pre _ _) (fun q h => List.mem_append_right _ h) (gi_V zw_1702 zw_1703 zw_1704 zw_115 (gi_sub zi_m149_X12_set zg_m149_X12_set)) rfl rfl rfl (by decide +kernel) ⟨Nat.le_of_ble_eq_true rfl, Nat.le_of_ble_eq_true rfl⟩ 0 rfl rfl rfl rfl (Nat.le_of_ble_eq_true rfl) ⟨Nat.le_of_ble_eq_true rfl, Nat.le_of_ble_eq_true rfl⟩ dL_law_500 (fun v ty' w' hp hk' => ?_)
    rcases hp with ⟨c2434, rfl, rfl⟩ | ⟨c2435, c2436, rfl, rfl⟩ | ⟨c2437, c2438, c2439, c2440, c2441, rfl, rfl⟩ | ⟨c2442, c2443, c2444, c2445, c2446, c2447, rfl, rfl⟩ | ⟨y2448, c2449, c2450, c2451, c2452, c2453, c2454, rfl, rfl⟩ | ⟨c2455, c2456, c2457, c2458, rfl, rfl⟩ | ⟨c2459, c2460, c2461, c2462, c2463, c2464, rfl, rfl⟩ | ⟨c2465, c2466, c2467, c2468, c2469, c2470, c2471, rfl, rfl⟩ | ⟨y2472, c2473, c2474, c2475, c2476, c2477, c2478, c2479, rfl, rfl⟩ | ⟨c2480, c2481, c2482, c2483, c2484, rfl, rfl⟩ | ⟨c2485, c2486, c2487, c2488, c2489, c2490, c2491, rfl, rfl⟩ | ⟨c2492, c2493, c2494, c2495, c2496, c2497, c2498, c2499, rfl, rfl⟩ | ⟨y2500, c2501, c2502, c2503, c2504, c2505, c2506, c2507, c2508, rfl, rfl⟩ | ⟨c2509, c2510, c2511, c2512, c2513, c2514, rfl, rfl⟩ | ⟨c2515, c2516, c2517, c2518, c2519, c2520, c2521, c2522, rfl, rfl⟩ | ⟨c2523, c2524, c2525, c2526, c2527, c2528, c2529, c2530, c2531, rfl, rfl⟩ | ⟨y2532, c2533, c2534, c2535, c2536, c2537, c2538, c2539, c2540, c2541, rfl, rfl⟩ | ⟨c2542, c2543, c2544, c2545, c2546, c2547, c2548, rfl, rfl⟩
    · show GW κ 4 82 21282 (wX q d iX0 aX0 ++ wM r g iM1 aM1 lM1) 503 [(3, .int 0), (2, .ref (r 0)), (1, .ref (q 0)), (0, .ref b)] [.int 0, .int 0]
      exfalso; omega
    · show GW κ 4 82 21282 (wX q d iX0 aX0 ++ wM r g iM1 aM1 lM1) 503 [(3, .int 0), (2, .ref (r 0)), (1, .ref (q 0)), (0, .ref b)] [.int 0, .int 0]
      exfalso; omega
    · show GW κ 4 82 21282 (wX q d iX0 aX0 ++ wM r g iM1 aM1 lM1) 503 [(3, .int 0), (2, .ref (r 0)), (1, .ref (q 0)), (0, .ref b)] [.int 0, .int 0]
      exfalso; omega
    · show GW κ 4 82 21282 (wX q d iX0 aX0 ++ wM r g iM1 aM1 lM1) 503 [(3, .int 0), (2, .ref (r 0)), (1, .ref (q 0)), (0, .ref b)] [.int 0, .int 0]
      exfalso; omega
    · show GW κ 4 82 21282 (wX q d iX0 aX0 ++ wM r g (upd iM1 22 1) (up2 (up2 (up3 (up2 aM1 18 (cp (aM1 17) (aM1 18) 165)) 18 161 (xs 2)) 22 y2448) 17 (cp ((up2 (up3 (up2 aM1 18 (cp (aM1 17) (aM1 18) 165)) 18 161 (xs 2)) 22 y2448) 18) ((up2 (up3 (up2 aM1 18 (cp (aM1 17) (aM1 18) 165)) 18 161 (xs 2)) 22 y2448) 17) 165)) lM1) 503 [(3, .int 0), (2, .ref (r 0)), (1, .ref (q 0)), (0, .ref b)] [.int 1, .int 0]
      exfalso; omega
    · show GW κ 4 82 21282 (wX q d iX0 aX0 ++ wM r g iM1 aM1 lM1) 503 [(3, .int 0), (2, .ref (r 0)), (1, .ref (q 0)), (0, .ref b)] [.int 0, .int 0]
      exfalso; omega
    · show GW κ 4 82 21282 (wX q d iX0 aX0 ++ wM r g iM1 aM1 lM1) 503 [(3, .int 0), (2, .ref (r 0)), (1, .ref (q 0)), (0, .ref b)] [.int 0, .int 0]
      exfalso; omega
    · show GW κ 4 82 21282 (wX q d iX0 aX0 ++ wM r g iM1 aM1 lM1) 503 [(3, .int 0), (2, .ref (r 0)), (1, .ref (q 0)), (0, .ref b)] [.int 0, .int 0]
      exfalso; omega
    · show GW κ 4 82 21282 (wX q d iX0 aX0 ++ wM r g (upd iM1 22 1) (up2 (up2 (up3 (up2 aM1 18 (cp (aM1 17) (aM1 18) 165)) 18 162 (xs 2)) 22 y2472) 17 (cp ((up2 (up3 (up2 aM1 18 (cp (aM1 17) (aM1 18) 165)) 18 162 (xs 2)) 22 y2472) 18) ((up2 (up3 (up2 aM1 18 (cp (aM1 17) (aM1 18) 165)) 18 162 (xs 2)) 22 y2472) 17) 165)) lM1) 503 [(3, .int 0), (2, .ref (r 0)), (1, .ref (q 0)), (0, .ref b)] [.int 1, .int 0]
      exfalso; omega
    · show GW κ 4 82 21282 (wX q d iX0 aX0 ++ wM r g iM1 aM1 lM1) 503 [(3, .int 0), (2, .ref (r 0)), (1, .ref (q 0)), (0, .ref b)] [.int 0, .int 0]
      exfalso; omega
    · show GW κ 4 82 21282 (wX q d iX0 aX0 ++ wM r g iM1 aM1 lM1) 503 [(3, .int 0), (2, .ref (r 0)), (1, .ref (q 0)), (0, .ref b)] [.int 0, .int 0]
      refine g_icmp_eq (tgt := 1465) (a := 0) (b := 0) hk dL_law_503 (by decide) rfl rfl (fun _ => ?_) (fun z9 => absurd (show (0 : Int) = (0 : Int) from by decide) z9)
      exact tail _
    · show GW κ 4 82 21282 (wX q d iX0 aX0 ++ wM r g iM1 aM1 lM1) 503 [(3, .int 0), (2, .ref (r 0)), (1, .ref (q 0)), (0, .ref b)] [.int 0, .int 0]
      exfalso; omega
    · show GW κ 4 82 21282 (wX q d iX0 aX0 ++ wM r g (upd iM1 22 1) (up2 (up2 (up3 (up2 aM1 18 (cp (aM1 17) (aM1 18) 165)) 18 163 (xs 2)) 22 y2500) 17 (cp ((up2 (up3 (up2 aM1 18 (cp (aM1 17) (aM1 18) 165)) 18 163 (xs 2)) 22 y2500) 18) ((up2 (up3 (up2 aM1 18 (cp (aM1 17) (aM1 18) 165)) 18 163 (xs 2)) 22 y2500) 17) 165)) lM1) 503 [(3, .int 0), (2, .ref (r 0)), (1, .ref (q 0)), (0, .ref b)] [.int 1, .int 0]
      exfalso; omega
    · show GW κ 4 82 21282 (wX q d iX0 aX0 ++ wM r g iM1 aM1 lM1) 503 [(3, .int 0), (2, .ref (r 0)), (1, .ref (q 0)), (0, .ref b)] [.int 0, .int 0]
      exfalso; omega
    · show GW κ 4 82 21282 (wX q d iX0 aX0 ++ wM r g iM1 aM1 lM1) 503 [(3, .int 0), (2, .ref (r 0)), (1, .ref (q 0)), (0, .ref b)] [.int 0, .int 0]
      exfalso; omega
    · show GW κ 4 82 21282 (wX q d iX0 aX0 ++ wM r g iM1 aM1 lM1) 503 [(3, .int 0), (2, .ref (r 0)), (1, .ref (q 0)), (0, .ref b)] [.int 0, .int 0]
      exfalso; omega
    · show GW κ 4 82 21282 (wX q d iX0 aX0 ++ wM r g (upd iM1 22 1) (up2 (up2 (up3 (up2 aM1 18 (cp (aM1 17) (aM1 18) 165)) 18 164 (xs 2)) 22 y2532) 17 (cp ((up2 (up3 (up2 aM1 18 (cp (aM1 17) (aM1 18) 165)) 18 164 (xs 2)) 22 y2532) 18) ((up2 (up3 (up2 aM1 18 (cp (aM1 17) (aM1 18) 165)) 18 164 (xs 2)) 22 y2532) 17) 165)) lM1) 503 [(3, .int 0), (2, .ref (r 0)), (1, .ref (q 0)), (0, .ref b)] [.int 1, .int 0]
      exfalso; omega
    · show GW κ 4 82 21282 (wX q d iX0 aX0 ++ wM r g iM1 aM1 lM1) 503 [(3, .int 0), (2, .ref (r 0)), (1, .ref (q 0)), (0, .ref b)] [.int 0, .int 0]
      exfalso; omega
  · show GW κ 4 82 21282 (wM r g iM1 aM1 lM1 ++ wX q d iX0 aX0) 489 [(3, .int 0), (2, .ref (r 0)), (1, .ref (q 0)), (0, .ref b)] [.int 0]
    refine g_aload_n hk dL_law_489 rfl ?_
    refine g_aload_n hk dL_law_490 rfl ?_
    refine g_iload_n hk dL_law_491 rfl ?_
    refine g_iconst (v := 1) hk dL_law_492 (by decide) ?_
    refine g_iadd hk dL_law_493 ?_
    refine g_norm (v := 1) (by decide) ?_
    refine g_sld (v := xs 1) hk hX (vp_in_iff.mpr ⟨by decide, by show (1 : Int) < (L : Int); omega⟩) rfl dL_law_494 ?_
    refine g_aload_n hk dL_law_495 rfl ?_
    refine g_iload_n hk dL_law_496 rfl ?_
    refine g_iconst (v := 2) hk dL_law_497 (by decide) ?_
    refine g_iadd hk dL_law_498 ?_
    refine g_norm (v := 2) (by decide) ?_
    refine g_sld (v := xs 2) hk hX (vp_in_iff.mpr ⟨by decide, by show (2 : Int) < (L : Int); omega⟩) rfl dL_law_499 ?_
    refine g_callV (n := 2) hk (m149_X12_set l D zt g r (xs 1) (xs 2)) (SP.pre _ _) (fun q h => List.mem_append_right _ h) (gi_V zw_1702 zw_1703 zw_1704 zw_115 (gi_sub zi_m149_X12_set zg_m149_X12_set)) rfl rfl rfl (by decide +kernel) ⟨Nat.le_of_ble_eq_true rfl, Nat.le_of_ble_eq_true rfl⟩ 0 rfl rfl rfl rfl (Nat.le_of_ble_eq_true rfl) ⟨Nat.le_of_ble_eq_true rfl, Nat.le_of_ble_eq_true rfl⟩ dL_law_500 (fun v ty' w' hp hk' => ?_)
    rcases hp with ⟨c2549, rfl, rfl⟩ | ⟨c2550, c2551, rfl, rfl⟩ | ⟨c2552, c2553, c2554, c2555, c2556, rfl, rfl⟩ | ⟨c2557, c2558, c2559, c2560, c2561, c2562, rfl, rfl⟩ | ⟨y2563, c2564, c2565, c2566, c2567, c2568, c2569, rfl, rfl⟩ | ⟨c2570, c2571, c2572, c2573, rfl, rfl⟩ | ⟨c2574, c2575, c2576, c2577, c2578, c2579, rfl, rfl⟩ | ⟨c2580, c2581, c2582, c2583, c2584, c2585, c2586, rfl, rfl⟩ | ⟨y2587, c2588, c2589, c2590, c2591, c2592, c2593, c2594, rfl, rfl⟩ | ⟨c2595, c2596, c2597, c2598, c2599, rfl, rfl⟩ | ⟨c2600, c2601, c2602, c2603, c2604, c2605, c2606, rfl, rfl⟩ | ⟨c2607, c2608, c2609, c2610, c2611, c2612, c2613, c2614, rfl, rfl⟩ | ⟨y2615, c2616, c2617, c2618, c2619, c2620, c2621, c2622, c2623, rfl, rfl⟩ | ⟨c2624, c2625, c2626, c2627, c2628, c2629, rfl, rfl⟩ | ⟨c2630, c2631, c2632, c2633, c2634, c2635, c2636, c2637, rfl, rfl⟩ | ⟨c2638, c2639, c2640, c2641, c2642, c2643, c2644, c2645, c2646, rfl, rfl⟩ | ⟨y2647, c2648, c2649, c2650, c2651, c2652, c2653, c2654, c2655, c2656, rfl, rfl⟩ | ⟨c2657, c2658, c2659, c2660, c2661, c2662, c2663, rfl, rfl⟩
    · show GW κ 4 82 21282 (wX q d iX0 aX0 ++ wM r g iM1 aM1 lM1) 503 [(3, .int 0), (2, .ref (r 0)), (1, .ref (q 0)), (0, .ref b)] [.int 0, .int 0]
      exfalso; omega
    · show GW κ 4 82 21282 (wX q d iX0 aX0 ++ wM r g iM1 aM1 lM1) 503 [(3, .int 0), (2, .ref (r 0)), (1, .ref (q 0)), (0, .ref b)] [.int 0, .int 0]
      exfalso; omega
    · show GW κ 4 82 21282 (wX q d iX0 aX0 ++ wM r g iM1 aM1 lM1) 503 [(3, .int 0), (2, .ref (r 0)), (1, .ref (q 0)), (0, .ref b)] [.int 0, .int 0]
      exfalso; omega
    · show GW κ 4 82 21282 (wX q d iX0 aX0 ++ wM r g iM1 aM1 lM1) 503 [(3, .int 0), (2, .ref (r 0)), (1, .ref (q 0)), (0, .ref b)] [.int 0, .int 0]
      exfalso; omega
    · show GW κ 4 82 21282 (wX q d iX0 aX0 ++ wM r g (upd iM1 22 1) (up2 (up2 (up3 (up2 aM1 18 (cp (aM1 17) (aM1 18) 165)) 18 161 (xs 2)) 22 y2563) 17 (cp ((up2 (up3 (up2 aM1 18 (cp (aM1 17) (aM1 18) 165)) 18 161 (xs 2)) 22 y2563) 18) ((up2 (up3 (up2 aM1 18 (cp (aM1 17) (aM1 18) 165)) 18 161 (xs 2)) 22 y2563) 17) 165)) lM1) 503 [(3, .int 0), (2, .ref (r 0)), (1, .ref (q 0)), (0, .ref b)] [.int 1, .int 0]
      exfalso; omega
    · show GW κ 4 82 21282 (wX q d iX0 aX0 ++ wM r g iM1 aM1 lM1) 503 [(3, .int 0), (2, .ref (r 0)), (1, .ref (q 0)), (0, .ref b)] [.int 0, .int 0]
      exfalso; omega
    · show GW κ 4 82 21282 (wX q d iX0 aX0 ++ wM r g iM1 aM1 lM1) 503 [(3, .int 0), (2, .ref (r 0)), (1, .ref (q 0)), (0, .ref b)] [.int 0, .int 0]
      exfalso; omega
    · show GW κ 4 82 21282 (wX q d iX0 aX0 ++ wM r g iM1 aM1 lM1) 503 [(3, .int 0), (2, .ref (r 0)), (1, .ref (q 0)), (0, .ref b)] [.int 0, .int 0]
      exfalso; omega
    · show GW κ 4 82 21282 (wX q d iX0 aX0 ++ wM r g (upd iM1 22 1) (up2 (up2 (up3 (up2 aM1 18 (cp (aM1 17) (aM1 18) 165)) 18 162 (xs 2)) 22 y2587) 17 (cp ((up2 (up3 (up2 aM1 18 (cp (aM1 17) (aM1 18) 165)) 18 162 (xs 2)) 22 y2587) 18) ((up2 (up3 (up2 aM1 18 (cp (aM1 17) (aM1 18) 165)) 18 162 (xs 2)) 22 y2587) 17) 165)) lM1) 503 [(3, .int 0), (2, .ref (r 0)), (1, .ref (q 0)), (0, .ref b)] [.int 1, .int 0]
      exfalso; omega
    · show GW κ 4 82 21282 (wX q d iX0 aX0 ++ wM r g iM1 aM1 lM1) 503 [(3, .int 0), (2, .ref (r 0)), (1, .ref (q 0)), (0, .ref b)] [.int 0, .int 0]
      exfalso; omega
    · show GW κ 4 82 21282 (wX q d iX0 aX0 ++ wM r g iM1 aM1 lM1) 503 [(3, .int 0), (2, .ref (r 0)), (1, .ref (q 0)), (0, .ref b)] [.int 0, .int 0]
      exfalso; omega
    · show GW κ 4 82 21282 (wX q d iX0 aX0 ++ wM r g iM1 aM1 lM1) 503 [(3, .int 0), (2, .ref (r 0)), (1, .ref (q 0)), (0, .ref b)] [.int 0, .int 0]
      refine g_icmp_eq (tgt := 1465) (a := 0) (b := 0) hk dL_law_503 (by decide) rfl rfl (fun _ => ?_) (fun z9 => absurd (show (0 : Int) = (0 : Int) from by decide) z9)
      exact tail _
    · show GW κ 4 82 21282 (wX q d iX0 aX0 ++ wM r g (upd iM1 22 1) (up2 (up2 (up3 (up2 aM1 18 (cp (aM1 17) (aM1 18) 165)) 18 163 (xs 2)) 22 y2615) 17 (cp ((up2 (up3 (up2 aM1 18 (cp (aM1 17) (aM1 18) 165)) 18 163 (xs 2)) 22 y2615) 18) ((up2 (up3 (up2 aM1 18 (cp (aM1 17) (aM1 18) 165)) 18 163 (xs 2)) 22 y2615) 17) 165)) lM1) 503 [(3, .int 0), (2, .ref (r 0)), (1, .ref (q 0)), (0, .ref b)] [.int 1, .int 0]
      exfalso; omega
    · show GW κ 4 82 21282 (wX q d iX0 aX0 ++ wM r g iM1 aM1 lM1) 503 [(3, .int 0), (2, .ref (r 0)), (1, .ref (q 0)), (0, .ref b)] [.int 0, .int 0]
      exfalso; omega
    · show GW κ 4 82 21282 (wX q d iX0 aX0 ++ wM r g iM1 aM1 lM1) 503 [(3, .int 0), (2, .ref (r 0)), (1, .ref (q 0)), (0, .ref b)] [.int 0, .int 0]
      exfalso; omega
    · show GW κ 4 82 21282 (wX q d iX0 aX0 ++ wM r g iM1 aM1 lM1) 503 [(3, .int 0), (2, .ref (r 0)), (1, .ref (q 0)), (0, .ref b)] [.int 0, .int 0]
      exfalso; omega
    · show GW κ 4 82 21282 (wX q d iX0 aX0 ++ wM r g (upd iM1 22 1) (up2 (up2 (up3 (up2 aM1 18 (cp (aM1 17) (aM1 18) 165)) 18 164 (xs 2)) 22 y2647) 17 (cp ((up2 (up3 (up2 aM1 18 (cp (aM1 17) (aM1 18) 165)) 18 164 (xs 2)) 22 y2647) 18) ((up2 (up3 (up2 aM1 18 (cp (aM1 17) (aM1 18) 165)) 18 164 (xs 2)) 22 y2647) 17) 165)) lM1) 503 [(3, .int 0), (2, .ref (r 0)), (1, .ref (q 0)), (0, .ref b)] [.int 1, .int 0]
      exfalso; omega
    · show GW κ 4 82 21282 (wX q d iX0 aX0 ++ wM r g iM1 aM1 lM1) 503 [(3, .int 0), (2, .ref (r 0)), (1, .ref (q 0)), (0, .ref b)] [.int 0, .int 0]
      exfalso; omega
  · show GW κ 4 82 21282 (wM r g iM1 aM1 lM1 ++ wX q d (upd (upd iX0 20 1) 21 1) (up3 (up3 (up3 aX0 10 2 (xs 2)) 11 0 3) 12 0 (xs 1))) 489 [(3, .int 0), (2, .ref (r 0)), (1, .ref (q 0)), (0, .ref b)] [.int 1]
    refine g_aload_n hk dL_law_489 rfl ?_
    refine g_aload_n hk dL_law_490 rfl ?_
    refine g_iload_n hk dL_law_491 rfl ?_
    refine g_iconst (v := 1) hk dL_law_492 (by decide) ?_
    refine g_iadd hk dL_law_493 ?_
    refine g_norm (v := 1) (by decide) ?_
    refine g_sld (v := xs 1) hk hX (vp_in_iff.mpr ⟨by decide, by show (1 : Int) < (L : Int); omega⟩) rfl dL_law_494 ?_
    refine g_aload_n hk dL_law_495 rfl ?_
    refine g_iload_n hk dL_law_496 rfl ?_
    refine g_iconst (v := 2) hk dL_law_497 (by decide) ?_
    refine g_iadd hk dL_law_498 ?_
    refine g_norm (v := 2) (by decide) ?_
    refine g_sld (v := xs 2) hk hX (vp_in_iff.mpr ⟨by decide, by show (2 : Int) < (L : Int); omega⟩) rfl dL_law_499 ?_
    refine g_callV (n := 2) hk (m149_X12_set l D zt g r (xs 1) (xs 2)) (SP.pre _ _) (fun q h => List.mem_append_right _ h) (gi_V zw_1702 zw_1703 zw_1704 zw_115 (gi_sub zi_m149_X12_set zg_m149_X12_set)) rfl rfl rfl (by decide +kernel) ⟨Nat.le_of_ble_eq_true rfl, Nat.le_of_ble_eq_true rfl⟩ 0 rfl rfl rfl rfl (Nat.le_of_ble_eq_true rfl) ⟨Nat.le_of_ble_eq_true rfl, Nat.le_of_ble_eq_true rfl⟩ dL_law_500 (fun v ty' w' hp hk' => ?_)
    rcases hp with ⟨c2664, rfl, rfl⟩ | ⟨c2665, c2666, rfl, rfl⟩ | ⟨c2667, c2668, c2669, c2670, c2671, rfl, rfl⟩ | ⟨c2672, c2673, c2674, c2675, c2676, c2677, rfl, rfl⟩ | ⟨y2678, c2679, c2680, c2681, c2682, c2683, c2684, rfl, rfl⟩ | ⟨c2685, c2686, c2687, c2688, rfl, rfl⟩ | ⟨c2689, c2690, c2691, c2692, c2693, c2694, rfl, rfl⟩ | ⟨c2695, c2696, c2697, c2698, c2699, c2700, c2701, rfl, rfl⟩ | ⟨y2702, c2703, c2704, c2705, c2706, c2707, c2708, c2709, rfl, rfl⟩ | ⟨c2710, c2711, c2712, c2713, c2714, rfl, rfl⟩ | ⟨c2715, c2716, c2717, c2718, c2719, c2720, c2721, rfl, rfl⟩ | ⟨c2722, c2723, c2724, c2725, c2726, c2727, c2728, c2729, rfl, rfl⟩ | ⟨y2730, c2731, c2732, c2733, c2734, c2735, c2736, c2737, c2738, rfl, rfl⟩ | ⟨c2739, c2740, c2741, c2742, c2743, c2744, rfl, rfl⟩ | ⟨c2745, c2746, c2747, c2748, c2749, c2750, c2751, c2752, rfl, rfl⟩ | ⟨c2753, c2754, c2755, c2756, c2757, c2758, c2759, c2760, c2761, rfl, rfl⟩ | ⟨y2762, c2763, c2764, c2765, c2766, c2767, c2768, c2769, c2770, c2771, rfl, rfl⟩ | ⟨c2772, c2773, c2774, c2775, c2776, c2777, c2778, rfl, rfl⟩
    · show GW κ 4 82 21282 (wX q d (upd (upd iX0 20 1) 21 1) (up3 (up3 (up3 aX0 10 2 (xs 2)) 11 0 3) 12 0 (xs 1)) ++ wM r g iM1 aM1 lM1) 503 [(3, .int 0), (2, .ref (r 0)), (1, .ref (q 0)), (0, .ref b)] [.int 0, .int 1]
      exfalso; omega
    · show GW κ 4 82 21282 (wX q d (upd (upd iX0 20 1) 21 1) (up3 (up3 (up3 aX0 10 2 (xs 2)) 11 0 3) 12 0 (xs 1)) ++ wM r g iM1 aM1 lM1) 503 [(3, .int 0), (2, .ref (r 0)), (1, .ref (q 0)), (0, .ref b)] [.int 0, .int 1]
      exfalso; omega
    · show GW κ 4 82 21282 (wX q d (upd (upd iX0 20 1) 21 1) (up3 (up3 (up3 aX0 10 2 (xs 2)) 11 0 3) 12 0 (xs 1)) ++ wM r g iM1 aM1 lM1) 503 [(3, .int 0), (2, .ref (r 0)), (1, .ref (q 0)), (0, .ref b)] [.int 0, .int 1]
      exfalso; omega
    · show GW κ 4 82 21282 (wX q d (upd (upd iX0 20 1) 21 1) (up3 (up3 (up3 aX0 10 2 (xs 2)) 11 0 3) 12 0 (xs 1)) ++ wM r g iM1 aM1 lM1) 503 [(3, .int 0), (2, .ref (r 0)), (1, .ref (q 0)), (0, .ref b)] [.int 0, .int 1]
      exfalso; omega
    · show GW κ 4 82 21282 (wX q d (upd (upd iX0 20 1) 21 1) (up3 (up3 (up3 aX0 10 2 (xs 2)) 11 0 3) 12 0 (xs 1)) ++ wM r g (upd iM1 22 1) (up2 (up2 (up3 (up2 aM1 18 (cp (aM1 17) (aM1 18) 165)) 18 161 (xs 2)) 22 y2678) 17 (cp ((up2 (up3 (up2 aM1 18 (cp (aM1 17) (aM1 18) 165)) 18 161 (xs 2)) 22 y2678) 18) ((up2 (up3 (up2 aM1 18 (cp (aM1 17) (aM1 18) 165)) 18 161 (xs 2)) 22 y2678) 17) 165)) lM1) 503 [(3, .int 0), (2, .ref (r 0)), (1, .ref (q 0)), (0, .ref b)] [.int 1, .int 1]
      exfalso; omega
    · show GW κ 4 82 21282 (wX q d (upd (upd iX0 20 1) 21 1) (up3 (up3 (up3 aX0 10 2 (xs 2)) 11 0 3) 12 0 (xs 1)) ++ wM r g iM1 aM1 lM1) 503 [(3, .int 0), (2, .ref (r 0)), (1, .ref (q 0)), (0, .ref b)] [.int 0, .int 1]
      exfalso; omega
    · show GW κ 4 82 21282 (wX q d (upd (upd iX0 20 1) 21 1) (up3 (up3 (up3 aX0 10 2 (xs 2)) 11 0 3) 12 0 (xs 1)) ++ wM r g iM1 aM1 lM1) 503 [(3, .int 0), (2, .ref (r 0)), (1, .ref (q 0)), (0, .ref b)] [.int 0, .int 1]
      exfalso; omega
    · show GW κ 4 82 21282 (wX q d (upd (upd iX0 20 1) 21 1) (up3 (up3 (up3 aX0 10 2 (xs 2)) 11 0 3) 12 0 (xs 1)) ++ wM r g iM1 aM1 lM1) 503 [(3, .int 0), (2, .ref (r 0)), (1, .ref (q 0)), (0, .ref b)] [.int 0, .int 1]
      exfalso; omega
    · show GW κ 4 82 21282 (wX q d (upd (upd iX0 20 1) 21 1) (up3 (up3 (up3 aX0 10 2 (xs 2)) 11 0 3) 12 0 (xs 1)) ++ wM r g (upd iM1 22 1) (up2 (up2 (up3 (up2 aM1 18 (cp (aM1 17) (aM1 18) 165)) 18 162 (xs 2)) 22 y2702) 17 (cp ((up2 (up3 (up2 aM1 18 (cp (aM1 17) (aM1 18) 165)) 18 162 (xs 2)) 22 y2702) 18) ((up2 (up3 (up2 aM1 18 (cp (aM1 17) (aM1 18) 165)) 18 162 (xs 2)) 22 y2702) 17) 165)) lM1) 503 [(3, .int 0), (2, .ref (r 0)), (1, .ref (q 0)), (0, .ref b)] [.int 1, .int 1]
      exfalso; omega
    · show GW κ 4 82 21282 (wX q d (upd (upd iX0 20 1) 21 1) (up3 (up3 (up3 aX0 10 2 (xs 2)) 11 0 3) 12 0 (xs 1)) ++ wM r g iM1 aM1 lM1) 503 [(3, .int 0), (2, .ref (r 0)), (1, .ref (q 0)), (0, .ref b)] [.int 0, .int 1]
      exfalso; omega
    · show GW κ 4 82 21282 (wX q d (upd (upd iX0 20 1) 21 1) (up3 (up3 (up3 aX0 10 2 (xs 2)) 11 0 3) 12 0 (xs 1)) ++ wM r g iM1 aM1 lM1) 503 [(3, .int 0), (2, .ref (r 0)), (1, .ref (q 0)), (0, .ref b)] [.int 0, .int 1]
      exfalso; omega
    · show GW κ 4 82 21282 (wX q d (upd (upd iX0 20 1) 21 1) (up3 (up3 (up3 aX0 10 2 (xs 2)) 11 0 3) 12 0 (xs 1)) ++ wM r g iM1 aM1 lM1) 503 [(3, .int 0), (2, .ref (r 0)), (1, .ref (q 0)), (0, .ref b)] [.int 0, .int 1]
      exfalso; omega
    · show GW κ 4 82 21282 (wX q d (upd (upd iX0 20 1) 21 1) (up3 (up3 (up3 aX0 10 2 (xs 2)) 11 0 3) 12 0 (xs 1)) ++ wM r g (upd iM1 22 1) (up2 (up2 (up3 (up2 aM1 18 (cp (aM1 17) (aM1 18) 165)) 18 163 (xs 2)) 22 y2730) 17 (cp ((up2 (up3 (up2 aM1 18 (cp (aM1 17) (aM1 18) 165)) 18 163 (xs 2)) 22 y2730) 18) ((up2 (up3 (up2 aM1 18 (cp (aM1 17) (aM1 18) 165)) 18 163 (xs 2)) 22 y2730) 17) 165)) lM1) 503 [(3, .int 0), (2, .ref (r 0)), (1, .ref (q 0)), (0, .ref b)] [.int 1, .int 1]
      refine g_icmp_eq (tgt := 1465) (a := 1) (b := 1) hk dL_law_503 (by decide) rfl rfl (fun _ => ?_) (fun z9 => absurd (show (1 : Int) = (1 : Int) from by decide) z9)
      exact tail _
    · show GW κ 4 82 21282 (wX q d (upd (upd iX0 20 1) 21 1) (up3 (up3 (up3 aX0 10 2 (xs 2)) 11 0 3) 12 0 (xs 1)) ++ wM r g iM1 aM1 lM1) 503 [(3, .int 0), (2, .ref (r 0)), (1, .ref (q 0)), (0, .ref b)] [.int 0, .int 1]
      exfalso; omega
    · show GW κ 4 82 21282 (wX q d (upd (upd iX0 20 1) 21 1) (up3 (up3 (up3 aX0 10 2 (xs 2)) 11 0 3) 12 0 (xs 1)) ++ wM r g iM1 aM1 lM1) 503 [(3, .int 0), (2, .ref (r 0)), (1, .ref (q 0)), (0, .ref b)] [.int 0, .int 1]
      exfalso; omega
    · show GW κ 4 82 21282 (wX q d (upd (upd iX0 20 1) 21 1) (up3 (up3 (up3 aX0 10 2 (xs 2)) 11 0 3) 12 0 (xs 1)) ++ wM r g iM1 aM1 lM1) 503 [(3, .int 0), (2, .ref (r 0)), (1, .ref (q 0)), (0, .ref b)] [.int 0, .int 1]
      exfalso; omega
    · show GW κ 4 82 21282 (wX q d (upd (upd iX0 20 1) 21 1) (up3 (up3 (up3 aX0 10 2 (xs 2)) 11 0 3) 12 0 (xs 1)) ++ wM r g (upd iM1 22 1) (up2 (up2 (up3 (up2 aM1 18 (cp (aM1 17) (aM1 18) 165)) 18 164 (xs 2)) 22 y2762) 17 (cp ((up2 (up3 (up2 aM1 18 (cp (aM1 17) (aM1 18) 165)) 18 164 (xs 2)) 22 y2762) 18) ((up2 (up3 (up2 aM1 18 (cp (aM1 17) (aM1 18) 165)) 18 164 (xs 2)) 22 y2762) 17) 165)) lM1) 503 [(3, .int 0), (2, .ref (r 0)), (1, .ref (q 0)), (0, .ref b)] [.int 1, .int 1]
      exfalso; omega
    · show GW κ 4 82 21282 (wX q d (upd (upd iX0 20 1) 21 1) (up3 (up3 (up3 aX0 10 2 (xs 2)) 11 0 3) 12 0 (xs 1)) ++ wM r g iM1 aM1 lM1) 503 [(3, .int 0), (2, .ref (r 0)), (1, .ref (q 0)), (0, .ref b)] [.int 0, .int 1]
      exfalso; omega
  · show GW κ 4 82 21282 (wM r g iM1 aM1 lM1 ++ wX q d iX0 aX0) 489 [(3, .int 0), (2, .ref (r 0)), (1, .ref (q 0)), (0, .ref b)] [.int 0]
    refine g_aload_n hk dL_law_489 rfl ?_
    refine g_aload_n hk dL_law_490 rfl ?_
    refine g_iload_n hk dL_law_491 rfl ?_
    refine g_iconst (v := 1) hk dL_law_492 (by decide) ?_
    refine g_iadd hk dL_law_493 ?_
    refine g_norm (v := 1) (by decide) ?_
    refine g_sld (v := xs 1) hk hX (vp_in_iff.mpr ⟨by decide, by show (1 : Int) < (L : Int); omega⟩) rfl dL_law_494 ?_
    refine g_aload_n hk dL_law_495 rfl ?_
    refine g_iload_n hk dL_law_496 rfl ?_
    refine g_iconst (v := 2) hk dL_law_497 (by decide) ?_
    refine g_iadd hk dL_law_498 ?_
    refine g_norm (v := 2) (by decide) ?_
    refine g_sld (v := xs 2) hk hX (vp_in_iff.mpr ⟨by decide, by show (2 : Int) < (L : Int); omega⟩) rfl dL_law_499 ?_
    refine g_callV (n := 2) hk (m149_X12_set l D zt g r (xs 1) (xs 2)) (SP.pre _ _) (fun q h => List.mem_append_right _ h) (gi_V zw_1702 zw_1703 zw_1704 zw_115 (gi_sub zi_m149_X12_set zg_m149_X12_set)) rfl rfl rfl (by decide +kernel) ⟨Nat.le_of_ble_eq_true rfl, Nat.le_of_ble_eq_true rfl⟩ 0 rfl rfl rfl rfl (Nat.le_of_ble_eq_true rfl) ⟨Nat.le_of_ble_eq_true rfl, Nat.le_of_ble_eq_true rfl⟩ dL_law_500 (fun v ty' w' hp hk' => ?_)
    rcases hp with ⟨c2779, rfl, rfl⟩ | ⟨c2780, c2781, rfl, rfl⟩ | ⟨c2782, c2783, c2784, c2785, c2786, rfl, rfl⟩ | ⟨c2787, c2788, c2789, c2790, c2791, c2792, rfl, rfl⟩ | ⟨y2793, c2794, c2795, c2796, c2797, c2798, c2799, rfl, rfl⟩ | ⟨c2800, c2801, c2802, c2803, rfl, rfl⟩ | ⟨c2804, c2805, c2806, c2807, c2808, c2809, rfl, rfl⟩ | ⟨c2810, c2811, c2812, c2813, c2814, c2815, c2816, rfl, rfl⟩ | ⟨y2817, c2818, c2819, c2820, c2821, c2822, c2823, c2824, rfl, rfl⟩ | ⟨c2825, c2826, c2827, c2828, c2829, rfl, rfl⟩ | ⟨c2830, c2831, c2832, c2833, c2834, c2835, c2836, rfl, rfl⟩ | ⟨c2837, c2838, c2839, c2840, c2841, c2842, c2843, c2844, rfl, rfl⟩ | ⟨y2845, c2846, c2847, c2848, c2849, c2850, c2851, c2852, c2853, rfl, rfl⟩ | ⟨c2854, c2855, c2856, c2857, c2858, c2859, rfl, rfl⟩ | ⟨c2860, c2861, c2862, c2863, c2864, c2865, c2866, c2867, rfl, rfl⟩ | ⟨c2868, c2869, c2870, c2871, c2872, c2873, c2874, c2875, c2876, rfl, rfl⟩ | ⟨y2877, c2878, c2879, c2880, c2881, c2882, c2883, c2884, c2885, c2886, rfl, rfl⟩ | ⟨c2887, c2888, c2889, c2890, c2891, c2892, c2893, rfl, rfl⟩
    · show GW κ 4 82 21282 (wX q d iX0 aX0 ++ wM r g iM1 aM1 lM1) 503 [(3, .int 0), (2, .ref (r 0)), (1, .ref (q 0)), (0, .ref b)] [.int 0, .int 0]
      exfalso; omega
    · show GW κ 4 82 21282 (wX q d iX0 aX0 ++ wM r g iM1 aM1 lM1) 503 [(3, .int 0), (2, .ref (r 0)), (1, .ref (q 0)), (0, .ref b)] [.int 0, .int 0]
      exfalso; omega
    · show GW κ 4 82 21282 (wX q d iX0 aX0 ++ wM r g iM1 aM1 lM1) 503 [(3, .int 0), (2, .ref (r 0)), (1, .ref (q 0)), (0, .ref b)] [.int 0, .int 0]
      exfalso; omega
    · show GW κ 4 82 21282 (wX q d iX0 aX0 ++ wM r g iM1 aM1 lM1) 503 [(3, .int 0), (2, .ref (r 0)), (1, .ref (q 0)), (0, .ref b)] [.int 0, .int 0]
      exfalso; omega
    · show GW κ 4 82 21282 (wX q d iX0 aX0 ++ wM r g (upd iM1 22 1) (up2 (up2 (up3 (up2 aM1 18 (cp (aM1 17) (aM1 18) 165)) 18 161 (xs 2)) 22 y2793) 17 (cp ((up2 (up3 (up2 aM1 18 (cp (aM1 17) (aM1 18) 165)) 18 161 (xs 2)) 22 y2793) 18) ((up2 (up3 (up2 aM1 18 (cp (aM1 17) (aM1 18) 165)) 18 161 (xs 2)) 22 y2793) 17) 165)) lM1) 503 [(3, .int 0), (2, .ref (r 0)), (1, .ref (q 0)), (0, .ref b)] [.int 1, .int 0]
      exfalso; omega
    · show GW κ 4 82 21282 (wX q d iX0 aX0 ++ wM r g iM1 aM1 lM1) 503 [(3, .int 0), (2, .ref (r 0)), (1, .ref (q 0)), (0, .ref b)] [.int 0, .int 0]
      exfalso; omega
    · show GW κ 4 82 21282 (wX q d iX0 aX0 ++ wM r g iM1 aM1 lM1) 503 [(3, .int 0), (2, .ref (r 0)), (1, .ref (q 0)), (0, .ref b)] [.int 0, .int 0]
      exfalso; omega
    · show GW κ 4 82 21282 (wX q d iX0 aX0 ++ wM r g iM1 aM1 lM1) 503 [(3, .int 0), (2, .ref (r 0)), (1, .ref (q 0)), (0, .ref b)] [.int 0, .int 0]
      exfalso; omega
    · show GW κ 4 82 21282 (wX q d iX0 aX0 ++ wM r g (upd iM1 22 1) (up2 (up2 (up3 (up2 aM1 18 (cp (aM1 17) (aM1 18) 165)) 18 162 (xs 2)) 22 y2817) 17 (cp ((up2 (up3 (up2 aM1 18 (cp (aM1 17) (aM1 18) 165)) 18 162 (xs 2)) 22 y2817) 18) ((up2 (up3 (up2 aM1 18 (cp (aM1 17) (aM1 18) 165)) 18 162 (xs 2)) 22 y2817) 17) 165)) lM1) 503 [(3, .int 0), (2, .ref (r 0)), (1, .ref (q 0)), (0, .ref b)] [.int 1, .int 0]
      exfalso; omega
    · show GW κ 4 82 21282 (wX q d iX0 aX0 ++ wM r g iM1 aM1 lM1) 503 [(3, .int 0), (2, .ref (r 0)), (1, .ref (q 0)), (0, .ref b)] [.int 0, .int 0]
      exfalso; omega
    · show GW κ 4 82 21282 (wX q d iX0 aX0 ++ wM r g iM1 aM1 lM1) 503 [(3, .int 0), (2, .ref (r 0)), (1, .ref (q 0)), (0, .ref b)] [.int 0, .int 0]
      exfalso; omega
    · show GW κ 4 82 21282 (wX q d iX0 aX0 ++ wM r g iM1 aM1 lM1) 503 [(3, .int 0), (2, .ref (r 0)), (1, .ref (q 0)), (0, .ref b)] [.int 0, .int 0]
      exfalso; omega
    · show GW κ 4 82 21282 (wX q d iX0 aX0 ++ wM r g (upd iM1 22 1) (up2 (up2 (up3 (up2 aM1 18 (cp (aM1 17) (aM1 18) 165)) 18 163 (xs 2)) 22 y2845) 17 (cp ((up2 (up3 (up2 aM1 18 (cp (aM1 17) (aM1 18) 165)) 18 163 (xs 2)) 22 y2845) 18) ((up2 (up3 (up2 aM1 18 (cp (aM1 17) (aM1 18) 165)) 18 163 (xs 2)) 22 y2845) 17) 165)) lM1) 503 [(3, .int 0), (2, .ref (r 0)), (1, .ref (q 0)), (0, .ref b)] [.int 1, .int 0]
      exfalso; omega
    · show GW κ 4 82 21282 (wX q d iX0 aX0 ++ wM r g iM1 aM1 lM1) 503 [(3, .int 0), (2, .ref (r 0)), (1, .ref (q 0)), (0, .ref b)] [.int 0, .int 0]
      refine g_icmp_eq (tgt := 1465) (a := 0) (b := 0) hk dL_law_503 (by decide) rfl rfl (fun _ => ?_) (fun z9 => absurd (show (0 : Int) = (0 : Int) from by decide) z9)
      exact tail _
    · show GW κ 4 82 21282 (wX q d iX0 aX0 ++ wM r g iM1 aM1 lM1) 503 [(3, .int 0), (2, .ref (r 0)), (1, .ref (q 0)), (0, .ref b)] [.int 0, .int 0]
      exfalso; omega
    · show GW κ 4 82 21282 (wX q d iX0 aX0 ++ wM r g iM1 aM1 lM1) 503 [(3, .int 0), (2, .ref (r 0)), (1, .ref (q 0)), (0, .ref b)] [.int 0, .int 0]
      exfalso; omega
    · show GW κ 4 82 21282 (wX q d iX0 aX0 ++ wM r g (upd iM1 22 1) (up2 (up2 (up3 (up2 aM1 18 (cp (aM1 17) (aM1 18) 165)) 18 164 (xs 2)) 22 y2877) 17 (cp ((up2 (up3 (up2 aM1 18 (cp (aM1 17) (aM1 18) 165)) 18 164 (xs 2)) 22 y2877) 18) ((up2 (up3 (up2 aM1 18 (cp (aM1 17) (aM1 18) 165)) 18 164 (xs 2)) 22 y2877) 17) 165)) lM1) 503 [(3, .int 0), (2, .ref (r 0)), (1, .ref (q 0)), (0, .ref b)] [.int 1, .int 0]
      exfalso; omega
    · show GW κ 4 82 21282 (wX q d iX0 aX0 ++ wM r g iM1 aM1 lM1) 503 [(3, .int 0), (2, .ref (r 0)), (1, .ref (q 0)), (0, .ref b)] [.int 0, .int 0]
      exfalso; omega
  · show GW κ 4 82 21282 (wM r g iM1 aM1 lM1 ++ wX q d iX0 aX0) 489 [(3, .int 0), (2, .ref (r 0)), (1, .ref (q 0)), (0, .ref b)] [.int 0]
    refine g_aload_n hk dL_law_489 rfl ?_
    refine g_aload_n hk dL_law_490 rfl ?_
    refine g_iload_n hk dL_law_491 rfl ?_
    refine g_iconst (v := 1) hk dL_law_492 (by decide) ?_
    refine g_iadd hk dL_law_493 ?_
    refine g_norm (v := 1) (by decide) ?_
    refine g_sld (v := xs 1) hk hX (vp_in_iff.mpr ⟨by decide, by show (1 : Int) < (L : Int); omega⟩) rfl dL_law_494 ?_
    refine g_aload_n hk dL_law_495 rfl ?_
    refine g_iload_n hk dL_law_496 rfl ?_
    refine g_iconst (v := 2) hk dL_law_497 (by decide) ?_
    refine g_iadd hk dL_law_498 ?_
    refine g_norm (v := 2) (by decide) ?_
    refine g_sld (v := xs 2) hk hX (vp_in_iff.mpr ⟨by decide, by show (2 : Int) < (L : Int); omega⟩) rfl dL_law_499 ?_
    refine g_callV (n := 2) hk (m149_X12_set l D zt g r (xs 1) (xs 2)) (SP.pre _ _) (fun q h => List.mem_append_right _ h) (gi_V zw_1702 zw_1703 zw_1704 zw_115 (gi_sub zi_m149_X12_set zg_m149_X12_set)) rfl rfl rfl (by decide +kernel) ⟨Nat.le_of_ble_eq_true rfl, Nat.le_of_ble_eq_true rfl⟩ 0 rfl rfl rfl rfl (Nat.le_of_ble_eq_true rfl) ⟨Nat.le_of_ble_eq_true rfl, Nat.le_of_ble_eq_true rfl⟩ dL_law_500 (fun v ty' w' hp hk' => ?_)
    rcases hp with ⟨c2894, rfl, rfl⟩ | ⟨c2895, c2896, rfl, rfl⟩ | ⟨c2897, c2898, c2899, c2900, c2901, rfl, rfl⟩ | ⟨c2902, c2903, c2904, c2905, c2906, c2907, rfl, rfl⟩ | ⟨y2908, c2909, c2910, c2911, c2912, c2913, c2914, rfl, rfl⟩ | ⟨c2915, c2916, c2917, c2918, rfl, rfl⟩ | ⟨c2919, c2920, c2921, c2922, c2923, c2924, rfl, rfl⟩ | ⟨c2925, c2926, c2927, c2928, c2929, c2930, c2931, rfl, rfl⟩ | ⟨y2932, c2933, c2934, c2935, c2936, c2937, c2938, c2939, rfl, rfl⟩ | ⟨c2940, c2941, c2942, c2943, c2944, rfl, rfl⟩ | ⟨c2945, c2946, c2947, c2948, c2949, c2950, c2951, rfl, rfl⟩ | ⟨c2952, c2953, c2954, c2955, c2956, c2957, c2958, c2959, rfl, rfl⟩ | ⟨y2960, c2961, c2962, c2963, c2964, c2965, c2966, c2967, c2968, rfl, rfl⟩ | ⟨c2969, c2970, c2971, c2972, c2973, c2974, rfl, rfl⟩ | ⟨c2975, c2976, c2977, c2978, c2979, c2980, c2981, c2982, rfl, rfl⟩ | ⟨c2983, c2984, c2985, c2986, c2987, c2988, c2989, c2990, c2991, rfl, rfl⟩ | ⟨y2992, c2993, c2994, c2995, c2996, c2997, c2998, c2999, c3000, c3001, rfl, rfl⟩ | ⟨c3002, c3003, c3004, c3005, c3006, c3007, c3008, rfl, rfl⟩
    · show GW κ 4 82 21282 (wX q d iX0 aX0 ++ wM r g iM1 aM1 lM1) 503 [(3, .int 0), (2, .ref (r 0)), (1, .ref (q 0)), (0, .ref b)] [.int 0, .int 0]
      exfalso; omega
    · show GW κ 4 82 21282 (wX q d iX0 aX0 ++ wM r g iM1 aM1 lM1) 503 [(3, .int 0), (2, .ref (r 0)), (1, .ref (q 0)), (0, .ref b)] [.int 0, .int 0]
      exfalso; omega
    · show GW κ 4 82 21282 (wX q d iX0 aX0 ++ wM r g iM1 aM1 lM1) 503 [(3, .int 0), (2, .ref (r 0)), (1, .ref (q 0)), (0, .ref b)] [.int 0, .int 0]
      exfalso; omega
    · show GW κ 4 82 21282 (wX q d iX0 aX0 ++ wM r g iM1 aM1 lM1) 503 [(3, .int 0), (2, .ref (r 0)), (1, .ref (q 0)), (0, .ref b)] [.int 0, .int 0]
      exfalso; omega
    · show GW κ 4 82 21282 (wX q d iX0 aX0 ++ wM r g (upd iM1 22 1) (up2 (up2 (up3 (up2 aM1 18 (cp (aM1 17) (aM1 18) 165)) 18 161 (xs 2)) 22 y2908) 17 (cp ((up2 (up3 (up2 aM1 18 (cp (aM1 17) (aM1 18) 165)) 18 161 (xs 2)) 22 y2908) 18) ((up2 (up3 (up2 aM1 18 (cp (aM1 17) (aM1 18) 165)) 18 161 (xs 2)) 22 y2908) 17) 165)) lM1) 503 [(3, .int 0), (2, .ref (r 0)), (1, .ref (q 0)), (0, .ref b)] [.int 1, .int 0]
      exfalso; omega
    · show GW κ 4 82 21282 (wX q d iX0 aX0 ++ wM r g iM1 aM1 lM1) 503 [(3, .int 0), (2, .ref (r 0)), (1, .ref (q 0)), (0, .ref b)] [.int 0, .int 0]
      exfalso; omega
    · show GW κ 4 82 21282 (wX q d iX0 aX0 ++ wM r g iM1 aM1 lM1) 503 [(3, .int 0), (2, .ref (r 0)), (1, .ref (q 0)), (0, .ref b)] [.int 0, .int 0]
      exfalso; omega
    · show GW κ 4 82 21282 (wX q d iX0 aX0 ++ wM r g iM1 aM1 lM1) 503 [(3, .int 0), (2, .ref (r 0)), (1, .ref (q 0)), (0, .ref b)] [.int 0, .int 0]
      exfalso; omega
    · show GW κ 4 82 21282 (wX q d iX0 aX0 ++ wM r g (upd iM1 22 1) (up2 (up2 (up3 (up2 aM1 18 (cp (aM1 17) (aM1 18) 165)) 18 162 (xs 2)) 22 y2932) 17 (cp ((up2 (up3 (up2 aM1 18 (cp (aM1 17) (aM1 18) 165)) 18 162 (xs 2)) 22 y2932) 18) ((up2 (up3 (up2 aM1 18 (cp (aM1 17) (aM1 18) 165)) 18 162 (xs 2)) 22 y2932) 17) 165)) lM1) 503 [(3, .int 0), (2, .ref (r 0)), (1, .ref (q 0)), (0, .ref b)] [.int 1, .int 0]
      exfalso; omega
    · show GW κ 4 82 21282 (wX q d iX0 aX0 ++ wM r g iM1 aM1 lM1) 503 [(3, .int 0), (2, .ref (r 0)), (1, .ref (q 0)), (0, .ref b)] [.int 0, .int 0]
      exfalso; omega
    · show GW κ 4 82 21282 (wX q d iX0 aX0 ++ wM r g iM1 aM1 lM1) 503 [(3, .int 0), (2, .ref (r 0)), (1, .ref (q 0)), (0, .ref b)] [.int 0, .int 0]
      exfalso; omega
    · show GW κ 4 82 21282 (wX q d iX0 aX0 ++ wM r g iM1 aM1 lM1) 503 [(3, .int 0), (2, .ref (r 0)), (1, .ref (q 0)), (0, .ref b)] [.int 0, .int 0]
      exfalso; omega
    · show GW κ 4 82 21282 (wX q d iX0 aX0 ++ wM r g (upd iM1 22 1) (up2 (up2 (up3 (up2 aM1 18 (cp (aM1 17) (aM1 18) 165)) 18 163 (xs 2)) 22 y2960) 17 (cp ((up2 (up3 (up2 aM1 18 (cp (aM1 17) (aM1 18) 165)) 18 163 (xs 2)) 22 y2960) 18) ((up2 (up3 (up2 aM1 18 (cp (aM1 17) (aM1 18) 165)) 18 163 (xs 2)) 22 y2960) 17) 165)) lM1) 503 [(3, .int 0), (2, .ref (r 0)), (1, .ref (q 0)), (0, .ref b)] [.int 1, .int 0]
      exfalso; omega
    · show GW κ 4 82 21282 (wX q d iX0 aX0 ++ wM r g iM1 aM1 lM1) 503 [(3, .int 0), (2, .ref (r 0)), (1, .ref (q 0)), (0, .ref b)] [.int 0, .int 0]
      exfalso; omega
    · show GW κ 4 82 21282 (wX q d iX0 aX0 ++ wM r g iM1 aM1 lM1) 503 [(3, .int 0), (2, .ref (r 0)), (1, .ref (q 0)), (0, .ref b)] [.int 0, .int 0]
      refine g_icmp_eq (tgt := 1465) (a := 0) (b := 0) hk dL_law_503 (by decide) rfl rfl (fun _ => ?_) (fun z9 => absurd (show (0 : Int) = (0 : Int) from by decide) z9)
      exact tail _
    · show GW κ 4 82 21282 (wX q d iX0 aX0 ++ wM r g iM1 aM1 lM1) 503 [(3, .int 0), (2, .ref (r 0)), (1, .ref (q 0)), (0, .ref b)] [.int 0, .int 0]
      exfalso; omega
    · show GW κ 4 82 21282 (wX q d iX0 aX0 ++ wM r g (upd iM1 22 1) (up2 (up2 (up3 (up2 aM1 18 (cp (aM1 17) (aM1 18) 165)) 18 164 (xs 2)) 22 y2992) 17 (cp ((up2 (up3 (up2 aM1 18 (cp (aM1 17) (aM1 18) 165)) 18 164 (xs 2)) 22 y2992) 18) ((up2 (up3 (up2 aM1 18 (cp (aM1 17) (aM1 18) 165)) 18 164 (xs 2)) 22 y2992) 17) 165)) lM1) 503 [(3, .int 0), (2, .ref (r 0)), (1, .ref (q 0)), (0, .ref b)] [.int 1, .int 0]
      exfalso; omega
    · show GW κ 4 82 21282 (wX q d iX0 aX0 ++ wM r g iM1 aM1 lM1) 503 [(3, .int 0), (2, .ref (r 0)), (1, .ref (q 0)), (0, .ref b)] [.int 0, .int 0]
      exfalso; omega
  · show GW κ 4 82 21282 (wM r g iM1 aM1 lM1 ++ wX q d iX0 aX0) 489 [(3, .int 0), (2, .ref (r 0)), (1, .ref (q 0)), (0, .ref b)] [.int 0]
    refine g_aload_n hk dL_law_489 rfl ?_
    refine g_aload_n hk dL_law_490 rfl ?_
    refine g_iload_n hk dL_law_491 rfl ?_
    refine g_iconst (v := 1) hk dL_law_492 (by decide) ?_
    refine g_iadd hk dL_law_493 ?_
    refine g_norm (v := 1) (by decide) ?_
    refine g_sld (v := xs 1) hk hX (vp_in_iff.mpr ⟨by decide, by show (1 : Int) < (L : Int); omega⟩) rfl dL_law_494 ?_
    refine g_aload_n hk dL_law_495 rfl ?_
    refine g_iload_n hk dL_law_496 rfl ?_
    refine g_iconst (v := 2) hk dL_law_497 (by decide) ?_
    refine g_iadd hk dL_law_498 ?_
    refine g_norm (v := 2) (by decide) ?_
    refine g_sld (v := xs 2) hk hX (vp_in_iff.mpr ⟨by decide, by show (2 : Int) < (L : Int); omega⟩) rfl dL_law_499 ?_
    refine g_callV (n := 2) hk (m149_X12_set l D zt g r (xs 1) (xs 2)) (SP.pre _ _) (fun q h => List.mem_append_right _ h) (gi_V zw_1702 zw_1703 zw_1704 zw_115 (gi_sub zi_m149_X12_set zg_m149_X12_set)) rfl rfl rfl (by decide +kernel) ⟨Nat.le_of_ble_eq_true rfl, Nat.le_of_ble_eq_true rfl⟩ 0 rfl rfl rfl rfl (Nat.le_of_ble_eq_true rfl) ⟨Nat.le_of_ble_eq_true rfl, Nat.le_of_ble_eq_true rfl⟩ dL_law_500 (fun v ty' w' hp hk' => ?_)
    rcases hp with ⟨c3009, rfl, rfl⟩ | ⟨c3010, c3011, rfl, rfl⟩ | ⟨c3012, c3013, c3014, c3015, c3016, rfl, rfl⟩ | ⟨c3017, c3018, c3019, c3020, c3021, c3022, rfl, rfl⟩ | ⟨y3023, c3024, c3025, c3026, c3027, c3028, c3029, rfl, rfl⟩ | ⟨c3030, c3031, c3032, c3033, rfl, rfl⟩ | ⟨c3034, c3035, c3036, c3037, c3038, c3039, rfl, rfl⟩ | ⟨c3040, c3041, c3042, c3043, c3044, c3045, c3046, rfl, rfl⟩ | ⟨y3047, c3048, c3049, c3050, c3051, c3052, c3053, c3054, rfl, rfl⟩ | ⟨c3055, c3056, c3057, c3058, c3059, rfl, rfl⟩ | ⟨c3060, c3061, c3062, c3063, c3064, c3065, c3066, rfl, rfl⟩ | ⟨c3067, c3068, c3069, c3070, c3071, c3072, c3073, c3074, rfl, rfl⟩ | ⟨y3075, c3076, c3077, c3078, c3079, c3080, c3081, c3082, c3083, rfl, rfl⟩ | ⟨c3084, c3085, c3086, c3087, c3088, c3089, rfl, rfl⟩ | ⟨c3090, c3091, c3092, c3093, c3094, c3095, c3096, c3097, rfl, rfl⟩ | ⟨c3098, c3099, c3100, c3101, c3102, c3103, c3104, c3105, c3106, rfl, rfl⟩ | ⟨y3107, c3108, c3109, c3110, c3111, c3112, c3113, c3114, c3115, c3116, rfl, rfl⟩ | ⟨c3117, c3118, c3119, c3120, c3121, c3122, c3123, rfl, rfl⟩
    · show GW κ 4 82 21282 (wX q d iX0 aX0 ++ wM r g iM1 aM1 lM1) 503 [(3, .int 0), (2, .ref (r 0)), (1, .ref (q 0)), (0, .ref b)] [.int 0, .int 0]
      exfalso; omega
    · show GW κ 4 82 21282 (wX q d iX0 aX0 ++ wM r g iM1 aM1 lM1) 503 [(3, .int 0), (2, .ref (r 0)), (1, .ref (q 0)), (0, .ref b)] [.int 0, .int 0]
      exfalso; omega
    · show GW κ 4 82 21282 (wX q d iX0 aX0 ++ wM r g iM1 aM1 lM1) 503 [(3, .int 0), (2, .ref (r 0)), (1, .ref (q 0)), (0, .ref b)] [.int 0, .int 0]
      exfalso; omega
    · show GW κ 4 82 21282 (wX q d iX0 aX0 ++ wM r g iM1 aM1 lM1) 503 [(3, .int 0), (2, .ref (r 0)), (1, .ref (q 0)), (0, .ref b)] [.int 0, .int 0]
      exfalso; omega
    · show GW κ 4 82 21282 (wX q d iX0 aX0 ++ wM r g (upd iM1 22 1) (up2 (up2 (up3 (up2 aM1 18 (cp (aM1 17) (aM1 18) 165)) 18 161 (xs 2)) 22 y3023) 17 (cp ((up2 (up3 (up2 aM1 18 (cp (aM1 17) (aM1 18) 165)) 18 161 (xs 2)) 22 y3023) 18) ((up2 (up3 (up2 aM1 18 (cp (aM1 17) (aM1 18) 165)) 18 161 (xs 2)) 22 y3023) 17) 165)) lM1) 503 [(3, .int 0), (2, .ref (r 0)), (1, .ref (q 0)), (0, .ref b)] [.int 1, .int 0]
      exfalso; omega
    · show GW κ 4 82 21282 (wX q d iX0 aX0 ++ wM r g iM1 aM1 lM1) 503 [(3, .int 0), (2, .ref (r 0)), (1, .ref (q 0)), (0, .ref b)] [.int 0, .int 0]
      exfalso; omega
    · show GW κ 4 82 21282 (wX q d iX0 aX0 ++ wM r g iM1 aM1 lM1) 503 [(3, .int 0), (2, .ref (r 0)), (1, .ref (q 0)), (0, .ref b)] [.int 0, .int 0]
      exfalso; omega
    · show GW κ 4 82 21282 (wX q d iX0 aX0 ++ wM r g iM1 aM1 lM1) 503 [(3, .int 0), (2, .ref (r 0)), (1, .ref (q 0)), (0, .ref b)] [.int 0, .int 0]
      exfalso; omega
    · show GW κ 4 82 21282 (wX q d iX0 aX0 ++ wM r g (upd iM1 22 1) (up2 (up2 (up3 (up2 aM1 18 (cp (aM1 17) (aM1 18) 165)) 18 162 (xs 2)) 22 y3047) 17 (cp ((up2 (up3 (up2 aM1 18 (cp (aM1 17) (aM1 18) 165)) 18 162 (xs 2)) 22 y3047) 18) ((up2 (up3 (up2 aM1 18 (cp (aM1 17) (aM1 18) 165)) 18 162 (xs 2)) 22 y3047) 17) 165)) lM1) 503 [(3, .int 0), (2, .ref (r 0)), (1, .ref (q 0)), (0, .ref b)] [.int 1, .int 0]
      exfalso; omega
    · show GW κ 4 82 21282 (wX q d iX0 aX0 ++ wM r g iM1 aM1 lM1) 503 [(3, .int 0), (2, .ref (r 0)), (1, .ref (q 0)), (0, .ref b)] [.int 0, .int 0]
      exfalso; omega
    · show GW κ 4 82 21282 (wX q d iX0 aX0 ++ wM r g iM1 aM1 lM1) 503 [(3, .int 0), (2, .ref (r 0)), (1, .ref (q 0)), (0, .ref b)] [.int 0, .int 0]
      exfalso; omega
    · show GW κ 4 82 21282 (wX q d iX0 aX0 ++ wM r g iM1 aM1 lM1) 503 [(3, .int 0), (2, .ref (r 0)), (1, .ref (q 0)), (0, .ref b)] [.int 0, .int 0]
      exfalso; omega
    · show GW κ 4 82 21282 (wX q d iX0 aX0 ++ wM r g (upd iM1 22 1) (up2 (up2 (up3 (up2 aM1 18 (cp (aM1 17) (aM1 18) 165)) 18 163 (xs 2)) 22 y3075) 17 (cp ((up2 (up3 (up2 aM1 18 (cp (aM1 17) (aM1 18) 165)) 18 163 (xs 2)) 22 y3075) 18) ((up2 (up3 (up2 aM1 18 (cp (aM1 17) (aM1 18) 165)) 18 163 (xs 2)) 22 y3075) 17) 165)) lM1) 503 [(3, .int 0), (2, .ref (r 0)), (1, .ref (q 0)), (0, .ref b)] [.int 1, .int 0]
      exfalso; omega
    · show GW κ 4 82 21282 (wX q d iX0 aX0 ++ wM r g iM1 aM1 lM1) 503 [(3, .int 0), (2, .ref (r 0)), (1, .ref (q 0)), (0, .ref b)] [.int 0, .int 0]
      exfalso; omega
    · show GW κ 4 82 21282 (wX q d iX0 aX0 ++ wM r g iM1 aM1 lM1) 503 [(3, .int 0), (2, .ref (r 0)), (1, .ref (q 0)), (0, .ref b)] [.int 0, .int 0]
      exfalso; omega
    · show GW κ 4 82 21282 (wX q d iX0 aX0 ++ wM r g iM1 aM1 lM1) 503 [(3, .int 0), (2, .ref (r 0)), (1, .ref (q 0)), (0, .ref b)] [.int 0, .int 0]
      refine g_icmp_eq (tgt := 1465) (a := 0) (b := 0) hk dL_law_503 (by decide) rfl rfl (fun _ => ?_) (fun z9 => absurd (show (0 : Int) = (0 : Int) from by decide) z9)
      exact tail _
    · show GW κ 4 82 21282 (wX q d iX0 aX0 ++ wM r g (upd iM1 22 1) (up2 (up2 (up3 (up2 aM1 18 (cp (aM1 17) (aM1 18) 165)) 18 164 (xs 2)) 22 y3107) 17 (cp ((up2 (up3 (up2 aM1 18 (cp (aM1 17) (aM1 18) 165)) 18 164 (xs 2)) 22 y3107) 18) ((up2 (up3 (up2 aM1 18 (cp (aM1 17) (aM1 18) 165)) 18 164 (xs 2)) 22 y3107) 17) 165)) lM1) 503 [(3, .int 0), (2, .ref (r 0)), (1, .ref (q 0)), (0, .ref b)] [.int 1, .int 0]
      exfalso; omega
    · show GW κ 4 82 21282 (wX q d iX0 aX0 ++ wM r g iM1 aM1 lM1) 503 [(3, .int 0), (2, .ref (r 0)), (1, .ref (q 0)), (0, .ref b)] [.int 0, .int 0]
      exfalso; omega
  · show GW κ 4 82 21282 (wM r g iM1 aM1 lM1 ++ wX q d (upd (upd iX0 20 1) 21 1) (up3 (up3 (up3 (up3 aX0 10 3 (xs 2)) 11 0 3) 12 0 (xs 1)) 13 0 8)) 489 [(3, .int 0), (2, .ref (r 0)), (1, .ref (q 0)), (0, .ref b)] [.int 1]
    refine g_aload_n hk dL_law_489 rfl ?_
    refine g_aload_n hk dL_law_490 rfl ?_
    refine g_iload_n hk dL_law_491 rfl ?_
    refine g_iconst (v := 1) hk dL_law_492 (by decide) ?_
    refine g_iadd hk dL_law_493 ?_
    refine g_norm (v := 1) (by decide) ?_
    refine g_sld (v := xs 1) hk hX (vp_in_iff.mpr ⟨by decide, by show (1 : Int) < (L : Int); omega⟩) rfl dL_law_494 ?_
    refine g_aload_n hk dL_law_495 rfl ?_
    refine g_iload_n hk dL_law_496 rfl ?_
    refine g_iconst (v := 2) hk dL_law_497 (by decide) ?_
    refine g_iadd hk dL_law_498 ?_
    refine g_norm (v := 2) (by decide) ?_
    refine g_sld (v := xs 2) hk hX (vp_in_iff.mpr ⟨by decide, by show (2 : Int) < (L : Int); omega⟩) rfl dL_law_499 ?_
    refine g_callV (n := 2) hk (m149_X12_set l D zt g r (xs 1) (xs 2)) (SP.pre _ _) (fun q h => List.mem_append_right _ h) (gi_V zw_1702 zw_1703 zw_1704 zw_115 (gi_sub zi_m149_X12_set zg_m149_X12_set)) rfl rfl rfl (by decide +kernel) ⟨Nat.le_of_ble_eq_true rfl, Nat.le_of_ble_eq_true rfl⟩ 0 rfl rfl rfl rfl (Nat.le_of_ble_eq_true rfl) ⟨Nat.le_of_ble_eq_true rfl, Nat.le_of_ble_eq_true rfl⟩ dL_law_500 (fun v ty' w' hp hk' => ?_)
    rcases hp with ⟨c3124, rfl, rfl⟩ | ⟨c3125, c3126, rfl, rfl⟩ | ⟨c3127, c3128, c3129, c3130, c3131, rfl, rfl⟩ | ⟨c3132, c3133, c3134, c3135, c3136, c3137, rfl, rfl⟩ | ⟨y3138, c3139, c3140, c3141, c3142, c3143, c3144, rfl, rfl⟩ | ⟨c3145, c3146, c3147, c3148, rfl, rfl⟩ | ⟨c3149, c3150, c3151, c3152, c3153, c3154, rfl, rfl⟩ | ⟨c3155, c3156, c3157, c3158, c3159, c3160, c3161, rfl, rfl⟩ | ⟨y3162, c3163, c3164, c3165, c3166, c3167, c3168, c3169, rfl, rfl⟩ | ⟨c3170, c3171, c3172, c3173, c3174, rfl, rfl⟩ | ⟨c3175, c3176, c3177, c3178, c3179, c3180, c3181, rfl, rfl⟩ | ⟨c3182, c3183, c3184, c3185, c3186, c3187, c3188, c3189, rfl, rfl⟩ | ⟨y3190, c3191, c3192, c3193, c3194, c3195, c3196, c3197, c3198, rfl, rfl⟩ | ⟨c3199, c3200, c3201, c3202, c3203, c3204, rfl, rfl⟩ | ⟨c3205, c3206, c3207, c3208, c3209, c3210, c3211, c3212, rfl, rfl⟩ | ⟨c3213, c3214, c3215, c3216, c3217, c3218, c3219, c3220, c3221, rfl, rfl⟩ | ⟨y3222, c3223, c3224, c3225, c3226, c3227, c3228, c3229, c3230, c3231, rfl, rfl⟩ | ⟨c3232, c3233, c3234, c3235, c3236, c3237, c3238, rfl, rfl⟩
    · show GW κ 4 82 21282 (wX q d (upd (upd iX0 20 1) 21 1) (up3 (up3 (up3 (up3 aX0 10 3 (xs 2)) 11 0 3) 12 0 (xs 1)) 13 0 8) ++ wM r g iM1 aM1 lM1) 503 [(3, .int 0), (2, .ref (r 0)), (1, .ref (q 0)), (0, .ref b)] [.int 0, .int 1]
      exfalso; omega
    · show GW κ 4 82 21282 (wX q d (upd (upd iX0 20 1) 21 1) (up3 (up3 (up3 (up3 aX0 10 3 (xs 2)) 11 0 3) 12 0 (xs 1)) 13 0 8) ++ wM r g iM1 aM1 lM1) 503 [(3, .int 0), (2, .ref (r 0)), (1, .ref (q 0)), (0, .ref b)] [.int 0, .int 1]
      exfalso; omega
    · show GW κ 4 82 21282 (wX q d (upd (upd iX0 20 1) 21 1) (up3 (up3 (up3 (up3 aX0 10 3 (xs 2)) 11 0 3) 12 0 (xs 1)) 13 0 8) ++ wM r g iM1 aM1 lM1) 503 [(3, .int 0), (2, .ref (r 0)), (1, .ref (q 0)), (0, .ref b)] [.int 0, .int 1]
      exfalso; omega
    · show GW κ 4 82 21282 (wX q d (upd (upd iX0 20 1) 21 1) (up3 (up3 (up3 (up3 aX0 10 3 (xs 2)) 11 0 3) 12 0 (xs 1)) 13 0 8) ++ wM r g iM1 aM1 lM1) 503 [(3, .int 0), (2, .ref (r 0)), (1, .ref (q 0)), (0, .ref b)] [.int 0, .int 1]
      exfalso; omega
    · show GW κ 4 82 21282 (wX q d (upd (upd iX0 20 1) 21 1) (up3 (up3 (up3 (up3 aX0 10 3 (xs 2)) 11 0 3) 12 0 (xs 1)) 13 0 8) ++ wM r g (upd iM1 22 1) (up2 (up2 (up3 (up2 aM1 18 (cp (aM1 17) (aM1 18) 165)) 18 161 (xs 2)) 22 y3138) 17 (cp ((up2 (up3 (up2 aM1 18 (cp (aM1 17) (aM1 18) 165)) 18 161 (xs 2)) 22 y3138) 18) ((up2 (up3 (up2 aM1 18 (cp (aM1 17) (aM1 18) 165)) 18 161 (xs 2)) 22 y3138) 17) 165)) lM1) 503 [(3, .int 0), (2, .ref (r 0)), (1, .ref (q 0)), (0, .ref b)] [.int 1, .int 1]
      exfalso; omega
    · show GW κ 4 82 21282 (wX q d (upd (upd iX0 20 1) 21 1) (up3 (up3 (up3 (up3 aX0 10 3 (xs 2)) 11 0 3) 12 0 (xs 1)) 13 0 8) ++ wM r g iM1 aM1 lM1) 503 [(3, .int 0), (2, .ref (r 0)), (1, .ref (q 0)), (0, .ref b)] [.int 0, .int 1]
      exfalso; omega
    · show GW κ 4 82 21282 (wX q d (upd (upd iX0 20 1) 21 1) (up3 (up3 (up3 (up3 aX0 10 3 (xs 2)) 11 0 3) 12 0 (xs 1)) 13 0 8) ++ wM r g iM1 aM1 lM1) 503 [(3, .int 0), (2, .ref (r 0)), (1, .ref (q 0)), (0, .ref b)] [.int 0, .int 1]
      exfalso; omega
    · show GW κ 4 82 21282 (wX q d (upd (upd iX0 20 1) 21 1) (up3 (up3 (up3 (up3 aX0 10 3 (xs 2)) 11 0 3) 12 0 (xs 1)) 13 0 8) ++ wM r g iM1 aM1 lM1) 503 [(3, .int 0), (2, .ref (r 0)), (1, .ref (q 0)), (0, .ref b)] [.int 0, .int 1]
      exfalso; omega
    · show GW κ 4 82 21282 (wX q d (upd (upd iX0 20 1) 21 1) (up3 (up3 (up3 (up3 aX0 10 3 (xs 2)) 11 0 3) 12 0 (xs 1)) 13 0 8) ++ wM r g (upd iM1 22 1) (up2 (up2 (up3 (up2 aM1 18 (cp (aM1 17) (aM1 18) 165)) 18 162 (xs 2)) 22 y3162) 17 (cp ((up2 (up3 (up2 aM1 18 (cp (aM1 17) (aM1 18) 165)) 18 162 (xs 2)) 22 y3162) 18) ((up2 (up3 (up2 aM1 18 (cp (aM1 17) (aM1 18) 165)) 18 162 (xs 2)) 22 y3162) 17) 165)) lM1) 503 [(3, .int 0), (2, .ref (r 0)), (1, .ref (q 0)), (0, .ref b)] [.int 1, .int 1]
      exfalso; omega
    · show GW κ 4 82 21282 (wX q d (upd (upd iX0 20 1) 21 1) (up3 (up3 (up3 (up3 aX0 10 3 (xs 2)) 11 0 3) 12 0 (xs 1)) 13 0 8) ++ wM r g iM1 aM1 lM1) 503 [(3, .int 0), (2, .ref (r 0)), (1, .ref (q 0)), (0, .ref b)] [.int 0, .int 1]
      exfalso; omega
    · show GW κ 4 82 21282 (wX q d (upd (upd iX0 20 1) 21 1) (up3 (up3 (up3 (up3 aX0 10 3 (xs 2)) 11 0 3) 12 0 (xs 1)) 13 0 8) ++ wM r g iM1 aM1 lM1) 503 [(3, .int 0), (2, .ref (r 0)), (1, .ref (q 0)), (0, .ref b)] [.int 0, .int 1]
      exfalso; omega
    · show GW κ 4 82 21282 (wX q d (upd (upd iX0 20 1) 21 1) (up3 (up3 (up3 (up3 aX0 10 3 (xs 2)) 11 0 3) 12 0 (xs 1)) 13 0 8) ++ wM r g iM1 aM1 lM1) 503 [(3, .int 0), (2, .ref (r 0)), (1, .ref (q 0)), (0, .ref b)] [.int 0, .int 1]
      exfalso; omega
    · show GW κ 4 82 21282 (wX q d (upd (upd iX0 20 1) 21 1) (up3 (up3 (up3 (up3 aX0 10 3 (xs 2)) 11 0 3) 12 0 (xs 1)) 13 0 8) ++ wM r g (upd iM1 22 1) (up2 (up2 (up3 (up2 aM1 18 (cp (aM1 17) (aM1 18) 165)) 18 163 (xs 2)) 22 y3190) 17 (cp ((up2 (up3 (up2 aM1 18 (cp (aM1 17) (aM1 18) 165)) 18 163 (xs 2)) 22 y3190) 18) ((up2 (up3 (up2 aM1 18 (cp (aM1 17) (aM1 18) 165)) 18 163 (xs 2)) 22 y3190) 17) 165)) lM1) 503 [(3, .int 0), (2, .ref (r 0)), (1, .ref (q 0)), (0, .ref b)] [.int 1, .int 1]
      exfalso; omega
    · show GW κ 4 82 21282 (wX q d (upd (upd iX0 20 1) 21 1) (up3 (up3 (up3 (up3 aX0 10 3 (xs 2)) 11 0 3) 12 0 (xs 1)) 13 0 8) ++ wM r g iM1 aM1 lM1) 503 [(3, .int 0), (2, .ref (r 0)), (1, .ref (q 0)), (0, .ref b)] [.int 0, .int 1]
      exfalso; omega
    · show GW κ 4 82 21282 (wX q d (upd (upd iX0 20 1) 21 1) (up3 (up3 (up3 (up3 aX0 10 3 (xs 2)) 11 0 3) 12 0 (xs 1)) 13 0 8) ++ wM r g iM1 aM1 lM1) 503 [(3, .int 0), (2, .ref (r 0)), (1, .ref (q 0)), (0, .ref b)] [.int 0, .int 1]
      exfalso; omega
    · show GW κ 4 82 21282 (wX q d (upd (upd iX0 20 1) 21 1) (up3 (up3 (up3 (up3 aX0 10 3 (xs 2)) 11 0 3) 12 0 (xs 1)) 13 0 8) ++ wM r g iM1 aM1 lM1) 503 [(3, .int 0), (2, .ref (r 0)), (1, .ref (q 0)), (0, .ref b)] [.int 0, .int 1]
      exfalso; omega
    · show GW κ 4 82 21282 (wX q d (upd (upd iX0 20 1) 21 1) (up3 (up3 (up3 (up3 aX0 10 3 (xs 2)) 11 0 3) 12 0 (xs 1)) 13 0 8) ++ wM r g (upd iM1 22 1) (up2 (up2 (up3 (up2 aM1 18 (cp (aM1 17) (aM1 18) 165)) 18 164 (xs 2)) 22 y3222) 17 (cp ((up2 (up3 (up2 aM1 18 (cp (aM1 17) (aM1 18) 165)) 18 164 (xs 2)) 22 y3222) 18) ((up2 (up3 (up2 aM1 18 (cp (aM1 17) (aM1 18) 165)) 18 164 (xs 2)) 22 y3222) 17) 165)) lM1) 503 [(3, .int 0), (2, .ref (r 0)), (1, .ref (q 0)), (0, .ref b)] [.int 1, .int 1]
      refine g_icmp_eq (tgt := 1465) (a := 1) (b := 1) hk dL_law_503 (by decide) rfl rfl (fun _ => ?_) (fun z9 => absurd (show (1 : Int) = (1 : Int) from by decide) z9)
      exact tail _
    · show GW κ 4 82 21282 (wX q d (upd (upd iX0 20 1) 21 1) (up3 (up3 (up3 (up3 aX0 10 3 (xs 2)) 11 0 3) 12 0 (xs 1)) 13 0 8) ++ wM r g iM1 aM1 lM1) 503 [(3, .int 0), (2, .ref (r 0)), (1, .ref (q 0)), (0, .ref b)] [.int 0, .int 1]
      exfalso; omega
  · show GW κ 4 82 21282 (wM r g iM1 aM1 lM1 ++ wX q d iX0 aX0) 489 [(3, .int 0), (2, .ref (r 0)), (1, .ref (q 0)), (0, .ref b)] [.int 0]
    refine g_aload_n hk dL_law_489 rfl ?_
    refine g_aload_n hk dL_law_490 rfl ?_
    refine g_iload_n hk dL_law_491 rfl ?_
    refine g_iconst (v := 1) hk dL_law_492 (by decide) ?_
    refine g_iadd hk dL_law_493 ?_
    refine g_norm (v := 1) (by decide) ?_
    refine g_sld (v := xs 1) hk hX (vp_in_iff.mpr ⟨by decide, by show (1 : Int) < (L : Int); omega⟩) rfl dL_law_494 ?_
    refine g_aload_n hk dL_law_495 rfl ?_
    refine g_iload_n hk dL_law_496 rfl ?_
    refine g_iconst (v := 2) hk dL_law_497 (by decide) ?_
    refine g_iadd hk dL_law_498 ?_
    refine g_norm (v := 2) (by decide) ?_
    refine g_sld (v := xs 2) hk hX (vp_in_iff.mpr ⟨by decide, by show (2 : Int) < (L : Int); omega⟩) rfl dL_law_499 ?_
    refine g_callV (n := 2) hk (m149_X12_set l D zt g r (xs 1) (xs 2)) (SP.pre _ _) (fun q h => List.mem_append_right _ h) (gi_V zw_1702 zw_1703 zw_1704 zw_115 (gi_sub zi_m149_X12_set zg_m149_X12_set)) rfl rfl rfl (by decide +kernel) ⟨Nat.le_of_ble_eq_true rfl, Nat.le_of_ble_eq_true rfl⟩ 0 rfl rfl rfl rfl (Nat.le_of_ble_eq_true rfl) ⟨Nat.le_of_ble_eq_true rfl, Nat.le_of_ble_eq_true rfl⟩ dL_law_500 (fun v ty' w' hp hk' => ?_)
    rcases hp with ⟨c3239, rfl, rfl⟩ | ⟨c3240, c3241, rfl, rfl⟩ | ⟨c3242, c3243, c3244, c3245, c3246, rfl, rfl⟩ | ⟨c3247, c3248, c3249, c3250, c3251, c3252, rfl, rfl⟩ | ⟨y3253, c3254, c3255, c3256, c3257, c3258, c3259, rfl, rfl⟩ | ⟨c3260, c3261, c3262, c3263, rfl, rfl⟩ | ⟨c3264, c3265, c3266, c3267, c3268, c3269, rfl, rfl⟩ | ⟨c3270, c3271, c3272, c3273, c3274, c3275, c3276, rfl, rfl⟩ | ⟨y3277, c3278, c3279, c3280, c3281, c3282, c3283, c3284, rfl, rfl⟩ | ⟨c3285, c3286, c3287, c3288, c3289, rfl, rfl⟩ | ⟨c3290, c3291, c3292, c3293, c3294, c3295, c3296, rfl, rfl⟩ | ⟨c3297, c3298, c3299, c3300, c3301, c3302, c3303, c3304, rfl, rfl⟩ | ⟨y3305, c3306, c3307, c3308, c3309, c3310, c3311, c3312, c3313, rfl, rfl⟩ | ⟨c3314, c3315, c3316, c3317, c3318, c3319, rfl, rfl⟩ | ⟨c3320, c3321, c3322, c3323, c3324, c3325, c3326, c3327, rfl, rfl⟩ | ⟨c3328, c3329, c3330, c3331, c3332, c3333, c3334, c3335, c3336, rfl, rfl⟩ | ⟨y3337, c3338, c3339, c3340, c3341, c3342, c3343, c3344, c3345, c3346, rfl, rfl⟩ | ⟨c3347, c3348, c3349, c3350, c3351, c3352, c3353, rfl, rfl⟩
    · show GW κ 4 82 21282 (wX q d iX0 aX0 ++ wM r g iM1 aM1 lM1) 503 [(3, .int 0), (2, .ref (r 0)), (1, .ref (q 0)), (0, .ref b)] [.int 0, .int 0]
      exfalso; omega
    · show GW κ 4 82 21282 (wX q d iX0 aX0 ++ wM r g iM1 aM1 lM1) 503 [(3, .int 0), (2, .ref (r 0)), (1, .ref (q 0)), (0, .ref b)] [.int 0, .int 0]
      exfalso; omega
    · show GW κ 4 82 21282 (wX q d iX0 aX0 ++ wM r g iM1 aM1 lM1) 503 [(3, .int 0), (2, .ref (r 0)), (1, .ref (q 0)), (0, .ref b)] [.int 0, .int 0]
      exfalso; omega
    · show GW κ 4 82 21282 (wX q d iX0 aX0 ++ wM r g iM1 aM1 lM1) 503 [(3, .int 0), (2, .ref (r 0)), (1, .ref (q 0)), (0, .ref b)] [.int 0, .int 0]
      exfalso; omega
    · show GW κ 4 82 21282 (wX q d iX0 aX0 ++ wM r g (upd iM1 22 1) (up2 (up2 (up3 (up2 aM1 18 (cp (aM1 17) (aM1 18) 165)) 18 161 (xs 2)) 22 y3253) 17 (cp ((up2 (up3 (up2 aM1 18 (cp (aM1 17) (aM1 18) 165)) 18 161 (xs 2)) 22 y3253) 18) ((up2 (up3 (up2 aM1 18 (cp (aM1 17) (aM1 18) 165)) 18 161 (xs 2)) 22 y3253) 17) 165)) lM1) 503 [(3, .int 0), (2, .ref (r 0)), (1, .ref (q 0)), (0, .ref b)] [.int 1, .int 0]
      exfalso; omega
    · show GW κ 4 82 21282 (wX q d iX0 aX0 ++ wM r g iM1 aM1 lM1) 503 [(3, .int 0), (2, .ref (r 0)), (1, .ref (q 0)), (0, .ref b)] [.int 0, .int 0]
      exfalso; omega
    · show GW κ 4 82 21282 (wX q d iX0 aX0 ++ wM r g iM1 aM1 lM1) 503 [(3, .int 0), (2, .ref (r 0)), (1, .ref (q 0)), (0, .ref b)] [.int 0, .int 0]
      exfalso; omega
    · show GW κ 4 82 21282 (wX q d iX0 aX0 ++ wM r g iM1 aM1 lM1) 503 [(3, .int 0), (2, .ref (r 0)), (1, .ref (q 0)), (0, .ref b)] [.int 0, .int 0]
      exfalso; omega
    · show GW κ 4 82 21282 (wX q d iX0 aX0 ++ wM r g (upd iM1 22 1) (up2 (up2 (up3 (up2 aM1 18 (cp (aM1 17) (aM1 18) 165)) 18 162 (xs 2)) 22 y3277) 17 (cp ((up2 (up3 (up2 aM1 18 (cp (aM1 17) (aM1 18) 165)) 18 162 (xs 2)) 22 y3277) 18) ((up2 (up3 (up2 aM1 18 (cp (aM1 17) (aM1 18) 165)) 18 162 (xs 2)) 22 y3277) 17) 165)) lM1) 503 [(3, .int 0), (2, .ref (r 0)), (1, .ref (q 0)), (0, .ref b)] [.int 1, .int 0]
      exfalso; omega
    · show GW κ 4 82 21282 (wX q d iX0 aX0 ++ wM r g iM1 aM1 lM1) 503 [(3, .int 0), (2, .ref (r 0)), (1, .ref (q 0)), (0, .ref b)] [.int 0, .int 0]
      exfalso; omega
    · show GW κ 4 82 21282 (wX q d iX0 aX0 ++ wM r g iM1 aM1 lM1) 503 [(3, .int 0), (2, .ref (r 0)), (1, .ref (q 0)), (0, .ref b)] [.int 0, .int 0]
      exfalso; omega
    · show GW κ 4 82 21282 (wX q d iX0 aX0 ++ wM r g iM1 aM1 lM1) 503 [(3, .int 0), (2, .ref (r 0)), (1, .ref (q 0)), (0, .ref b)] [.int 0, .int 0]
      exfalso; omega
    · show GW κ 4 82 21282 (wX q d iX0 aX0 ++ wM r g (upd iM1 22 1) (up2 (up2 (up3 (up2 aM1 18 (cp (aM1 17) (aM1 18) 165)) 18 163 (xs 2)) 22 y3305) 17 (cp ((up2 (up3 (up2 aM1 18 (cp (aM1 17) (aM1 18) 165)) 18 163 (xs 2)) 22 y3305) 18) ((up2 (up3 (up2 aM1 18 (cp (aM1 17) (aM1 18) 165)) 18 163 (xs 2)) 22 y3305) 17) 165)) lM1) 503 [(3, .int 0), (2, .ref (r 0)), (1, .ref (q 0)), (0, .ref b)] [.int 1, .int 0]
      exfalso; omega
    · show GW κ 4 82 21282 (wX q d iX0 aX0 ++ wM r g iM1 aM1 lM1) 503 [(3, .int 0), (2, .ref (r 0)), (1, .ref (q 0)), (0, .ref b)] [.int 0, .int 0]
      exfalso; omega
    · show GW κ 4 82 21282 (wX q d iX0 aX0 ++ wM r g iM1 aM1 lM1) 503 [(3, .int 0), (2, .ref (r 0)), (1, .ref (q 0)), (0, .ref b)] [.int 0, .int 0]
      exfalso; omega
    · show GW κ 4 82 21282 (wX q d iX0 aX0 ++ wM r g iM1 aM1 lM1) 503 [(3, .int 0), (2, .ref (r 0)), (1, .ref (q 0)), (0, .ref b)] [.int 0, .int 0]
      exfalso; omega
    · show GW κ 4 82 21282 (wX q d iX0 aX0 ++ wM r g (upd iM1 22 1) (up2 (up2 (up3 (up2 aM1 18 (cp (aM1 17) (aM1 18) 165)) 18 164 (xs 2)) 22 y3337) 17 (cp ((up2 (up3 (up2 aM1 18 (cp (aM1 17) (aM1 18) 165)) 18 164 (xs 2)) 22 y3337) 18) ((up2 (up3 (up2 aM1 18 (cp (aM1 17) (aM1 18) 165)) 18 164 (xs 2)) 22 y3337) 17) 165)) lM1) 503 [(3, .int 0), (2, .ref (r 0)), (1, .ref (q 0)), (0, .ref b)] [.int 1, .int 0]
      exfalso; omega
    · show GW κ 4 82 21282 (wX q d iX0 aX0 ++ wM r g iM1 aM1 lM1) 503 [(3, .int 0), (2, .ref (r 0)), (1, .ref (q 0)), (0, .ref b)] [.int 0, .int 0]
      refine g_icmp_eq (tgt := 1465) (a := 0) (b := 0) hk dL_law_503 (by decide) rfl rfl (fun _ => ?_) (fun z9 => absurd (show (0 : Int) = (0 : Int) from by decide) z9)
      exact tail _
set_option maxHeartbeats 4000000 in
set_option maxRecDepth 100000 in
theorem law_12 {κ : Cx} {l : Launch} {D : va_G} {zt : Nat × Nat × Nat} {q r : Nat → Nat} {d g : Nat → ClassId} {b L : Nat} {xs : Nat → Int32} (hk : GC κ l D zt code 4 RL lw_tbl (tyX d ++ tyM g) room_1) (hX : GX κ b L xs) (hL6 : L = 6) (tail : ∀ ws, GW κ 4 82 21282 ws 1465 [(3, .int 0), (2, .ref (r 0)), (1, .ref (q 0)), (0, .ref b)] []) : GW κ 4 82 21282 (wX q d iX0 aX0 ++ wM r g iM1 aM1 lM1) 508 [(3, .int 0), (2, .ref (r 0)), (1, .ref (q 0)), (0, .ref b)] [] := by
  refine g_aload_n hk dL_law_508 rfl ?_
  refine g_callV (n := 0) hk (m268_X11_undo l D zt d q) (SP.pre _ _) (fun q h => List.mem_append_left _ h) (gi_V zw_866 zw_867 zw_868 zw_103 (gi_sub zi_m268_X11_undo zg_m268_X11_undo)) rfl rfl rfl (by decide +kernel) ⟨Nat.le_of_ble_eq_true rfl, Nat.le_of_ble_eq_true rfl⟩ 0 rfl rfl rfl rfl (Nat.le_of_ble_eq_true rfl) ⟨Nat.le_of_ble_eq_true rfl, Nat.le_of_ble_eq_true rfl⟩ dL_law_509 (fun v ty' w' hp hk' => ?_)
  obtain ⟨rfl, rfl⟩ := hp
  show GW κ 4 82 21282 (wM r g iM1 aM1 lM1 ++ wX q d iX0 aX0) 512 [(3, .int 0), (2, .ref (r 0)), (1, .ref (q 0)), (0, .ref b)] [.int 0]
  refine g_aload_n hk dL_law_512 rfl ?_
  refine g_callV (n := 0) hk (m162_X12_undo l D zt g r) (SP.pre _ _) (fun q h => List.mem_append_right _ h) (gi_V zw_1706 zw_1707 zw_1708 zw_115 (gi_sub zi_m162_X12_undo zg_m162_X12_undo)) rfl rfl rfl (by decide +kernel) ⟨Nat.le_of_ble_eq_true rfl, Nat.le_of_ble_eq_true rfl⟩ 0 rfl rfl rfl rfl (Nat.le_of_ble_eq_true rfl) ⟨Nat.le_of_ble_eq_true rfl, Nat.le_of_ble_eq_true rfl⟩ dL_law_513 (fun v ty' w' hp hk' => ?_)
  obtain ⟨rfl, rfl⟩ := hp
  show GW κ 4 82 21282 (wX q d iX0 aX0 ++ wM r g iM1 aM1 lM1) 516 [(3, .int 0), (2, .ref (r 0)), (1, .ref (q 0)), (0, .ref b)] [.int 0, .int 0]
  refine g_icmp_eq (tgt := 1465) (a := 0) (b := 0) hk dL_law_516 (by decide) rfl rfl (fun _ => ?_) (fun z9 => absurd (show (0 : Int) = (0 : Int) from by decide) z9)
  exact tail _
set_option maxHeartbeats 4000000 in
set_option maxRecDepth 100000 in
theorem law_13 {κ : Cx} {l : Launch} {D : va_G} {zt : Nat × Nat × Nat} {q r : Nat → Nat} {d g : Nat → ClassId} {b L : Nat} {xs : Nat → Int32} (hk : GC κ l D zt code 4 RL lw_tbl (tyX d ++ tyM g) room_1) (hX : GX κ b L xs) (hL6 : L = 6) (tail : ∀ ws, GW κ 4 82 21282 ws 1465 [(3, .int 0), (2, .ref (r 0)), (1, .ref (q 0)), (0, .ref b)] []) : GW κ 4 82 21282 (wX q d iX0 aX0 ++ wM r g iM1 aM1 lM1) 521 [(3, .int 0), (2, .ref (r 0)), (1, .ref (q 0)), (0, .ref b)] [] := by
  refine g_aload_n hk dL_law_521 rfl ?_
  refine g_aload_n hk dL_law_522 rfl ?_
  refine g_iload_n hk dL_law_523 rfl ?_
  refine g_iconst (v := 1) hk dL_law_524 (by decide) ?_
  refine g_iadd hk dL_law_525 ?_
  refine g_norm (v := 1) (by decide) ?_
  refine g_sld (v := xs 1) hk hX (vp_in_iff.mpr ⟨by decide, by show (1 : Int) < (L : Int); omega⟩) rfl dL_law_526 ?_
  refine g_aload_n hk dL_law_527 rfl ?_
  refine g_iload_n hk dL_law_528 rfl ?_
  refine g_iconst (v := 2) hk dL_law_529 (by decide) ?_
  refine g_iadd hk dL_law_530 ?_
  refine g_norm (v := 2) (by decide) ?_
  refine g_sld (v := xs 2) hk hX (vp_in_iff.mpr ⟨by decide, by show (2 : Int) < (L : Int); omega⟩) rfl dL_law_531 ?_
  refine g_aload_n hk dL_law_532 rfl ?_
  refine g_iload_n hk dL_law_533 rfl ?_
  refine g_iconst (v := 3) hk dL_law_534 (by decide) ?_
  refine g_iadd hk dL_law_535 ?_
  refine g_norm (v := 3) (by decide) ?_
  refine g_sld (v := xs 3) hk hX (vp_in_iff.mpr ⟨by decide, by show (3 : Int) < (L : Int); omega⟩) rfl dL_law_536 ?_
  refine g_callV (n := 3) hk (m270_X11_window l D zt d q (xs 1) (xs 2) (xs 3)) (SP.pre _ _) (fun q h => List.mem_append_left _ h) (gi_V zw_897 zw_898 zw_899 zw_103 (gi_sub zi_m270_X11_window zg_m270_X11_window)) rfl rfl rfl (by decide +kernel) ⟨Nat.le_of_ble_eq_true rfl, Nat.le_of_ble_eq_true rfl⟩ 0 rfl rfl rfl rfl (Nat.le_of_ble_eq_true rfl) ⟨Nat.le_of_ble_eq_true rfl, Nat.le_of_ble_eq_true rfl⟩ dL_law_537 (fun v ty' w' hp hk' => ?_)
  obtain ⟨rfl, rfl⟩ := hp
  show GW κ 4 82 21282 (wM r g iM1 aM1 lM1 ++ wX q d iX0 aX0) 540 [(3, .int 0), (2, .ref (r 0)), (1, .ref (q 0)), (0, .ref b)] [.int (-1000000)]
  refine g_aload_n hk dL_law_540 rfl ?_
  refine g_aload_n hk dL_law_541 rfl ?_
  refine g_iload_n hk dL_law_542 rfl ?_
  refine g_iconst (v := 1) hk dL_law_543 (by decide) ?_
  refine g_iadd hk dL_law_544 ?_
  refine g_norm (v := 1) (by decide) ?_
  refine g_sld (v := xs 1) hk hX (vp_in_iff.mpr ⟨by decide, by show (1 : Int) < (L : Int); omega⟩) rfl dL_law_545 ?_
  refine g_aload_n hk dL_law_546 rfl ?_
  refine g_iload_n hk dL_law_547 rfl ?_
  refine g_iconst (v := 2) hk dL_law_548 (by decide) ?_
  refine g_iadd hk dL_law_549 ?_
  refine g_norm (v := 2) (by decide) ?_
  refine g_sld (v := xs 2) hk hX (vp_in_iff.mpr ⟨by decide, by show (2 : Int) < (L : Int); omega⟩) rfl dL_law_550 ?_
  refine g_aload_n hk dL_law_551 rfl ?_
  refine g_iload_n hk dL_law_552 rfl ?_
  refine g_iconst (v := 3) hk dL_law_553 (by decide) ?_
  refine g_iadd hk dL_law_554 ?_
  refine g_norm (v := 3) (by decide) ?_
  refine g_sld (v := xs 3) hk hX (vp_in_iff.mpr ⟨by decide, by show (3 : Int) < (L : Int); omega⟩) rfl dL_law_555 ?_
  refine g_callV (n := 3) hk (m163_X12_window l D zt g r (xs 1) (xs 2) (xs 3)) (SP.pre _ _) (fun q h => List.mem_append_right _ h) (gi_V zw_1710 zw_1711 zw_1712 zw_115 (gi_sub zi_m163_X12_window zg_m163_X12_window)) rfl rfl rfl (by decide +kernel) ⟨Nat.le_of_ble_eq_true rfl, Nat.le_of_ble_eq_true rfl⟩ 0 rfl rfl rfl rfl (Nat.le_of_ble_eq_true rfl) ⟨Nat.le_of_ble_eq_true rfl, Nat.le_of_ble_eq_true rfl⟩ dL_law_556 (fun v ty' w' hp hk' => ?_)
  obtain ⟨rfl, rfl⟩ := hp
  show GW κ 4 82 21282 (wX q d iX0 aX0 ++ wM r g iM1 aM1 lM1) 559 [(3, .int 0), (2, .ref (r 0)), (1, .ref (q 0)), (0, .ref b)] [.int (-1000000), .int (-1000000)]
  refine g_icmp_eq (tgt := 1465) (a := (-1000000)) (b := (-1000000)) hk dL_law_559 (by decide) rfl rfl (fun _ => ?_) (fun z9 => absurd (show ((-1000000) : Int) = ((-1000000) : Int) from by decide) z9)
  exact tail _
set_option maxHeartbeats 4000000 in
set_option maxRecDepth 100000 in
theorem law_14 {κ : Cx} {l : Launch} {D : va_G} {zt : Nat × Nat × Nat} {q r : Nat → Nat} {d g : Nat → ClassId} {b L : Nat} {xs : Nat → Int32} (hk : GC κ l D zt code 4 RL lw_tbl (tyX d ++ tyM g) room_1) (hX : GX κ b L xs) (hL6 : L = 6) (tail : ∀ ws, GW κ 4 82 21282 ws 1465 [(3, .int 0), (2, .ref (r 0)), (1, .ref (q 0)), (0, .ref b)] []) : GW κ 4 82 21282 (wX q d iX0 aX0 ++ wM r g iM1 aM1 lM1) 564 [(3, .int 0), (2, .ref (r 0)), (1, .ref (q 0)), (0, .ref b)] [] := by
  refine g_aload_n hk dL_law_564 rfl ?_
  refine g_aload_n hk dL_law_565 rfl ?_
  refine g_iload_n hk dL_law_566 rfl ?_
  refine g_iconst (v := 1) hk dL_law_567 (by decide) ?_
  refine g_iadd hk dL_law_568 ?_
  refine g_norm (v := 1) (by decide) ?_
  refine g_sld (v := xs 1) hk hX (vp_in_iff.mpr ⟨by decide, by show (1 : Int) < (L : Int); omega⟩) rfl dL_law_569 ?_
  refine g_aload_n hk dL_law_570 rfl ?_
  refine g_iload_n hk dL_law_571 rfl ?_
  refine g_iconst (v := 2) hk dL_law_572 (by decide) ?_
  refine g_iadd hk dL_law_573 ?_
  refine g_norm (v := 2) (by decide) ?_
  refine g_sld (v := xs 2) hk hX (vp_in_iff.mpr ⟨by decide, by show (2 : Int) < (L : Int); omega⟩) rfl dL_law_574 ?_
  refine g_aload_n hk dL_law_575 rfl ?_
  refine g_iload_n hk dL_law_576 rfl ?_
  refine g_iconst (v := 3) hk dL_law_577 (by decide) ?_
  refine g_iadd hk dL_law_578 ?_
  refine g_norm (v := 3) (by decide) ?_
  refine g_sld (v := xs 3) hk hX (vp_in_iff.mpr ⟨by decide, by show (3 : Int) < (L : Int); omega⟩) rfl dL_law_579 ?_
  refine g_callV (n := 3) hk (m272_X11_level l D zt d q (xs 1) (xs 2) (xs 3)) (SP.pre _ _) (fun q h => List.mem_append_left _ h) (gi_V zw_922 zw_923 zw_924 zw_103 (gi_sub zi_m272_X11_level zg_m272_X11_level)) rfl rfl rfl (by decide +kernel) ⟨Nat.le_of_ble_eq_true rfl, Nat.le_of_ble_eq_true rfl⟩ 0 rfl rfl rfl rfl (Nat.le_of_ble_eq_true rfl) ⟨Nat.le_of_ble_eq_true rfl, Nat.le_of_ble_eq_true rfl⟩ dL_law_580 (fun v ty' w' hp hk' => ?_)
  obtain ⟨rfl, rfl⟩ := hp
  show GW κ 4 82 21282 (wM r g iM1 aM1 lM1 ++ wX q d iX0 aX0) 583 [(3, .int 0), (2, .ref (r 0)), (1, .ref (q 0)), (0, .ref b)] [.int (-1000000)]
  refine g_aload_n hk dL_law_583 rfl ?_
  refine g_aload_n hk dL_law_584 rfl ?_
  refine g_iload_n hk dL_law_585 rfl ?_
  refine g_iconst (v := 1) hk dL_law_586 (by decide) ?_
  refine g_iadd hk dL_law_587 ?_
  refine g_norm (v := 1) (by decide) ?_
  refine g_sld (v := xs 1) hk hX (vp_in_iff.mpr ⟨by decide, by show (1 : Int) < (L : Int); omega⟩) rfl dL_law_588 ?_
  refine g_aload_n hk dL_law_589 rfl ?_
  refine g_iload_n hk dL_law_590 rfl ?_
  refine g_iconst (v := 2) hk dL_law_591 (by decide) ?_
  refine g_iadd hk dL_law_592 ?_
  refine g_norm (v := 2) (by decide) ?_
  refine g_sld (v := xs 2) hk hX (vp_in_iff.mpr ⟨by decide, by show (2 : Int) < (L : Int); omega⟩) rfl dL_law_593 ?_
  refine g_aload_n hk dL_law_594 rfl ?_
  refine g_iload_n hk dL_law_595 rfl ?_
  refine g_iconst (v := 3) hk dL_law_596 (by decide) ?_
  refine g_iadd hk dL_law_597 ?_
  refine g_norm (v := 3) (by decide) ?_
  refine g_sld (v := xs 3) hk hX (vp_in_iff.mpr ⟨by decide, by show (3 : Int) < (L : Int); omega⟩) rfl dL_law_598 ?_
  refine g_callV (n := 3) hk (m165_X12_level l D zt g r (xs 1) (xs 2) (xs 3)) (SP.pre _ _) (fun q h => List.mem_append_right _ h) (gi_V zw_1731 zw_1732 zw_1733 zw_115 (gi_sub zi_m165_X12_level zg_m165_X12_level)) rfl rfl rfl (by decide +kernel) ⟨Nat.le_of_ble_eq_true rfl, Nat.le_of_ble_eq_true rfl⟩ 0 rfl rfl rfl rfl (Nat.le_of_ble_eq_true rfl) ⟨Nat.le_of_ble_eq_true rfl, Nat.le_of_ble_eq_true rfl⟩ dL_law_599 (fun v ty' w' hp hk' => ?_)
  obtain ⟨rfl, rfl⟩ := hp
  show GW κ 4 82 21282 (wX q d iX0 aX0 ++ wM r g iM1 aM1 lM1) 602 [(3, .int 0), (2, .ref (r 0)), (1, .ref (q 0)), (0, .ref b)] [.int (-1000000), .int (-1000000)]
  refine g_icmp_eq (tgt := 1465) (a := (-1000000)) (b := (-1000000)) hk dL_law_602 (by decide) rfl rfl (fun _ => ?_) (fun z9 => absurd (show ((-1000000) : Int) = ((-1000000) : Int) from by decide) z9)
  exact tail _
set_option maxHeartbeats 4000000 in
set_option maxRecDepth 100000 in
theorem law_15 {κ : Cx} {l : Launch} {D : va_G} {zt : Nat × Nat × Nat} {q r : Nat → Nat} {d g : Nat → ClassId} {b L : Nat} {xs : Nat → Int32} (hk : GC κ l D zt code 4 RL lw_tbl (tyX d ++ tyM g) room_1) (hX : GX κ b L xs) (hL6 : L = 6) (tail : ∀ ws, GW κ 4 82 21282 ws 1465 [(3, .int 0), (2, .ref (r 0)), (1, .ref (q 0)), (0, .ref b)] []) : GW κ 4 82 21282 (wX q d iX0 aX0 ++ wM r g iM1 aM1 lM1) 607 [(3, .int 0), (2, .ref (r 0)), (1, .ref (q 0)), (0, .ref b)] [] := by
  refine g_aload_n hk dL_law_607 rfl ?_
  refine g_aload_n hk dL_law_608 rfl ?_
  refine g_iload_n hk dL_law_609 rfl ?_
  refine g_iconst (v := 1) hk dL_law_610 (by decide) ?_
  refine g_iadd hk dL_law_611 ?_
  refine g_norm (v := 1) (by decide) ?_
  refine g_sld (v := xs 1) hk hX (vp_in_iff.mpr ⟨by decide, by show (1 : Int) < (L : Int); omega⟩) rfl dL_law_612 ?_
  refine g_aload_n hk dL_law_613 rfl ?_
  refine g_iload_n hk dL_law_614 rfl ?_
  refine g_iconst (v := 2) hk dL_law_615 (by decide) ?_
  refine g_iadd hk dL_law_616 ?_
  refine g_norm (v := 2) (by decide) ?_
  refine g_sld (v := xs 2) hk hX (vp_in_iff.mpr ⟨by decide, by show (2 : Int) < (L : Int); omega⟩) rfl dL_law_617 ?_
  refine g_callV (n := 2) hk (m275_X11_distance l D zt d q (xs 1) (xs 2)) (SP.pre _ _) (fun q h => List.mem_append_left _ h) (gi_V zw_965 zw_966 zw_967 zw_103 (gi_sub zi_m275_X11_distance zg_m275_X11_distance)) rfl rfl rfl (by decide +kernel) ⟨Nat.le_of_ble_eq_true rfl, Nat.le_of_ble_eq_true rfl⟩ 0 rfl rfl rfl rfl (Nat.le_of_ble_eq_true rfl) ⟨Nat.le_of_ble_eq_true rfl, Nat.le_of_ble_eq_true rfl⟩ dL_law_618 (fun v ty' w' hp hk' => ?_)
  obtain ⟨rfl, rfl⟩ := hp
  show GW κ 4 82 21282 (wM r g iM1 aM1 lM1 ++ wX q d iX0 aX0) 621 [(3, .int 0), (2, .ref (r 0)), (1, .ref (q 0)), (0, .ref b)] [.int (-1)]
  refine g_aload_n hk dL_law_621 rfl ?_
  refine g_aload_n hk dL_law_622 rfl ?_
  refine g_iload_n hk dL_law_623 rfl ?_
  refine g_iconst (v := 1) hk dL_law_624 (by decide) ?_
  refine g_iadd hk dL_law_625 ?_
  refine g_norm (v := 1) (by decide) ?_
  refine g_sld (v := xs 1) hk hX (vp_in_iff.mpr ⟨by decide, by show (1 : Int) < (L : Int); omega⟩) rfl dL_law_626 ?_
  refine g_aload_n hk dL_law_627 rfl ?_
  refine g_iload_n hk dL_law_628 rfl ?_
  refine g_iconst (v := 2) hk dL_law_629 (by decide) ?_
  refine g_iadd hk dL_law_630 ?_
  refine g_norm (v := 2) (by decide) ?_
  refine g_sld (v := xs 2) hk hX (vp_in_iff.mpr ⟨by decide, by show (2 : Int) < (L : Int); omega⟩) rfl dL_law_631 ?_
  refine g_callV (n := 2) hk (m168_X12_distance l D zt g r (xs 1) (xs 2)) (SP.pre _ _) (fun q h => List.mem_append_right _ h) (gi_V zw_1751 zw_1752 zw_1753 zw_115 (gi_sub zi_m168_X12_distance zg_m168_X12_distance)) rfl rfl rfl (by decide +kernel) ⟨Nat.le_of_ble_eq_true rfl, Nat.le_of_ble_eq_true rfl⟩ 0 rfl rfl rfl rfl (Nat.le_of_ble_eq_true rfl) ⟨Nat.le_of_ble_eq_true rfl, Nat.le_of_ble_eq_true rfl⟩ dL_law_632 (fun v ty' w' hp hk' => ?_)
  obtain ⟨rfl, rfl⟩ := hp
  show GW κ 4 82 21282 (wX q d iX0 aX0 ++ wM r g iM1 aM1 lM1) 635 [(3, .int 0), (2, .ref (r 0)), (1, .ref (q 0)), (0, .ref b)] [.int (-1), .int (-1)]
  refine g_icmp_eq (tgt := 1465) (a := (-1)) (b := (-1)) hk dL_law_635 (by decide) rfl rfl (fun _ => ?_) (fun z9 => absurd (show ((-1) : Int) = ((-1) : Int) from by decide) z9)
  exact tail _
set_option maxHeartbeats 4000000 in
set_option maxRecDepth 100000 in
theorem law_16 {κ : Cx} {l : Launch} {D : va_G} {zt : Nat × Nat × Nat} {q r : Nat → Nat} {d g : Nat → ClassId} {b L : Nat} {xs : Nat → Int32} (hk : GC κ l D zt code 4 RL lw_tbl (tyX d ++ tyM g) room_1) (hX : GX κ b L xs) (hL6 : L = 6) (tail : ∀ ws, GW κ 4 82 21282 ws 1465 [(3, .int 0), (2, .ref (r 0)), (1, .ref (q 0)), (0, .ref b)] []) : GW κ 4 82 21282 (wX q d iX0 aX0 ++ wM r g iM1 aM1 lM1) 640 [(3, .int 0), (2, .ref (r 0)), (1, .ref (q 0)), (0, .ref b)] [] := by
  refine g_aload_n hk dL_law_640 rfl ?_
  refine g_aload_n hk dL_law_641 rfl ?_
  refine g_iload_n hk dL_law_642 rfl ?_
  refine g_iconst (v := 1) hk dL_law_643 (by decide) ?_
  refine g_iadd hk dL_law_644 ?_
  refine g_norm (v := 1) (by decide) ?_
  refine g_sld (v := xs 1) hk hX (vp_in_iff.mpr ⟨by decide, by show (1 : Int) < (L : Int); omega⟩) rfl dL_law_645 ?_
  refine g_aload_n hk dL_law_646 rfl ?_
  refine g_iload_n hk dL_law_647 rfl ?_
  refine g_iconst (v := 2) hk dL_law_648 (by decide) ?_
  refine g_iadd hk dL_law_649 ?_
  refine g_norm (v := 2) (by decide) ?_
  refine g_sld (v := xs 2) hk hX (vp_in_iff.mpr ⟨by decide, by show (2 : Int) < (L : Int); omega⟩) rfl dL_law_650 ?_
  refine g_aload_n hk dL_law_651 rfl ?_
  refine g_iload_n hk dL_law_652 rfl ?_
  refine g_iconst (v := 3) hk dL_law_653 (by decide) ?_
  refine g_iadd hk dL_law_654 ?_
  refine g_norm (v := 3) (by decide) ?_
  refine g_sld (v := xs 3) hk hX (vp_in_iff.mpr ⟨by decide, by show (3 : Int) < (L : Int); omega⟩) rfl dL_law_655 ?_
  refine g_callV (n := 3) hk (m278_X11_bound l D zt d q (xs 1) (xs 2) (xs 3)) (SP.pre _ _) (fun q h => List.mem_append_left _ h) (gi_V zw_1017 zw_1018 zw_1019 zw_103 (gi_sub zi_m278_X11_bound zg_m278_X11_bound)) rfl rfl rfl (by decide +kernel) ⟨Nat.le_of_ble_eq_true rfl, Nat.le_of_ble_eq_true rfl⟩ 0 rfl rfl rfl rfl (Nat.le_of_ble_eq_true rfl) ⟨Nat.le_of_ble_eq_true rfl, Nat.le_of_ble_eq_true rfl⟩ dL_law_656 (fun v ty' w' hp hk' => ?_)
  obtain ⟨rfl, rfl⟩ := hp
  show GW κ 4 82 21282 (wM r g iM1 aM1 lM1 ++ wX q d iX0 aX0) 659 [(3, .int 0), (2, .ref (r 0)), (1, .ref (q 0)), (0, .ref b)] [.int (-1)]
  refine g_aload_n hk dL_law_659 rfl ?_
  refine g_aload_n hk dL_law_660 rfl ?_
  refine g_iload_n hk dL_law_661 rfl ?_
  refine g_iconst (v := 1) hk dL_law_662 (by decide) ?_
  refine g_iadd hk dL_law_663 ?_
  refine g_norm (v := 1) (by decide) ?_
  refine g_sld (v := xs 1) hk hX (vp_in_iff.mpr ⟨by decide, by show (1 : Int) < (L : Int); omega⟩) rfl dL_law_664 ?_
  refine g_aload_n hk dL_law_665 rfl ?_
  refine g_iload_n hk dL_law_666 rfl ?_
  refine g_iconst (v := 2) hk dL_law_667 (by decide) ?_
  refine g_iadd hk dL_law_668 ?_
  refine g_norm (v := 2) (by decide) ?_
  refine g_sld (v := xs 2) hk hX (vp_in_iff.mpr ⟨by decide, by show (2 : Int) < (L : Int); omega⟩) rfl dL_law_669 ?_
  refine g_aload_n hk dL_law_670 rfl ?_
  refine g_iload_n hk dL_law_671 rfl ?_
  refine g_iconst (v := 3) hk dL_law_672 (by decide) ?_
  refine g_iadd hk dL_law_673 ?_
  refine g_norm (v := 3) (by decide) ?_
  refine g_sld (v := xs 3) hk hX (vp_in_iff.mpr ⟨by decide, by show (3 : Int) < (L : Int); omega⟩) rfl dL_law_674 ?_
  refine g_callV (n := 3) hk (m170_X12_bound l D zt g r (xs 1) (xs 2) (xs 3)) (SP.pre _ _) (fun q h => List.mem_append_right _ h) (gi_V zw_1799 zw_1800 zw_1801 zw_115 (gi_sub zi_m170_X12_bound zg_m170_X12_bound)) rfl rfl rfl (by decide +kernel) ⟨Nat.le_of_ble_eq_true rfl, Nat.le_of_ble_eq_true rfl⟩ 0 rfl rfl rfl rfl (Nat.le_of_ble_eq_true rfl) ⟨Nat.le_of_ble_eq_true rfl, Nat.le_of_ble_eq_true rfl⟩ dL_law_675 (fun v ty' w' hp hk' => ?_)
  obtain ⟨rfl, rfl⟩ := hp
  show GW κ 4 82 21282 (wX q d iX0 aX0 ++ wM r g iM1 aM1 lM1) 678 [(3, .int 0), (2, .ref (r 0)), (1, .ref (q 0)), (0, .ref b)] [.int (-1), .int (-1)]
  refine g_icmp_eq (tgt := 1465) (a := (-1)) (b := (-1)) hk dL_law_678 (by decide) rfl rfl (fun _ => ?_) (fun z9 => absurd (show ((-1) : Int) = ((-1) : Int) from by decide) z9)
  exact tail _
set_option maxHeartbeats 4000000 in
set_option maxRecDepth 100000 in
theorem law_17 {κ : Cx} {l : Launch} {D : va_G} {zt : Nat × Nat × Nat} {q r : Nat → Nat} {d g : Nat → ClassId} {b L : Nat} {xs : Nat → Int32} (hk : GC κ l D zt code 4 RL lw_tbl (tyX d ++ tyM g) room_1) (hX : GX κ b L xs) (hL6 : L = 6) (tail : ∀ ws, GW κ 4 82 21282 ws 1465 [(3, .int 0), (2, .ref (r 0)), (1, .ref (q 0)), (0, .ref b)] []) : GW κ 4 82 21282 (wX q d iX0 aX0 ++ wM r g iM1 aM1 lM1) 683 [(3, .int 0), (2, .ref (r 0)), (1, .ref (q 0)), (0, .ref b)] [] := by
  refine g_aload_n hk dL_law_683 rfl ?_
  refine g_aload_n hk dL_law_684 rfl ?_
  refine g_iload_n hk dL_law_685 rfl ?_
  refine g_iconst (v := 1) hk dL_law_686 (by decide) ?_
  refine g_iadd hk dL_law_687 ?_
  refine g_norm (v := 1) (by decide) ?_
  refine g_sld (v := xs 1) hk hX (vp_in_iff.mpr ⟨by decide, by show (1 : Int) < (L : Int); omega⟩) rfl dL_law_688 ?_
  refine g_aload_n hk dL_law_689 rfl ?_
  refine g_iload_n hk dL_law_690 rfl ?_
  refine g_iconst (v := 2) hk dL_law_691 (by decide) ?_
  refine g_iadd hk dL_law_692 ?_
  refine g_norm (v := 2) (by decide) ?_
  refine g_sld (v := xs 2) hk hX (vp_in_iff.mpr ⟨by decide, by show (2 : Int) < (L : Int); omega⟩) rfl dL_law_693 ?_
  refine g_aload_n hk dL_law_694 rfl ?_
  refine g_iload_n hk dL_law_695 rfl ?_
  refine g_iconst (v := 3) hk dL_law_696 (by decide) ?_
  refine g_iadd hk dL_law_697 ?_
  refine g_norm (v := 3) (by decide) ?_
  refine g_sld (v := xs 3) hk hX (vp_in_iff.mpr ⟨by decide, by show (3 : Int) < (L : Int); omega⟩) rfl dL_law_698 ?_
  refine g_aload_n hk dL_law_699 rfl ?_
  refine g_iload_n hk dL_law_700 rfl ?_
  refine g_iconst (v := 4) hk dL_law_701 (by decide) ?_
  refine g_iadd hk dL_law_702 ?_
  refine g_norm (v := 4) (by decide) ?_
  refine g_sld (v := xs 4) hk hX (vp_in_iff.mpr ⟨by decide, by show (4 : Int) < (L : Int); omega⟩) rfl dL_law_703 ?_
  refine g_callV (n := 4) hk (m279_X11_look l D zt d q (xs 1) (xs 2) (xs 3) (xs 4)) (SP.pre _ _) (fun q h => List.mem_append_left _ h) (gi_V zw_1041 zw_1042 zw_1043 zw_103 (gi_sub zi_m279_X11_look zg_m279_X11_look)) rfl rfl rfl (by decide +kernel) ⟨Nat.le_of_ble_eq_true rfl, Nat.le_of_ble_eq_true rfl⟩ 0 rfl rfl rfl rfl (Nat.le_of_ble_eq_true rfl) ⟨Nat.le_of_ble_eq_true rfl, Nat.le_of_ble_eq_true rfl⟩ dL_law_704 (fun v ty' w' hp hk' => ?_)
  obtain ⟨rfl, rfl⟩ := hp
  show GW κ 4 82 21282 (wM r g iM1 aM1 lM1 ++ wX q d iX0 aX0) 707 [(3, .int 0), (2, .ref (r 0)), (1, .ref (q 0)), (0, .ref b)] [.int (-1)]
  refine g_aload_n hk dL_law_707 rfl ?_
  refine g_aload_n hk dL_law_708 rfl ?_
  refine g_iload_n hk dL_law_709 rfl ?_
  refine g_iconst (v := 1) hk dL_law_710 (by decide) ?_
  refine g_iadd hk dL_law_711 ?_
  refine g_norm (v := 1) (by decide) ?_
  refine g_sld (v := xs 1) hk hX (vp_in_iff.mpr ⟨by decide, by show (1 : Int) < (L : Int); omega⟩) rfl dL_law_712 ?_
  refine g_aload_n hk dL_law_713 rfl ?_
  refine g_iload_n hk dL_law_714 rfl ?_
  refine g_iconst (v := 2) hk dL_law_715 (by decide) ?_
  refine g_iadd hk dL_law_716 ?_
  refine g_norm (v := 2) (by decide) ?_
  refine g_sld (v := xs 2) hk hX (vp_in_iff.mpr ⟨by decide, by show (2 : Int) < (L : Int); omega⟩) rfl dL_law_717 ?_
  refine g_aload_n hk dL_law_718 rfl ?_
  refine g_iload_n hk dL_law_719 rfl ?_
  refine g_iconst (v := 3) hk dL_law_720 (by decide) ?_
  refine g_iadd hk dL_law_721 ?_
  refine g_norm (v := 3) (by decide) ?_
  refine g_sld (v := xs 3) hk hX (vp_in_iff.mpr ⟨by decide, by show (3 : Int) < (L : Int); omega⟩) rfl dL_law_722 ?_
  refine g_aload_n hk dL_law_723 rfl ?_
  refine g_iload_n hk dL_law_724 rfl ?_
  refine g_iconst (v := 4) hk dL_law_725 (by decide) ?_
  refine g_iadd hk dL_law_726 ?_
  refine g_norm (v := 4) (by decide) ?_
  refine g_sld (v := xs 4) hk hX (vp_in_iff.mpr ⟨by decide, by show (4 : Int) < (L : Int); omega⟩) rfl dL_law_727 ?_
  refine g_callV (n := 4) hk (m171_X12_look l D zt g r (xs 1) (xs 2) (xs 3) (xs 4)) (SP.pre _ _) (fun q h => List.mem_append_right _ h) (gi_V zw_1816 zw_1817 zw_1818 zw_115 (gi_sub zi_m171_X12_look zg_m171_X12_look)) rfl rfl rfl (by decide +kernel) ⟨Nat.le_of_ble_eq_true rfl, Nat.le_of_ble_eq_true rfl⟩ 0 rfl rfl rfl rfl (Nat.le_of_ble_eq_true rfl) ⟨Nat.le_of_ble_eq_true rfl, Nat.le_of_ble_eq_true rfl⟩ dL_law_728 (fun v ty' w' hp hk' => ?_)
  obtain ⟨rfl, rfl⟩ := hp
  show GW κ 4 82 21282 (wX q d iX0 aX0 ++ wM r g iM1 aM1 lM1) 731 [(3, .int 0), (2, .ref (r 0)), (1, .ref (q 0)), (0, .ref b)] [.int (-1), .int (-1)]
  refine g_icmp_eq (tgt := 1465) (a := (-1)) (b := (-1)) hk dL_law_731 (by decide) rfl rfl (fun _ => ?_) (fun z9 => absurd (show ((-1) : Int) = ((-1) : Int) from by decide) z9)
  exact tail _
set_option maxHeartbeats 4000000 in
set_option maxRecDepth 100000 in
theorem law_18 {κ : Cx} {l : Launch} {D : va_G} {zt : Nat × Nat × Nat} {q r : Nat → Nat} {d g : Nat → ClassId} {b L : Nat} {xs : Nat → Int32} (hk : GC κ l D zt code 4 RL lw_tbl (tyX d ++ tyM g) room_1) (hX : GX κ b L xs) (hL6 : L = 6) (tail : ∀ ws, GW κ 4 82 21282 ws 1465 [(3, .int 0), (2, .ref (r 0)), (1, .ref (q 0)), (0, .ref b)] []) : GW κ 4 82 21282 (wX q d iX0 aX0 ++ wM r g iM1 aM1 lM1) 736 [(3, .int 0), (2, .ref (r 0)), (1, .ref (q 0)), (0, .ref b)] [] := by
  refine g_aload_n hk dL_law_736 rfl ?_
  refine g_aload_n hk dL_law_737 rfl ?_
  refine g_iload_n hk dL_law_738 rfl ?_
  refine g_iconst (v := 1) hk dL_law_739 (by decide) ?_
  refine g_iadd hk dL_law_740 ?_
  refine g_norm (v := 1) (by decide) ?_
  refine g_sld (v := xs 1) hk hX (vp_in_iff.mpr ⟨by decide, by show (1 : Int) < (L : Int); omega⟩) rfl dL_law_741 ?_
  refine g_aload_n hk dL_law_742 rfl ?_
  refine g_iload_n hk dL_law_743 rfl ?_
  refine g_iconst (v := 2) hk dL_law_744 (by decide) ?_
  refine g_iadd hk dL_law_745 ?_
  refine g_norm (v := 2) (by decide) ?_
  refine g_sld (v := xs 2) hk hX (vp_in_iff.mpr ⟨by decide, by show (2 : Int) < (L : Int); omega⟩) rfl dL_law_746 ?_
  refine g_callV (n := 2) hk (m280_X11_best l D zt d q (xs 1) (xs 2)) (SP.pre _ _) (fun q h => List.mem_append_left _ h) (gi_V zw_1113 zw_1114 zw_1115 zw_103 (gi_sub zi_m280_X11_best zg_m280_X11_best)) rfl rfl rfl (by decide +kernel) ⟨Nat.le_of_ble_eq_true rfl, Nat.le_of_ble_eq_true rfl⟩ 0 rfl rfl rfl rfl (Nat.le_of_ble_eq_true rfl) ⟨Nat.le_of_ble_eq_true rfl, Nat.le_of_ble_eq_true rfl⟩ dL_law_747 (fun v ty' w' hp hk' => ?_)
  obtain ⟨rfl, rfl⟩ := hp
  show GW κ 4 82 21282 (wM r g iM1 aM1 lM1 ++ wX q d iX0 aX0) 750 [(3, .int 0), (2, .ref (r 0)), (1, .ref (q 0)), (0, .ref b)] [.int (-1)]
  refine g_aload_n hk dL_law_750 rfl ?_
  refine g_aload_n hk dL_law_751 rfl ?_
  refine g_iload_n hk dL_law_752 rfl ?_
  refine g_iconst (v := 1) hk dL_law_753 (by decide) ?_
  refine g_iadd hk dL_law_754 ?_
  refine g_norm (v := 1) (by decide) ?_
  refine g_sld (v := xs 1) hk hX (vp_in_iff.mpr ⟨by decide, by show (1 : Int) < (L : Int); omega⟩) rfl dL_law_755 ?_
  refine g_aload_n hk dL_law_756 rfl ?_
  refine g_iload_n hk dL_law_757 rfl ?_
  refine g_iconst (v := 2) hk dL_law_758 (by decide) ?_
  refine g_iadd hk dL_law_759 ?_
  refine g_norm (v := 2) (by decide) ?_
  refine g_sld (v := xs 2) hk hX (vp_in_iff.mpr ⟨by decide, by show (2 : Int) < (L : Int); omega⟩) rfl dL_law_760 ?_
  refine g_callV (n := 2) hk (m172_X12_best l D zt g r (xs 1) (xs 2)) (SP.pre _ _) (fun q h => List.mem_append_right _ h) (gi_V zw_1840 zw_1841 zw_1842 zw_115 (gi_sub zi_m172_X12_best zg_m172_X12_best)) rfl rfl rfl (by decide +kernel) ⟨Nat.le_of_ble_eq_true rfl, Nat.le_of_ble_eq_true rfl⟩ 0 rfl rfl rfl rfl (Nat.le_of_ble_eq_true rfl) ⟨Nat.le_of_ble_eq_true rfl, Nat.le_of_ble_eq_true rfl⟩ dL_law_761 (fun v ty' w' hp hk' => ?_)
  obtain ⟨rfl, rfl⟩ := hp
  show GW κ 4 82 21282 (wX q d iX0 aX0 ++ wM r g iM1 aM1 lM1) 764 [(3, .int 0), (2, .ref (r 0)), (1, .ref (q 0)), (0, .ref b)] [.int (-1), .int (-1)]
  refine g_icmp_eq (tgt := 1465) (a := (-1)) (b := (-1)) hk dL_law_764 (by decide) rfl rfl (fun _ => ?_) (fun z9 => absurd (show ((-1) : Int) = ((-1) : Int) from by decide) z9)
  exact tail _
set_option maxHeartbeats 4000000 in
set_option maxRecDepth 100000 in
theorem law_19 {κ : Cx} {l : Launch} {D : va_G} {zt : Nat × Nat × Nat} {q r : Nat → Nat} {d g : Nat → ClassId} {b L : Nat} {xs : Nat → Int32} (hk : GC κ l D zt code 4 RL lw_tbl (tyX d ++ tyM g) room_1) (hX : GX κ b L xs) (hL6 : L = 6) (tail : ∀ ws, GW κ 4 82 21282 ws 1465 [(3, .int 0), (2, .ref (r 0)), (1, .ref (q 0)), (0, .ref b)] []) : GW κ 4 82 21282 (wX q d iX0 aX0 ++ wM r g iM1 aM1 lM1) 769 [(3, .int 0), (2, .ref (r 0)), (1, .ref (q 0)), (0, .ref b)] [] := by
  refine g_aload_n hk dL_law_769 rfl ?_
  refine g_aload_n hk dL_law_770 rfl ?_
  refine g_iload_n hk dL_law_771 rfl ?_
  refine g_iconst (v := 1) hk dL_law_772 (by decide) ?_
  refine g_iadd hk dL_law_773 ?_
  refine g_norm (v := 1) (by decide) ?_
  refine g_sld (v := xs 1) hk hX (vp_in_iff.mpr ⟨by decide, by show (1 : Int) < (L : Int); omega⟩) rfl dL_law_774 ?_
  refine g_aload_n hk dL_law_775 rfl ?_
  refine g_iload_n hk dL_law_776 rfl ?_
  refine g_iconst (v := 2) hk dL_law_777 (by decide) ?_
  refine g_iadd hk dL_law_778 ?_
  refine g_norm (v := 2) (by decide) ?_
  refine g_sld (v := xs 2) hk hX (vp_in_iff.mpr ⟨by decide, by show (2 : Int) < (L : Int); omega⟩) rfl dL_law_779 ?_
  refine g_callV (n := 2) hk (m281_X11_search l D zt d q (xs 1) (xs 2)) (SP.pre _ _) (fun q h => List.mem_append_left _ h) (gi_V zw_1129 zw_1130 zw_1131 zw_103 (gi_sub zi_m281_X11_search zg_m281_X11_search)) rfl rfl rfl (by decide +kernel) ⟨Nat.le_of_ble_eq_true rfl, Nat.le_of_ble_eq_true rfl⟩ 0 rfl rfl rfl rfl (Nat.le_of_ble_eq_true rfl) ⟨Nat.le_of_ble_eq_true rfl, Nat.le_of_ble_eq_true rfl⟩ dL_law_780 (fun v ty' w' hp hk' => ?_)
  obtain ⟨rfl, rfl⟩ := hp
  show GW κ 4 82 21282 (wM r g iM1 aM1 lM1 ++ wX q d iX0 aX0) 783 [(3, .int 0), (2, .ref (r 0)), (1, .ref (q 0)), (0, .ref b)] [.int (-1)]
  refine g_aload_n hk dL_law_783 rfl ?_
  refine g_aload_n hk dL_law_784 rfl ?_
  refine g_iload_n hk dL_law_785 rfl ?_
  refine g_iconst (v := 1) hk dL_law_786 (by decide) ?_
  refine g_iadd hk dL_law_787 ?_
  refine g_norm (v := 1) (by decide) ?_
  refine g_sld (v := xs 1) hk hX (vp_in_iff.mpr ⟨by decide, by show (1 : Int) < (L : Int); omega⟩) rfl dL_law_788 ?_
  refine g_aload_n hk dL_law_789 rfl ?_
  refine g_iload_n hk dL_law_790 rfl ?_
  refine g_iconst (v := 2) hk dL_law_791 (by decide) ?_
  refine g_iadd hk dL_law_792 ?_
  refine g_norm (v := 2) (by decide) ?_
  refine g_sld (v := xs 2) hk hX (vp_in_iff.mpr ⟨by decide, by show (2 : Int) < (L : Int); omega⟩) rfl dL_law_793 ?_
  refine g_callV (n := 2) hk (m173_X12_search l D zt g r (xs 1) (xs 2)) (SP.pre _ _) (fun q h => List.mem_append_right _ h) (gi_V zw_1856 zw_1857 zw_1858 zw_115 (gi_sub zi_m173_X12_search zg_m173_X12_search)) rfl rfl rfl (by decide +kernel) ⟨Nat.le_of_ble_eq_true rfl, Nat.le_of_ble_eq_true rfl⟩ 0 rfl rfl rfl rfl (Nat.le_of_ble_eq_true rfl) ⟨Nat.le_of_ble_eq_true rfl, Nat.le_of_ble_eq_true rfl⟩ dL_law_794 (fun v ty' w' hp hk' => ?_)
  obtain ⟨rfl, rfl⟩ := hp
  show GW κ 4 82 21282 (wX q d iX0 aX0 ++ wM r g iM1 aM1 lM1) 797 [(3, .int 0), (2, .ref (r 0)), (1, .ref (q 0)), (0, .ref b)] [.int (-1), .int (-1)]
  refine g_icmp_eq (tgt := 1465) (a := (-1)) (b := (-1)) hk dL_law_797 (by decide) rfl rfl (fun _ => ?_) (fun z9 => absurd (show ((-1) : Int) = ((-1) : Int) from by decide) z9)
  exact tail _
set_option maxHeartbeats 4000000 in
set_option maxRecDepth 100000 in
theorem law_20 {κ : Cx} {l : Launch} {D : va_G} {zt : Nat × Nat × Nat} {q r : Nat → Nat} {d g : Nat → ClassId} {b L : Nat} {xs : Nat → Int32} (hk : GC κ l D zt code 4 RL lw_tbl (tyX d ++ tyM g) room_1) (hX : GX κ b L xs) (hL6 : L = 6) (tail : ∀ ws, GW κ 4 82 21282 ws 1465 [(3, .int 0), (2, .ref (r 0)), (1, .ref (q 0)), (0, .ref b)] []) : GW κ 4 82 21282 (wX q d iX0 aX0 ++ wM r g iM1 aM1 lM1) 802 [(3, .int 0), (2, .ref (r 0)), (1, .ref (q 0)), (0, .ref b)] [] := by
  refine g_aload_n hk dL_law_802 rfl ?_
  refine g_aload_n hk dL_law_803 rfl ?_
  refine g_iload_n hk dL_law_804 rfl ?_
  refine g_iconst (v := 1) hk dL_law_805 (by decide) ?_
  refine g_iadd hk dL_law_806 ?_
  refine g_norm (v := 1) (by decide) ?_
  refine g_sld (v := xs 1) hk hX (vp_in_iff.mpr ⟨by decide, by show (1 : Int) < (L : Int); omega⟩) rfl dL_law_807 ?_
  refine g_aload_n hk dL_law_808 rfl ?_
  refine g_iload_n hk dL_law_809 rfl ?_
  refine g_iconst (v := 2) hk dL_law_810 (by decide) ?_
  refine g_iadd hk dL_law_811 ?_
  refine g_norm (v := 2) (by decide) ?_
  refine g_sld (v := xs 2) hk hX (vp_in_iff.mpr ⟨by decide, by show (2 : Int) < (L : Int); omega⟩) rfl dL_law_812 ?_
  refine g_aload_n hk dL_law_813 rfl ?_
  refine g_iload_n hk dL_law_814 rfl ?_
  refine g_iconst (v := 3) hk dL_law_815 (by decide) ?_
  refine g_iadd hk dL_law_816 ?_
  refine g_norm (v := 3) (by decide) ?_
  refine g_sld (v := xs 3) hk hX (vp_in_iff.mpr ⟨by decide, by show (3 : Int) < (L : Int); omega⟩) rfl dL_law_817 ?_
  refine g_callV (n := 3) hk (m282_X11_match l D zt d q (xs 1) (xs 2) (xs 3)) (SP.pre _ _) (fun q h => List.mem_append_left _ h) (gi_V zw_1143 zw_1144 zw_1145 zw_103 (gi_sub zi_m282_X11_match zg_m282_X11_match)) rfl rfl rfl (by decide +kernel) ⟨Nat.le_of_ble_eq_true rfl, Nat.le_of_ble_eq_true rfl⟩ 0 rfl rfl rfl rfl (Nat.le_of_ble_eq_true rfl) ⟨Nat.le_of_ble_eq_true rfl, Nat.le_of_ble_eq_true rfl⟩ dL_law_818 (fun v ty' w' hp hk' => ?_)
  obtain ⟨rfl, rfl⟩ := hp
  show GW κ 4 82 21282 (wM r g iM1 aM1 lM1 ++ wX q d iX0 aX0) 821 [(3, .int 0), (2, .ref (r 0)), (1, .ref (q 0)), (0, .ref b)] [.int (-1)]
  refine g_aload_n hk dL_law_821 rfl ?_
  refine g_aload_n hk dL_law_822 rfl ?_
  refine g_iload_n hk dL_law_823 rfl ?_
  refine g_iconst (v := 1) hk dL_law_824 (by decide) ?_
  refine g_iadd hk dL_law_825 ?_
  refine g_norm (v := 1) (by decide) ?_
  refine g_sld (v := xs 1) hk hX (vp_in_iff.mpr ⟨by decide, by show (1 : Int) < (L : Int); omega⟩) rfl dL_law_826 ?_
  refine g_aload_n hk dL_law_827 rfl ?_
  refine g_iload_n hk dL_law_828 rfl ?_
  refine g_iconst (v := 2) hk dL_law_829 (by decide) ?_
  refine g_iadd hk dL_law_830 ?_
  refine g_norm (v := 2) (by decide) ?_
  refine g_sld (v := xs 2) hk hX (vp_in_iff.mpr ⟨by decide, by show (2 : Int) < (L : Int); omega⟩) rfl dL_law_831 ?_
  refine g_aload_n hk dL_law_832 rfl ?_
  refine g_iload_n hk dL_law_833 rfl ?_
  refine g_iconst (v := 3) hk dL_law_834 (by decide) ?_
  refine g_iadd hk dL_law_835 ?_
  refine g_norm (v := 3) (by decide) ?_
  refine g_sld (v := xs 3) hk hX (vp_in_iff.mpr ⟨by decide, by show (3 : Int) < (L : Int); omega⟩) rfl dL_law_836 ?_
  refine g_callV (n := 3) hk (m174_X12_match l D zt g r (xs 1) (xs 2) (xs 3)) (SP.pre _ _) (fun q h => List.mem_append_right _ h) (gi_V zw_1864 zw_1865 zw_1866 zw_115 (gi_sub zi_m174_X12_match zg_m174_X12_match)) rfl rfl rfl (by decide +kernel) ⟨Nat.le_of_ble_eq_true rfl, Nat.le_of_ble_eq_true rfl⟩ 0 rfl rfl rfl rfl (Nat.le_of_ble_eq_true rfl) ⟨Nat.le_of_ble_eq_true rfl, Nat.le_of_ble_eq_true rfl⟩ dL_law_837 (fun v ty' w' hp hk' => ?_)
  obtain ⟨rfl, rfl⟩ := hp
  show GW κ 4 82 21282 (wX q d iX0 aX0 ++ wM r g iM1 aM1 lM1) 840 [(3, .int 0), (2, .ref (r 0)), (1, .ref (q 0)), (0, .ref b)] [.int (-1), .int (-1)]
  refine g_icmp_eq (tgt := 1465) (a := (-1)) (b := (-1)) hk dL_law_840 (by decide) rfl rfl (fun _ => ?_) (fun z9 => absurd (show ((-1) : Int) = ((-1) : Int) from by decide) z9)
  exact tail _
set_option maxHeartbeats 4000000 in
set_option maxRecDepth 100000 in
theorem law_21 {κ : Cx} {l : Launch} {D : va_G} {zt : Nat × Nat × Nat} {q r : Nat → Nat} {d g : Nat → ClassId} {b L : Nat} {xs : Nat → Int32} (hk : GC κ l D zt code 4 RL lw_tbl (tyX d ++ tyM g) room_1) (hX : GX κ b L xs) (hL6 : L = 6) (tail : ∀ ws, GW κ 4 82 21282 ws 1465 [(3, .int 0), (2, .ref (r 0)), (1, .ref (q 0)), (0, .ref b)] []) : GW κ 4 82 21282 (wX q d iX0 aX0 ++ wM r g iM1 aM1 lM1) 845 [(3, .int 0), (2, .ref (r 0)), (1, .ref (q 0)), (0, .ref b)] [] := by
  refine g_aload_n hk dL_law_845 rfl ?_
  refine g_aload_n hk dL_law_846 rfl ?_
  refine g_iload_n hk dL_law_847 rfl ?_
  refine g_iconst (v := 1) hk dL_law_848 (by decide) ?_
  refine g_iadd hk dL_law_849 ?_
  refine g_norm (v := 1) (by decide) ?_
  refine g_sld (v := xs 1) hk hX (vp_in_iff.mpr ⟨by decide, by show (1 : Int) < (L : Int); omega⟩) rfl dL_law_850 ?_
  refine g_aload_n hk dL_law_851 rfl ?_
  refine g_iload_n hk dL_law_852 rfl ?_
  refine g_iconst (v := 2) hk dL_law_853 (by decide) ?_
  refine g_iadd hk dL_law_854 ?_
  refine g_norm (v := 2) (by decide) ?_
  refine g_sld (v := xs 2) hk hX (vp_in_iff.mpr ⟨by decide, by show (2 : Int) < (L : Int); omega⟩) rfl dL_law_855 ?_
  refine g_callV (n := 2) hk (m283_X11_within l D zt d q (xs 1) (xs 2)) (SP.pre _ _) (fun q h => List.mem_append_left _ h) (gi_V zw_1172 zw_1173 zw_1174 zw_103 (gi_sub zi_m283_X11_within zg_m283_X11_within)) rfl rfl rfl (by decide +kernel) ⟨Nat.le_of_ble_eq_true rfl, Nat.le_of_ble_eq_true rfl⟩ 0 rfl rfl rfl rfl (Nat.le_of_ble_eq_true rfl) ⟨Nat.le_of_ble_eq_true rfl, Nat.le_of_ble_eq_true rfl⟩ dL_law_856 (fun v ty' w' hp hk' => ?_)
  obtain ⟨rfl, rfl⟩ := hp
  show GW κ 4 82 21282 (wM r g iM1 aM1 lM1 ++ wX q d iX0 aX0) 859 [(3, .int 0), (2, .ref (r 0)), (1, .ref (q 0)), (0, .ref b)] [.int (-1)]
  refine g_aload_n hk dL_law_859 rfl ?_
  refine g_aload_n hk dL_law_860 rfl ?_
  refine g_iload_n hk dL_law_861 rfl ?_
  refine g_iconst (v := 1) hk dL_law_862 (by decide) ?_
  refine g_iadd hk dL_law_863 ?_
  refine g_norm (v := 1) (by decide) ?_
  refine g_sld (v := xs 1) hk hX (vp_in_iff.mpr ⟨by decide, by show (1 : Int) < (L : Int); omega⟩) rfl dL_law_864 ?_
  refine g_aload_n hk dL_law_865 rfl ?_
  refine g_iload_n hk dL_law_866 rfl ?_
  refine g_iconst (v := 2) hk dL_law_867 (by decide) ?_
  refine g_iadd hk dL_law_868 ?_
  refine g_norm (v := 2) (by decide) ?_
  refine g_sld (v := xs 2) hk hX (vp_in_iff.mpr ⟨by decide, by show (2 : Int) < (L : Int); omega⟩) rfl dL_law_869 ?_
  refine g_callV (n := 2) hk (m175_X12_within l D zt g r (xs 1) (xs 2)) (SP.pre _ _) (fun q h => List.mem_append_right _ h) (gi_V zw_1876 zw_1877 zw_1878 zw_115 (gi_sub zi_m175_X12_within zg_m175_X12_within)) rfl rfl rfl (by decide +kernel) ⟨Nat.le_of_ble_eq_true rfl, Nat.le_of_ble_eq_true rfl⟩ 0 rfl rfl rfl rfl (Nat.le_of_ble_eq_true rfl) ⟨Nat.le_of_ble_eq_true rfl, Nat.le_of_ble_eq_true rfl⟩ dL_law_870 (fun v ty' w' hp hk' => ?_)
  obtain ⟨rfl, rfl⟩ := hp
  show GW κ 4 82 21282 (wX q d iX0 aX0 ++ wM r g iM1 aM1 lM1) 873 [(3, .int 0), (2, .ref (r 0)), (1, .ref (q 0)), (0, .ref b)] [.int (-1), .int (-1)]
  refine g_icmp_eq (tgt := 1465) (a := (-1)) (b := (-1)) hk dL_law_873 (by decide) rfl rfl (fun _ => ?_) (fun z9 => absurd (show ((-1) : Int) = ((-1) : Int) from by decide) z9)
  exact tail _
set_option maxHeartbeats 4000000 in
set_option maxRecDepth 100000 in
theorem law_22 {κ : Cx} {l : Launch} {D : va_G} {zt : Nat × Nat × Nat} {q r : Nat → Nat} {d g : Nat → ClassId} {b L : Nat} {xs : Nat → Int32} (hk : GC κ l D zt code 4 RL lw_tbl (tyX d ++ tyM g) room_1) (hX : GX κ b L xs) (hL6 : L = 6) (tail : ∀ ws, GW κ 4 82 21282 ws 1465 [(3, .int 0), (2, .ref (r 0)), (1, .ref (q 0)), (0, .ref b)] []) : GW κ 4 82 21282 (wX q d iX0 aX0 ++ wM r g iM1 aM1 lM1) 878 [(3, .int 0), (2, .ref (r 0)), (1, .ref (q 0)), (0, .ref b)] [] := by
  refine g_aload_n hk dL_law_878 rfl ?_
  refine g_aload_n hk dL_law_879 rfl ?_
  refine g_iload_n hk dL_law_880 rfl ?_
  refine g_iconst (v := 1) hk dL_law_881 (by decide) ?_
  refine g_iadd hk dL_law_882 ?_
  refine g_norm (v := 1) (by decide) ?_
  refine g_sld (v := xs 1) hk hX (vp_in_iff.mpr ⟨by decide, by show (1 : Int) < (L : Int); omega⟩) rfl dL_law_883 ?_
  refine g_aload_n hk dL_law_884 rfl ?_
  refine g_iload_n hk dL_law_885 rfl ?_
  refine g_iconst (v := 2) hk dL_law_886 (by decide) ?_
  refine g_iadd hk dL_law_887 ?_
  refine g_norm (v := 2) (by decide) ?_
  refine g_sld (v := xs 2) hk hX (vp_in_iff.mpr ⟨by decide, by show (2 : Int) < (L : Int); omega⟩) rfl dL_law_888 ?_
  refine g_aload_n hk dL_law_889 rfl ?_
  refine g_iload_n hk dL_law_890 rfl ?_
  refine g_iconst (v := 3) hk dL_law_891 (by decide) ?_
  refine g_iadd hk dL_law_892 ?_
  refine g_norm (v := 3) (by decide) ?_
  refine g_sld (v := xs 3) hk hX (vp_in_iff.mpr ⟨by decide, by show (3 : Int) < (L : Int); omega⟩) rfl dL_law_893 ?_
  refine g_callV (n := 3) hk (m284_X11_way l D zt d q (xs 1) (xs 2) (xs 3)) (SP.pre _ _) (fun q h => List.mem_append_left _ h) (gi_V zw_1050 zw_1051 zw_1052 zw_103 (gi_sub zi_m284_X11_way zg_m284_X11_way)) rfl rfl rfl (by decide +kernel) ⟨Nat.le_of_ble_eq_true rfl, Nat.le_of_ble_eq_true rfl⟩ 0 rfl rfl rfl rfl (Nat.le_of_ble_eq_true rfl) ⟨Nat.le_of_ble_eq_true rfl, Nat.le_of_ble_eq_true rfl⟩ dL_law_894 (fun v ty' w' hp hk' => ?_)
  obtain ⟨rfl, rfl⟩ := hp
  show GW κ 4 82 21282 (wM r g iM1 aM1 lM1 ++ wX q d iX0 aX0) 897 [(3, .int 0), (2, .ref (r 0)), (1, .ref (q 0)), (0, .ref b)] [.int (-1)]
  refine g_aload_n hk dL_law_897 rfl ?_
  refine g_aload_n hk dL_law_898 rfl ?_
  refine g_iload_n hk dL_law_899 rfl ?_
  refine g_iconst (v := 1) hk dL_law_900 (by decide) ?_
  refine g_iadd hk dL_law_901 ?_
  refine g_norm (v := 1) (by decide) ?_
  refine g_sld (v := xs 1) hk hX (vp_in_iff.mpr ⟨by decide, by show (1 : Int) < (L : Int); omega⟩) rfl dL_law_902 ?_
  refine g_aload_n hk dL_law_903 rfl ?_
  refine g_iload_n hk dL_law_904 rfl ?_
  refine g_iconst (v := 2) hk dL_law_905 (by decide) ?_
  refine g_iadd hk dL_law_906 ?_
  refine g_norm (v := 2) (by decide) ?_
  refine g_sld (v := xs 2) hk hX (vp_in_iff.mpr ⟨by decide, by show (2 : Int) < (L : Int); omega⟩) rfl dL_law_907 ?_
  refine g_aload_n hk dL_law_908 rfl ?_
  refine g_iload_n hk dL_law_909 rfl ?_
  refine g_iconst (v := 3) hk dL_law_910 (by decide) ?_
  refine g_iadd hk dL_law_911 ?_
  refine g_norm (v := 3) (by decide) ?_
  refine g_sld (v := xs 3) hk hX (vp_in_iff.mpr ⟨by decide, by show (3 : Int) < (L : Int); omega⟩) rfl dL_law_912 ?_
  refine g_callV (n := 3) hk (m176_X12_way l D zt g r (xs 1) (xs 2) (xs 3)) (SP.pre _ _) (fun q h => List.mem_append_right _ h) (gi_V zw_1828 zw_1829 zw_1830 zw_115 (gi_sub zi_m176_X12_way zg_m176_X12_way)) rfl rfl rfl (by decide +kernel) ⟨Nat.le_of_ble_eq_true rfl, Nat.le_of_ble_eq_true rfl⟩ 0 rfl rfl rfl rfl (Nat.le_of_ble_eq_true rfl) ⟨Nat.le_of_ble_eq_true rfl, Nat.le_of_ble_eq_true rfl⟩ dL_law_913 (fun v ty' w' hp hk' => ?_)
  obtain ⟨rfl, rfl⟩ := hp
  show GW κ 4 82 21282 (wX q d iX0 aX0 ++ wM r g iM1 aM1 lM1) 916 [(3, .int 0), (2, .ref (r 0)), (1, .ref (q 0)), (0, .ref b)] [.int (-1), .int (-1)]
  refine g_icmp_eq (tgt := 1465) (a := (-1)) (b := (-1)) hk dL_law_916 (by decide) rfl rfl (fun _ => ?_) (fun z9 => absurd (show ((-1) : Int) = ((-1) : Int) from by decide) z9)
  exact tail _
set_option maxHeartbeats 4000000 in
set_option maxRecDepth 100000 in
theorem law_23 {κ : Cx} {l : Launch} {D : va_G} {zt : Nat × Nat × Nat} {q r : Nat → Nat} {d g : Nat → ClassId} {b L : Nat} {xs : Nat → Int32} (hk : GC κ l D zt code 4 RL lw_tbl (tyX d ++ tyM g) room_1) (hX : GX κ b L xs) (hL6 : L = 6) (tail : ∀ ws, GW κ 4 82 21282 ws 1465 [(3, .int 0), (2, .ref (r 0)), (1, .ref (q 0)), (0, .ref b)] []) : GW κ 4 82 21282 (wX q d iX0 aX0 ++ wM r g iM1 aM1 lM1) 921 [(3, .int 0), (2, .ref (r 0)), (1, .ref (q 0)), (0, .ref b)] [] := by
  refine g_aload_n hk dL_law_921 rfl ?_
  refine g_aload_n hk dL_law_922 rfl ?_
  refine g_iload_n hk dL_law_923 rfl ?_
  refine g_iconst (v := 1) hk dL_law_924 (by decide) ?_
  refine g_iadd hk dL_law_925 ?_
  refine g_norm (v := 1) (by decide) ?_
  refine g_sld (v := xs 1) hk hX (vp_in_iff.mpr ⟨by decide, by show (1 : Int) < (L : Int); omega⟩) rfl dL_law_926 ?_
  refine g_aload_n hk dL_law_927 rfl ?_
  refine g_iload_n hk dL_law_928 rfl ?_
  refine g_iconst (v := 2) hk dL_law_929 (by decide) ?_
  refine g_iadd hk dL_law_930 ?_
  refine g_norm (v := 2) (by decide) ?_
  refine g_sld (v := xs 2) hk hX (vp_in_iff.mpr ⟨by decide, by show (2 : Int) < (L : Int); omega⟩) rfl dL_law_931 ?_
  refine g_callV (n := 2) hk (m285_X11_needs l D zt d q (xs 1) (xs 2)) (SP.pre _ _) (fun q h => List.mem_append_left _ h) (gi_V zw_1194 zw_1195 zw_1196 zw_103 (gi_sub zi_m285_X11_needs zg_m285_X11_needs)) rfl rfl rfl (by decide +kernel) ⟨Nat.le_of_ble_eq_true rfl, Nat.le_of_ble_eq_true rfl⟩ 0 rfl rfl rfl rfl (Nat.le_of_ble_eq_true rfl) ⟨Nat.le_of_ble_eq_true rfl, Nat.le_of_ble_eq_true rfl⟩ dL_law_932 (fun v ty' w' hp hk' => ?_)
  obtain ⟨rfl, rfl⟩ := hp
  show GW κ 4 82 21282 (wM r g iM1 aM1 lM1 ++ wX q d iX0 aX0) 935 [(3, .int 0), (2, .ref (r 0)), (1, .ref (q 0)), (0, .ref b)] [.int (-1)]
  refine g_aload_n hk dL_law_935 rfl ?_
  refine g_aload_n hk dL_law_936 rfl ?_
  refine g_iload_n hk dL_law_937 rfl ?_
  refine g_iconst (v := 1) hk dL_law_938 (by decide) ?_
  refine g_iadd hk dL_law_939 ?_
  refine g_norm (v := 1) (by decide) ?_
  refine g_sld (v := xs 1) hk hX (vp_in_iff.mpr ⟨by decide, by show (1 : Int) < (L : Int); omega⟩) rfl dL_law_940 ?_
  refine g_aload_n hk dL_law_941 rfl ?_
  refine g_iload_n hk dL_law_942 rfl ?_
  refine g_iconst (v := 2) hk dL_law_943 (by decide) ?_
  refine g_iadd hk dL_law_944 ?_
  refine g_norm (v := 2) (by decide) ?_
  refine g_sld (v := xs 2) hk hX (vp_in_iff.mpr ⟨by decide, by show (2 : Int) < (L : Int); omega⟩) rfl dL_law_945 ?_
  refine g_callV (n := 2) hk (m177_X12_needs l D zt g r (xs 1) (xs 2)) (SP.pre _ _) (fun q h => List.mem_append_right _ h) (gi_V zw_1852 zw_1853 zw_1854 zw_115 (gi_sub zi_m177_X12_needs zg_m177_X12_needs)) rfl rfl rfl (by decide +kernel) ⟨Nat.le_of_ble_eq_true rfl, Nat.le_of_ble_eq_true rfl⟩ 0 rfl rfl rfl rfl (Nat.le_of_ble_eq_true rfl) ⟨Nat.le_of_ble_eq_true rfl, Nat.le_of_ble_eq_true rfl⟩ dL_law_946 (fun v ty' w' hp hk' => ?_)
  obtain ⟨rfl, rfl⟩ := hp
  show GW κ 4 82 21282 (wX q d iX0 aX0 ++ wM r g iM1 aM1 lM1) 949 [(3, .int 0), (2, .ref (r 0)), (1, .ref (q 0)), (0, .ref b)] [.int (-1), .int (-1)]
  refine g_icmp_eq (tgt := 1465) (a := (-1)) (b := (-1)) hk dL_law_949 (by decide) rfl rfl (fun _ => ?_) (fun z9 => absurd (show ((-1) : Int) = ((-1) : Int) from by decide) z9)
  exact tail _
set_option maxHeartbeats 4000000 in
set_option maxRecDepth 100000 in
theorem law_24 {κ : Cx} {l : Launch} {D : va_G} {zt : Nat × Nat × Nat} {q r : Nat → Nat} {d g : Nat → ClassId} {b L : Nat} {xs : Nat → Int32} (hk : GC κ l D zt code 4 RL lw_tbl (tyX d ++ tyM g) room_1) (hX : GX κ b L xs) (hL6 : L = 6) (tail : ∀ ws, GW κ 4 82 21282 ws 1465 [(3, .int 0), (2, .ref (r 0)), (1, .ref (q 0)), (0, .ref b)] []) : GW κ 4 82 21282 (wX q d iX0 aX0 ++ wM r g iM1 aM1 lM1) 954 [(3, .int 0), (2, .ref (r 0)), (1, .ref (q 0)), (0, .ref b)] [] := by
  refine g_aload_n hk dL_law_954 rfl ?_
  refine g_aload_n hk dL_law_955 rfl ?_
  refine g_iload_n hk dL_law_956 rfl ?_
  refine g_iconst (v := 1) hk dL_law_957 (by decide) ?_
  refine g_iadd hk dL_law_958 ?_
  refine g_norm (v := 1) (by decide) ?_
  refine g_sld (v := xs 1) hk hX (vp_in_iff.mpr ⟨by decide, by show (1 : Int) < (L : Int); omega⟩) rfl dL_law_959 ?_
  refine g_aload_n hk dL_law_960 rfl ?_
  refine g_iload_n hk dL_law_961 rfl ?_
  refine g_iconst (v := 2) hk dL_law_962 (by decide) ?_
  refine g_iadd hk dL_law_963 ?_
  refine g_norm (v := 2) (by decide) ?_
  refine g_sld (v := xs 2) hk hX (vp_in_iff.mpr ⟨by decide, by show (2 : Int) < (L : Int); omega⟩) rfl dL_law_964 ?_
  refine g_callV (n := 2) hk (m286_X11_alike l D zt d q (xs 1) (xs 2)) (SP.pre _ _) (fun q h => List.mem_append_left _ h) (gi_V zw_1082 zw_1083 zw_1084 zw_103 (gi_sub zi_m286_X11_alike zg_m286_X11_alike)) rfl rfl rfl (by decide +kernel) ⟨Nat.le_of_ble_eq_true rfl, Nat.le_of_ble_eq_true rfl⟩ 0 rfl rfl rfl rfl (Nat.le_of_ble_eq_true rfl) ⟨Nat.le_of_ble_eq_true rfl, Nat.le_of_ble_eq_true rfl⟩ dL_law_965 (fun v ty' w' hp hk' => ?_)
  obtain ⟨rfl, rfl⟩ := hp
  show GW κ 4 82 21282 (wM r g iM1 aM1 lM1 ++ wX q d iX0 aX0) 968 [(3, .int 0), (2, .ref (r 0)), (1, .ref (q 0)), (0, .ref b)] [.int (-1)]
  refine g_aload_n hk dL_law_968 rfl ?_
  refine g_aload_n hk dL_law_969 rfl ?_
  refine g_iload_n hk dL_law_970 rfl ?_
  refine g_iconst (v := 1) hk dL_law_971 (by decide) ?_
  refine g_iadd hk dL_law_972 ?_
  refine g_norm (v := 1) (by decide) ?_
  refine g_sld (v := xs 1) hk hX (vp_in_iff.mpr ⟨by decide, by show (1 : Int) < (L : Int); omega⟩) rfl dL_law_973 ?_
  refine g_aload_n hk dL_law_974 rfl ?_
  refine g_iload_n hk dL_law_975 rfl ?_
  refine g_iconst (v := 2) hk dL_law_976 (by decide) ?_
  refine g_iadd hk dL_law_977 ?_
  refine g_norm (v := 2) (by decide) ?_
  refine g_sld (v := xs 2) hk hX (vp_in_iff.mpr ⟨by decide, by show (2 : Int) < (L : Int); omega⟩) rfl dL_law_978 ?_
  refine g_callV (n := 2) hk (m178_X12_alike l D zt g r (xs 1) (xs 2)) (SP.pre _ _) (fun q h => List.mem_append_right _ h) (gi_V zw_1824 zw_1825 zw_1826 zw_115 (gi_sub zi_m178_X12_alike zg_m178_X12_alike)) rfl rfl rfl (by decide +kernel) ⟨Nat.le_of_ble_eq_true rfl, Nat.le_of_ble_eq_true rfl⟩ 0 rfl rfl rfl rfl (Nat.le_of_ble_eq_true rfl) ⟨Nat.le_of_ble_eq_true rfl, Nat.le_of_ble_eq_true rfl⟩ dL_law_979 (fun v ty' w' hp hk' => ?_)
  obtain ⟨rfl, rfl⟩ := hp
  show GW κ 4 82 21282 (wX q d iX0 aX0 ++ wM r g iM1 aM1 lM1) 982 [(3, .int 0), (2, .ref (r 0)), (1, .ref (q 0)), (0, .ref b)] [.int (-1), .int (-1)]
  refine g_icmp_eq (tgt := 1465) (a := (-1)) (b := (-1)) hk dL_law_982 (by decide) rfl rfl (fun _ => ?_) (fun z9 => absurd (show ((-1) : Int) = ((-1) : Int) from by decide) z9)
  exact tail _
set_option maxHeartbeats 4000000 in
set_option maxRecDepth 100000 in
theorem law_25 {κ : Cx} {l : Launch} {D : va_G} {zt : Nat × Nat × Nat} {q r : Nat → Nat} {d g : Nat → ClassId} {b L : Nat} {xs : Nat → Int32} (hk : GC κ l D zt code 4 RL lw_tbl (tyX d ++ tyM g) room_1) (hX : GX κ b L xs) (hL6 : L = 6) (tail : ∀ ws, GW κ 4 82 21282 ws 1465 [(3, .int 0), (2, .ref (r 0)), (1, .ref (q 0)), (0, .ref b)] []) : GW κ 4 82 21282 (wX q d iX0 aX0 ++ wM r g iM1 aM1 lM1) 987 [(3, .int 0), (2, .ref (r 0)), (1, .ref (q 0)), (0, .ref b)] [] := by
  refine g_aload_n hk dL_law_987 rfl ?_
  refine g_aload_n hk dL_law_988 rfl ?_
  refine g_iload_n hk dL_law_989 rfl ?_
  refine g_iconst (v := 1) hk dL_law_990 (by decide) ?_
  refine g_iadd hk dL_law_991 ?_
  refine g_norm (v := 1) (by decide) ?_
  refine g_sld (v := xs 1) hk hX (vp_in_iff.mpr ⟨by decide, by show (1 : Int) < (L : Int); omega⟩) rfl dL_law_992 ?_
  refine g_aload_n hk dL_law_993 rfl ?_
  refine g_iload_n hk dL_law_994 rfl ?_
  refine g_iconst (v := 2) hk dL_law_995 (by decide) ?_
  refine g_iadd hk dL_law_996 ?_
  refine g_norm (v := 2) (by decide) ?_
  refine g_sld (v := xs 2) hk hX (vp_in_iff.mpr ⟨by decide, by show (2 : Int) < (L : Int); omega⟩) rfl dL_law_997 ?_
  refine g_aload_n hk dL_law_998 rfl ?_
  refine g_iload_n hk dL_law_999 rfl ?_
  refine g_iconst (v := 3) hk dL_law_1000 (by decide) ?_
  refine g_iadd hk dL_law_1001 ?_
  refine g_norm (v := 3) (by decide) ?_
  refine g_sld (v := xs 3) hk hX (vp_in_iff.mpr ⟨by decide, by show (3 : Int) < (L : Int); omega⟩) rfl dL_law_1002 ?_
  refine g_callV (n := 3) hk (m287_X11_near l D zt d q (xs 1) (xs 2) (xs 3)) (SP.pre _ _) (fun q h => List.mem_append_left _ h) (gi_V zw_1247 zw_1248 zw_1249 zw_103 (gi_sub zi_m287_X11_near zg_m287_X11_near)) rfl rfl rfl (by decide +kernel) ⟨Nat.le_of_ble_eq_true rfl, Nat.le_of_ble_eq_true rfl⟩ 0 rfl rfl rfl rfl (Nat.le_of_ble_eq_true rfl) ⟨Nat.le_of_ble_eq_true rfl, Nat.le_of_ble_eq_true rfl⟩ dL_law_1003 (fun v ty' w' hp hk' => ?_)
  obtain ⟨rfl, rfl⟩ := hp
  show GW κ 4 82 21282 (wM r g iM1 aM1 lM1 ++ wX q d iX0 aX0) 1006 [(3, .int 0), (2, .ref (r 0)), (1, .ref (q 0)), (0, .ref b)] [.int (-1)]
  refine g_aload_n hk dL_law_1006 rfl ?_
  refine g_aload_n hk dL_law_1007 rfl ?_
  refine g_iload_n hk dL_law_1008 rfl ?_
  refine g_iconst (v := 1) hk dL_law_1009 (by decide) ?_
  refine g_iadd hk dL_law_1010 ?_
  refine g_norm (v := 1) (by decide) ?_
  refine g_sld (v := xs 1) hk hX (vp_in_iff.mpr ⟨by decide, by show (1 : Int) < (L : Int); omega⟩) rfl dL_law_1011 ?_
  refine g_aload_n hk dL_law_1012 rfl ?_
  refine g_iload_n hk dL_law_1013 rfl ?_
  refine g_iconst (v := 2) hk dL_law_1014 (by decide) ?_
  refine g_iadd hk dL_law_1015 ?_
  refine g_norm (v := 2) (by decide) ?_
  refine g_sld (v := xs 2) hk hX (vp_in_iff.mpr ⟨by decide, by show (2 : Int) < (L : Int); omega⟩) rfl dL_law_1016 ?_
  refine g_aload_n hk dL_law_1017 rfl ?_
  refine g_iload_n hk dL_law_1018 rfl ?_
  refine g_iconst (v := 3) hk dL_law_1019 (by decide) ?_
  refine g_iadd hk dL_law_1020 ?_
  refine g_norm (v := 3) (by decide) ?_
  refine g_sld (v := xs 3) hk hX (vp_in_iff.mpr ⟨by decide, by show (3 : Int) < (L : Int); omega⟩) rfl dL_law_1021 ?_
  refine g_callV (n := 3) hk (m179_X12_near l D zt g r (xs 1) (xs 2) (xs 3)) (SP.pre _ _) (fun q h => List.mem_append_right _ h) (gi_V zw_1915 zw_1916 zw_1917 zw_115 (gi_sub zi_m179_X12_near zg_m179_X12_near)) rfl rfl rfl (by decide +kernel) ⟨Nat.le_of_ble_eq_true rfl, Nat.le_of_ble_eq_true rfl⟩ 0 rfl rfl rfl rfl (Nat.le_of_ble_eq_true rfl) ⟨Nat.le_of_ble_eq_true rfl, Nat.le_of_ble_eq_true rfl⟩ dL_law_1022 (fun v ty' w' hp hk' => ?_)
  obtain ⟨rfl, rfl⟩ := hp
  show GW κ 4 82 21282 (wX q d iX0 aX0 ++ wM r g iM1 aM1 lM1) 1025 [(3, .int 0), (2, .ref (r 0)), (1, .ref (q 0)), (0, .ref b)] [.int (-1), .int (-1)]
  refine g_icmp_eq (tgt := 1465) (a := (-1)) (b := (-1)) hk dL_law_1025 (by decide) rfl rfl (fun _ => ?_) (fun z9 => absurd (show ((-1) : Int) = ((-1) : Int) from by decide) z9)
  exact tail _
