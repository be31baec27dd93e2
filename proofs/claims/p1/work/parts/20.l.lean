set_option maxHeartbeats 4000000 in
set_option maxRecDepth 100000 in
theorem law_0 {κ : Cx} {l : Launch} {D : va_G} {zt : Nat × Nat × Nat} {q r : Nat → Nat} {d g : Nat → ClassId} {b L : Nat} {xs : Nat → Int32} (hk : GC κ l D zt code 4 RL wsL_law (tyX d ++ tyM g) room_1) (hX : GX κ b L xs) (hL6 : L = 6) (tail : ∀ ws, GW κ 4 82 21282 ws 1465 [(3, .int 0), (2, .ref (r 0)), (1, .ref (q 0)), (0, .ref b)] []) : GW κ 4 82 21282 (wX q d iX0 aX0 ++ wM r g iM1 aM1 lM1) 212 [(3, .int 0), (2, .ref (r 0)), (1, .ref (q 0)), (0, .ref b)] [] := by
  refine g_aload_n hk dL_law_212 rfl ?_
  refine g_aload_n hk dL_law_213 rfl ?_
  refine g_iload_n hk dL_law_214 rfl ?_
  refine g_iconst (v := 1) hk dL_law_215 (by decide) ?_
  refine g_iadd hk dL_law_216 ?_
  refine g_norm (v := 1) (by decide) ?_
  refine g_sld (v := xs 1) hk hX (vp_in_iff.mpr ⟨by decide, by show (1 : Int) < (L : Int); omega⟩) rfl dL_law_217 ?_
  refine g_aload_n hk dL_law_218 rfl ?_
  refine g_iload_n hk dL_law_219 rfl ?_
  refine g_iconst (v := 2) hk dL_law_220 (by decide) ?_
  refine g_iadd hk dL_law_221 ?_
  refine g_norm (v := 2) (by decide) ?_
  refine g_sld (v := xs 2) hk hX (vp_in_iff.mpr ⟨by decide, by show (2 : Int) < (L : Int); omega⟩) rfl dL_law_222 ?_
  refine g_aload_n hk dL_law_223 rfl ?_
  refine g_iload_n hk dL_law_224 rfl ?_
  refine g_iconst (v := 3) hk dL_law_225 (by decide) ?_
  refine g_iadd hk dL_law_226 ?_
  refine g_norm (v := 3) (by decide) ?_
  refine g_sld (v := xs 3) hk hX (vp_in_iff.mpr ⟨by decide, by show (3 : Int) < (L : Int); omega⟩) rfl dL_law_227 ?_
  refine g_aload_n hk dL_law_228 rfl ?_
  refine g_iload_n hk dL_law_229 rfl ?_
  refine g_iconst (v := 4) hk dL_law_230 (by decide) ?_
  refine g_iadd hk dL_law_231 ?_
  refine g_norm (v := 4) (by decide) ?_
  refine g_sld (v := xs 4) hk hX (vp_in_iff.mpr ⟨by decide, by show (4 : Int) < (L : Int); omega⟩) rfl dL_law_232 ?_
  refine g_aload_n hk dL_law_233 rfl ?_
  refine g_iload_n hk dL_law_234 rfl ?_
  refine g_iconst (v := 5) hk dL_law_235 (by decide) ?_
  refine g_iadd hk dL_law_236 ?_
  refine g_norm (v := 5) (by decide) ?_
  refine g_sld (v := xs 5) hk hX (vp_in_iff.mpr ⟨by decide, by show (5 : Int) < (L : Int); omega⟩) rfl dL_law_237 ?_
  refine g_callV hk (m209_X11_feed l D zt d q (xs 1) (xs 2) (xs 3) (xs 4) (xs 5)) (SP.pre _ _) (fun q h => List.mem_append_left _ h) gL_law_X11_feed rfl rfl rfl (by decide +kernel) ⟨Nat.le_of_ble_eq_true rfl, Nat.le_of_ble_eq_true rfl⟩ 0 rfl rfl rfl rfl (Nat.le_of_ble_eq_true rfl) ⟨Nat.le_of_ble_eq_true rfl, Nat.le_of_ble_eq_true rfl⟩ dL_law_238 (fun v ty' w' hp hk' => ?_)
  obtain ⟨y808, y809, y810, y811, y812, y813, y814, y815, y816, y817, y818, y819, y820, y821, y822, y823, y824, y825, y826, y827, rfl, rfl⟩ := hp
  show GW κ 4 82 21282 (wM r g iM1 aM1 lM1 ++ wX q d (upd (upd (upd (upd (upd (upd (upd (upd (upd (upd (upd (upd (upd (upd (upd (upd (upd (upd (upd (upd iX0 0 1) 0 2) 0 3) 0 4) 0 5) 0 6) 0 7) 0 8) 0 9) 0 10) 0 11) 0 12) 0 13) 0 14) 0 15) 0 16) 0 17) 0 18) 0 19) 0 20) (up3 (up3 (up3 (up3 (up3 (up3 (up3 (up3 (up3 (up3 (up3 (up3 (up3 (up3 (up3 (up3 (up3 (up3 (up3 (up3 aX0 0 0 y808) 0 1 y809) 0 2 y810) 0 3 y811) 0 4 y812) 0 5 y813) 0 6 y814) 0 7 y815) 0 8 y816) 0 9 y817) 0 10 y818) 0 11 y819) 0 12 y820) 0 13 y821) 0 14 y822) 0 15 y823) 0 16 y824) 0 17 y825) 0 18 y826) 0 19 y827)) 241 [(3, .int 0), (2, .ref (r 0)), (1, .ref (q 0)), (0, .ref b)] [.int 20]
  refine g_aload_n hk dL_law_241 rfl ?_
  refine g_aload_n hk dL_law_242 rfl ?_
  refine g_iload_n hk dL_law_243 rfl ?_
  refine g_iconst (v := 1) hk dL_law_244 (by decide) ?_
  refine g_iadd hk dL_law_245 ?_
  refine g_norm (v := 1) (by decide) ?_
  refine g_sld (v := xs 1) hk hX (vp_in_iff.mpr ⟨by decide, by show (1 : Int) < (L : Int); omega⟩) rfl dL_law_246 ?_
  refine g_aload_n hk dL_law_247 rfl ?_
  refine g_iload_n hk dL_law_248 rfl ?_
  refine g_iconst (v := 2) hk dL_law_249 (by decide) ?_
  refine g_iadd hk dL_law_250 ?_
  refine g_norm (v := 2) (by decide) ?_
  refine g_sld (v := xs 2) hk hX (vp_in_iff.mpr ⟨by decide, by show (2 : Int) < (L : Int); omega⟩) rfl dL_law_251 ?_
  refine g_aload_n hk dL_law_252 rfl ?_
  refine g_iload_n hk dL_law_253 rfl ?_
  refine g_iconst (v := 3) hk dL_law_254 (by decide) ?_
  refine g_iadd hk dL_law_255 ?_
  refine g_norm (v := 3) (by decide) ?_
  refine g_sld (v := xs 3) hk hX (vp_in_iff.mpr ⟨by decide, by show (3 : Int) < (L : Int); omega⟩) rfl dL_law_256 ?_
  refine g_aload_n hk dL_law_257 rfl ?_
  refine g_iload_n hk dL_law_258 rfl ?_
  refine g_iconst (v := 4) hk dL_law_259 (by decide) ?_
  refine g_iadd hk dL_law_260 ?_
  refine g_norm (v := 4) (by decide) ?_
  refine g_sld (v := xs 4) hk hX (vp_in_iff.mpr ⟨by decide, by show (4 : Int) < (L : Int); omega⟩) rfl dL_law_261 ?_
  refine g_aload_n hk dL_law_262 rfl ?_
  refine g_iload_n hk dL_law_263 rfl ?_
  refine g_iconst (v := 5) hk dL_law_264 (by decide) ?_
  refine g_iadd hk dL_law_265 ?_
  refine g_norm (v := 5) (by decide) ?_
  refine g_sld (v := xs 5) hk hX (vp_in_iff.mpr ⟨by decide, by show (5 : Int) < (L : Int); omega⟩) rfl dL_law_266 ?_
  refine g_callV hk (m118_X12_feed l D zt g r (xs 1) (xs 2) (xs 3) (xs 4) (xs 5)) (SP.pre _ _) (fun q h => List.mem_append_right _ h) gL_law_X12_feed rfl rfl rfl (by decide +kernel) ⟨Nat.le_of_ble_eq_true rfl, Nat.le_of_ble_eq_true rfl⟩ 0 rfl rfl rfl rfl (Nat.le_of_ble_eq_true rfl) ⟨Nat.le_of_ble_eq_true rfl, Nat.le_of_ble_eq_true rfl⟩ dL_law_267 (fun v ty' w' hp hk' => ?_)
  obtain ⟨y828, y829, y830, y831, y832, y833, y834, y835, y836, y837, y838, y839, y840, y841, y842, y843, y844, y845, y846, y847, rfl, rfl⟩ := hp
  show GW κ 4 82 21282 (wX q d (upd (upd (upd (upd (upd (upd (upd (upd (upd (upd (upd (upd (upd (upd (upd (upd (upd (upd (upd (upd iX0 0 1) 0 2) 0 3) 0 4) 0 5) 0 6) 0 7) 0 8) 0 9) 0 10) 0 11) 0 12) 0 13) 0 14) 0 15) 0 16) 0 17) 0 18) 0 19) 0 20) (up3 (up3 (up3 (up3 (up3 (up3 (up3 (up3 (up3 (up3 (up3 (up3 (up3 (up3 (up3 (up3 (up3 (up3 (up3 (up3 aX0 0 0 y808) 0 1 y809) 0 2 y810) 0 3 y811) 0 4 y812) 0 5 y813) 0 6 y814) 0 7 y815) 0 8 y816) 0 9 y817) 0 10 y818) 0 11 y819) 0 12 y820) 0 13 y821) 0 14 y822) 0 15 y823) 0 16 y824) 0 17 y825) 0 18 y826) 0 19 y827) ++ wM r g (upd (upd (upd (upd (upd (upd (upd (upd (upd (upd (upd (upd (upd (upd (upd (upd (upd (upd (upd (upd iM1 1 1) 1 2) 1 3) 1 4) 1 5) 1 6) 1 7) 1 8) 1 9) 1 10) 1 11) 1 12) 1 13) 1 14) 1 15) 1 16) 1 17) 1 18) 1 19) 1 20) (up3 (up3 (up3 (up3 (up3 (up3 (up3 (up3 (up3 (up3 (up3 (up3 (up3 (up3 (up3 (up3 (up3 (up3 (up3 (up3 aM1 0 0 y828) 0 1 y829) 0 2 y830) 0 3 y831) 0 4 y832) 0 5 y833) 0 6 y834) 0 7 y835) 0 8 y836) 0 9 y837) 0 10 y838) 0 11 y839) 0 12 y840) 0 13 y841) 0 14 y842) 0 15 y843) 0 16 y844) 0 17 y845) 0 18 y846) 0 19 y847) lM1) 270 [(3, .int 0), (2, .ref (r 0)), (1, .ref (q 0)), (0, .ref b)] [.int 20, .int 20]
  refine g_icmp_eq (tgt := 1465) (a := 20) (b := 20) hk dL_law_270 (by decide) rfl rfl (fun _ => ?_) (fun z9 => absurd (show 20 = 20 from by decide) z9)
  exact tail _
set_option maxHeartbeats 4000000 in
set_option maxRecDepth 100000 in
theorem law_1 {κ : Cx} {l : Launch} {D : va_G} {zt : Nat × Nat × Nat} {q r : Nat → Nat} {d g : Nat → ClassId} {b L : Nat} {xs : Nat → Int32} (hk : GC κ l D zt code 4 RL wsL_law (tyX d ++ tyM g) room_1) (hX : GX κ b L xs) (hL6 : L = 6) (tail : ∀ ws, GW κ 4 82 21282 ws 1465 [(3, .int 0), (2, .ref (r 0)), (1, .ref (q 0)), (0, .ref b)] []) : GW κ 4 82 21282 (wX q d iX0 aX0 ++ wM r g iM1 aM1 lM1) 275 [(3, .int 0), (2, .ref (r 0)), (1, .ref (q 0)), (0, .ref b)] [] := by
  refine g_aload_n hk dL_law_275 rfl ?_
  refine g_aload_n hk dL_law_276 rfl ?_
  refine g_iload_n hk dL_law_277 rfl ?_
  refine g_iconst (v := 1) hk dL_law_278 (by decide) ?_
  refine g_iadd hk dL_law_279 ?_
  refine g_norm (v := 1) (by decide) ?_
  refine g_sld (v := xs 1) hk hX (vp_in_iff.mpr ⟨by decide, by show (1 : Int) < (L : Int); omega⟩) rfl dL_law_280 ?_
  refine g_callV hk (m210_X11_back l D zt d q (xs 1)) (SP.pre _ _) (fun q h => List.mem_append_left _ h) gL_law_X11_back rfl rfl rfl (by decide +kernel) ⟨Nat.le_of_ble_eq_true rfl, Nat.le_of_ble_eq_true rfl⟩ 0 rfl rfl rfl rfl (Nat.le_of_ble_eq_true rfl) ⟨Nat.le_of_ble_eq_true rfl, Nat.le_of_ble_eq_true rfl⟩ dL_law_281 (fun v ty' w' hp hk' => ?_)
  rcases hp with ⟨c848, rfl, rfl⟩ | ⟨c849, c850, c851, rfl, rfl⟩ | ⟨c852, c853, rfl, rfl⟩
  · show GW κ 4 82 21282 (wM r g iM1 aM1 lM1 ++ wX q d iX0 aX0) 284 [(3, .int 0), (2, .ref (r 0)), (1, .ref (q 0)), (0, .ref b)] [.int (-1)]
    refine g_aload_n hk dL_law_284 rfl ?_
    refine g_aload_n hk dL_law_285 rfl ?_
    refine g_iload_n hk dL_law_286 rfl ?_
    refine g_iconst (v := 1) hk dL_law_287 (by decide) ?_
    refine g_iadd hk dL_law_288 ?_
    refine g_norm (v := 1) (by decide) ?_
    refine g_sld (v := xs 1) hk hX (vp_in_iff.mpr ⟨by decide, by show (1 : Int) < (L : Int); omega⟩) rfl dL_law_289 ?_
    refine g_callV hk (m119_X12_back l D zt g r (xs 1)) (SP.pre _ _) (fun q h => List.mem_append_right _ h) gL_law_X12_back rfl rfl rfl (by decide +kernel) ⟨Nat.le_of_ble_eq_true rfl, Nat.le_of_ble_eq_true rfl⟩ 0 rfl rfl rfl rfl (Nat.le_of_ble_eq_true rfl) ⟨Nat.le_of_ble_eq_true rfl, Nat.le_of_ble_eq_true rfl⟩ dL_law_290 (fun v ty' w' hp hk' => ?_)
    rcases hp with ⟨c854, rfl, rfl⟩ | ⟨c855, c856, c857, rfl, rfl⟩ | ⟨c858, c859, rfl, rfl⟩
    · show GW κ 4 82 21282 (wX q d iX0 aX0 ++ wM r g iM1 aM1 lM1) 293 [(3, .int 0), (2, .ref (r 0)), (1, .ref (q 0)), (0, .ref b)] [.int (-1), .int (-1)]
      refine g_icmp_eq (tgt := 1465) (a := (-1)) (b := (-1)) hk dL_law_293 (by decide) rfl rfl (fun _ => ?_) (fun z9 => absurd (show (-1) = (-1) from by decide) z9)
      exact tail _
    · show GW κ 4 82 21282 (wX q d iX0 aX0 ++ wM r g iM1 aM1 lM1) 293 [(3, .int 0), (2, .ref (r 0)), (1, .ref (q 0)), (0, .ref b)] [.int 0, .int (-1)]
      exfalso; omega
    · show GW κ 4 82 21282 (wX q d iX0 aX0 ++ wM r g iM1 aM1 lM1) 293 [(3, .int 0), (2, .ref (r 0)), (1, .ref (q 0)), (0, .ref b)] [.int (-1), .int (-1)]
      exfalso; omega
  · show GW κ 4 82 21282 (wM r g iM1 aM1 lM1 ++ wX q d iX0 aX0) 284 [(3, .int 0), (2, .ref (r 0)), (1, .ref (q 0)), (0, .ref b)] [.int 0]
    refine g_aload_n hk dL_law_284 rfl ?_
    refine g_aload_n hk dL_law_285 rfl ?_
    refine g_iload_n hk dL_law_286 rfl ?_
    refine g_iconst (v := 1) hk dL_law_287 (by decide) ?_
    refine g_iadd hk dL_law_288 ?_
    refine g_norm (v := 1) (by decide) ?_
    refine g_sld (v := xs 1) hk hX (vp_in_iff.mpr ⟨by decide, by show (1 : Int) < (L : Int); omega⟩) rfl dL_law_289 ?_
    refine g_callV hk (m119_X12_back l D zt g r (xs 1)) (SP.pre _ _) (fun q h => List.mem_append_right _ h) gL_law_X12_back rfl rfl rfl (by decide +kernel) ⟨Nat.le_of_ble_eq_true rfl, Nat.le_of_ble_eq_true rfl⟩ 0 rfl rfl rfl rfl (Nat.le_of_ble_eq_true rfl) ⟨Nat.le_of_ble_eq_true rfl, Nat.le_of_ble_eq_true rfl⟩ dL_law_290 (fun v ty' w' hp hk' => ?_)
    rcases hp with ⟨c860, rfl, rfl⟩ | ⟨c861, c862, c863, rfl, rfl⟩ | ⟨c864, c865, rfl, rfl⟩
    · show GW κ 4 82 21282 (wX q d iX0 aX0 ++ wM r g iM1 aM1 lM1) 293 [(3, .int 0), (2, .ref (r 0)), (1, .ref (q 0)), (0, .ref b)] [.int (-1), .int 0]
      exfalso; omega
    · show GW κ 4 82 21282 (wX q d iX0 aX0 ++ wM r g iM1 aM1 lM1) 293 [(3, .int 0), (2, .ref (r 0)), (1, .ref (q 0)), (0, .ref b)] [.int 0, .int 0]
      refine g_icmp_eq (tgt := 1465) (a := 0) (b := 0) hk dL_law_293 (by decide) rfl rfl (fun _ => ?_) (fun z9 => absurd (show 0 = 0 from by decide) z9)
      exact tail _
    · show GW κ 4 82 21282 (wX q d iX0 aX0 ++ wM r g iM1 aM1 lM1) 293 [(3, .int 0), (2, .ref (r 0)), (1, .ref (q 0)), (0, .ref b)] [.int (-1), .int 0]
      exfalso; omega
  · show GW κ 4 82 21282 (wM r g iM1 aM1 lM1 ++ wX q d iX0 aX0) 284 [(3, .int 0), (2, .ref (r 0)), (1, .ref (q 0)), (0, .ref b)] [.int (-1)]
    refine g_aload_n hk dL_law_284 rfl ?_
    refine g_aload_n hk dL_law_285 rfl ?_
    refine g_iload_n hk dL_law_286 rfl ?_
    refine g_iconst (v := 1) hk dL_law_287 (by decide) ?_
    refine g_iadd hk dL_law_288 ?_
    refine g_norm (v := 1) (by decide) ?_
    refine g_sld (v := xs 1) hk hX (vp_in_iff.mpr ⟨by decide, by show (1 : Int) < (L : Int); omega⟩) rfl dL_law_289 ?_
    refine g_callV hk (m119_X12_back l D zt g r (xs 1)) (SP.pre _ _) (fun q h => List.mem_append_right _ h) gL_law_X12_back rfl rfl rfl (by decide +kernel) ⟨Nat.le_of_ble_eq_true rfl, Nat.le_of_ble_eq_true rfl⟩ 0 rfl rfl rfl rfl (Nat.le_of_ble_eq_true rfl) ⟨Nat.le_of_ble_eq_true rfl, Nat.le_of_ble_eq_true rfl⟩ dL_law_290 (fun v ty' w' hp hk' => ?_)
    rcases hp with ⟨c866, rfl, rfl⟩ | ⟨c867, c868, c869, rfl, rfl⟩ | ⟨c870, c871, rfl, rfl⟩
    · show GW κ 4 82 21282 (wX q d iX0 aX0 ++ wM r g iM1 aM1 lM1) 293 [(3, .int 0), (2, .ref (r 0)), (1, .ref (q 0)), (0, .ref b)] [.int (-1), .int (-1)]
      exfalso; omega
    · show GW κ 4 82 21282 (wX q d iX0 aX0 ++ wM r g iM1 aM1 lM1) 293 [(3, .int 0), (2, .ref (r 0)), (1, .ref (q 0)), (0, .ref b)] [.int 0, .int (-1)]
      exfalso; omega
    · show GW κ 4 82 21282 (wX q d iX0 aX0 ++ wM r g iM1 aM1 lM1) 293 [(3, .int 0), (2, .ref (r 0)), (1, .ref (q 0)), (0, .ref b)] [.int (-1), .int (-1)]
      refine g_icmp_eq (tgt := 1465) (a := (-1)) (b := (-1)) hk dL_law_293 (by decide) rfl rfl (fun _ => ?_) (fun z9 => absurd (show (-1) = (-1) from by decide) z9)
      exact tail _
set_option maxHeartbeats 4000000 in
set_option maxRecDepth 100000 in
theorem law_2 {κ : Cx} {l : Launch} {D : va_G} {zt : Nat × Nat × Nat} {q r : Nat → Nat} {d g : Nat → ClassId} {b L : Nat} {xs : Nat → Int32} (hk : GC κ l D zt code 4 RL wsL_law (tyX d ++ tyM g) room_1) (hX : GX κ b L xs) (hL6 : L = 6) (tail : ∀ ws, GW κ 4 82 21282 ws 1465 [(3, .int 0), (2, .ref (r 0)), (1, .ref (q 0)), (0, .ref b)] []) : GW κ 4 82 21282 (wX q d iX0 aX0 ++ wM r g iM1 aM1 lM1) 298 [(3, .int 0), (2, .ref (r 0)), (1, .ref (q 0)), (0, .ref b)] [] := by
  refine g_aload_n hk dL_law_298 rfl ?_
  refine g_callV hk (m232_X11_read l D zt d q) (SP.pre _ _) (fun q h => List.mem_append_left _ h) gL_law_X11_read rfl rfl rfl (by decide +kernel) ⟨Nat.le_of_ble_eq_true rfl, Nat.le_of_ble_eq_true rfl⟩ 0 rfl rfl rfl rfl (Nat.le_of_ble_eq_true rfl) ⟨Nat.le_of_ble_eq_true rfl, Nat.le_of_ble_eq_true rfl⟩ dL_law_299 (fun v ty' w' hp hk' => ?_)
  obtain ⟨rfl, rfl⟩ := hp
  show GW κ 4 82 21282 (wM r g iM1 aM1 lM1 ++ wX q d (upd iX0 4 1) aX0) 302 [(3, .int 0), (2, .ref (r 0)), (1, .ref (q 0)), (0, .ref b)] [.int 0]
  refine g_aload_n hk dL_law_302 rfl ?_
  refine g_callV hk (m127_X12_read l D zt g r) (SP.pre _ _) (fun q h => List.mem_append_right _ h) gL_law_X12_read rfl rfl rfl (by decide +kernel) ⟨Nat.le_of_ble_eq_true rfl, Nat.le_of_ble_eq_true rfl⟩ 0 rfl rfl rfl rfl (Nat.le_of_ble_eq_true rfl) ⟨Nat.le_of_ble_eq_true rfl, Nat.le_of_ble_eq_true rfl⟩ dL_law_303 (fun v ty' w' hp hk' => ?_)
  obtain ⟨rfl, rfl⟩ := hp
  show GW κ 4 82 21282 (wX q d (upd iX0 4 1) aX0 ++ wM r g (upd (upd (upd (upd iM1 3 1) 11 (-2)) 16 1) 15 1) (up2 (up3 (up3 (up2 aM1 18 (cp (fun _ => 0) (aM1 18) 165)) 18 161 2) 18 164 8) 17 (cp ((up3 (up3 (up2 aM1 18 (cp (fun _ => 0) (aM1 18) 165)) 18 161 2) 18 164 8) 18) ((up3 (up3 (up2 aM1 18 (cp (fun _ => 0) (aM1 18) 165)) 18 161 2) 18 164 8) 17) 165)) (up3L lM1 5 0 0)) 306 [(3, .int 0), (2, .ref (r 0)), (1, .ref (q 0)), (0, .ref b)] [.int 0, .int 0]
  refine g_icmp_eq (tgt := 1465) (a := 0) (b := 0) hk dL_law_306 (by decide) rfl rfl (fun _ => ?_) (fun z9 => absurd (show 0 = 0 from by decide) z9)
  exact tail _
set_option maxHeartbeats 4000000 in
set_option maxRecDepth 100000 in
theorem law_3 {κ : Cx} {l : Launch} {D : va_G} {zt : Nat × Nat × Nat} {q r : Nat → Nat} {d g : Nat → ClassId} {b L : Nat} {xs : Nat → Int32} (hk : GC κ l D zt code 4 RL wsL_law (tyX d ++ tyM g) room_1) (hX : GX κ b L xs) (hL6 : L = 6) (tail : ∀ ws, GW κ 4 82 21282 ws 1465 [(3, .int 0), (2, .ref (r 0)), (1, .ref (q 0)), (0, .ref b)] []) : GW κ 4 82 21282 (wX q d iX0 aX0 ++ wM r g iM1 aM1 lM1) 311 [(3, .int 0), (2, .ref (r 0)), (1, .ref (q 0)), (0, .ref b)] [] := by
  refine g_aload_n hk dL_law_311 rfl ?_
  refine g_callV hk (m233_X11_place l D zt d q) (SP.pre _ _) (fun q h => List.mem_append_left _ h) gL_law_X11_place rfl rfl rfl (by decide +kernel) ⟨Nat.le_of_ble_eq_true rfl, Nat.le_of_ble_eq_true rfl⟩ 0 rfl rfl rfl rfl (Nat.le_of_ble_eq_true rfl) ⟨Nat.le_of_ble_eq_true rfl, Nat.le_of_ble_eq_true rfl⟩ dL_law_312 (fun v ty' w' hp hk' => ?_)
  obtain ⟨rfl, rfl⟩ := hp
  show GW κ 4 82 21282 (wM r g iM1 aM1 lM1 ++ wX q d iX0 aX0) 315 [(3, .int 0), (2, .ref (r 0)), (1, .ref (q 0)), (0, .ref b)] [.int (-1)]
  refine g_aload_n hk dL_law_315 rfl ?_
  refine g_callV hk (m128_X12_place l D zt g r) (SP.pre _ _) (fun q h => List.mem_append_right _ h) gL_law_X12_place rfl rfl rfl (by decide +kernel) ⟨Nat.le_of_ble_eq_true rfl, Nat.le_of_ble_eq_true rfl⟩ 0 rfl rfl rfl rfl (Nat.le_of_ble_eq_true rfl) ⟨Nat.le_of_ble_eq_true rfl, Nat.le_of_ble_eq_true rfl⟩ dL_law_316 (fun v ty' w' hp hk' => ?_)
  obtain ⟨rfl, rfl⟩ := hp
  show GW κ 4 82 21282 (wX q d iX0 aX0 ++ wM r g iM1 aM1 lM1) 319 [(3, .int 0), (2, .ref (r 0)), (1, .ref (q 0)), (0, .ref b)] [.int (-1), .int (-1)]
  refine g_icmp_eq (tgt := 1465) (a := (-1)) (b := (-1)) hk dL_law_319 (by decide) rfl rfl (fun _ => ?_) (fun z9 => absurd (show (-1) = (-1) from by decide) z9)
  exact tail _
set_option maxHeartbeats 4000000 in
set_option maxRecDepth 100000 in
theorem law_4 {κ : Cx} {l : Launch} {D : va_G} {zt : Nat × Nat × Nat} {q r : Nat → Nat} {d g : Nat → ClassId} {b L : Nat} {xs : Nat → Int32} (hk : GC κ l D zt code 4 RL wsL_law (tyX d ++ tyM g) room_1) (hX : GX κ b L xs) (hL6 : L = 6) (tail : ∀ ws, GW κ 4 82 21282 ws 1465 [(3, .int 0), (2, .ref (r 0)), (1, .ref (q 0)), (0, .ref b)] []) : GW κ 4 82 21282 (wX q d iX0 aX0 ++ wM r g iM1 aM1 lM1) 324 [(3, .int 0), (2, .ref (r 0)), (1, .ref (q 0)), (0, .ref b)] [] := by
  refine g_aload_n hk dL_law_324 rfl ?_
  refine g_callV hk (m234_X11_cause l D zt d q) (SP.pre _ _) (fun q h => List.mem_append_left _ h) gL_law_X11_cause rfl rfl rfl (by decide +kernel) ⟨Nat.le_of_ble_eq_true rfl, Nat.le_of_ble_eq_true rfl⟩ 0 rfl rfl rfl rfl (Nat.le_of_ble_eq_true rfl) ⟨Nat.le_of_ble_eq_true rfl, Nat.le_of_ble_eq_true rfl⟩ dL_law_325 (fun v ty' w' hp hk' => ?_)
  obtain ⟨rfl, rfl⟩ := hp
  show GW κ 4 82 21282 (wM r g iM1 aM1 lM1 ++ wX q d iX0 aX0) 328 [(3, .int 0), (2, .ref (r 0)), (1, .ref (q 0)), (0, .ref b)] [.int (-1)]
  refine g_aload_n hk dL_law_328 rfl ?_
  refine g_callV hk (m129_X12_cause l D zt g r) (SP.pre _ _) (fun q h => List.mem_append_right _ h) gL_law_X12_cause rfl rfl rfl (by decide +kernel) ⟨Nat.le_of_ble_eq_true rfl, Nat.le_of_ble_eq_true rfl⟩ 0 rfl rfl rfl rfl (Nat.le_of_ble_eq_true rfl) ⟨Nat.le_of_ble_eq_true rfl, Nat.le_of_ble_eq_true rfl⟩ dL_law_329 (fun v ty' w' hp hk' => ?_)
  obtain ⟨rfl, rfl⟩ := hp
  show GW κ 4 82 21282 (wX q d iX0 aX0 ++ wM r g iM1 aM1 lM1) 332 [(3, .int 0), (2, .ref (r 0)), (1, .ref (q 0)), (0, .ref b)] [.int (-1), .int (-1)]
  refine g_icmp_eq (tgt := 1465) (a := (-1)) (b := (-1)) hk dL_law_332 (by decide) rfl rfl (fun _ => ?_) (fun z9 => absurd (show (-1) = (-1) from by decide) z9)
  exact tail _
set_option maxHeartbeats 4000000 in
set_option maxRecDepth 100000 in
theorem law_5 {κ : Cx} {l : Launch} {D : va_G} {zt : Nat × Nat × Nat} {q r : Nat → Nat} {d g : Nat → ClassId} {b L : Nat} {xs : Nat → Int32} (hk : GC κ l D zt code 4 RL wsL_law (tyX d ++ tyM g) room_1) (hX : GX κ b L xs) (hL6 : L = 6) (tail : ∀ ws, GW κ 4 82 21282 ws 1465 [(3, .int 0), (2, .ref (r 0)), (1, .ref (q 0)), (0, .ref b)] []) : GW κ 4 82 21282 (wX q d iX0 aX0 ++ wM r g iM1 aM1 lM1) 337 [(3, .int 0), (2, .ref (r 0)), (1, .ref (q 0)), (0, .ref b)] [] := by
  refine g_aload_n hk dL_law_337 rfl ?_
  refine g_aload_n hk dL_law_338 rfl ?_
  refine g_iload_n hk dL_law_339 rfl ?_
  refine g_iconst (v := 1) hk dL_law_340 (by decide) ?_
  refine g_iadd hk dL_law_341 ?_
  refine g_norm (v := 1) (by decide) ?_
  refine g_sld (v := xs 1) hk hX (vp_in_iff.mpr ⟨by decide, by show (1 : Int) < (L : Int); omega⟩) rfl dL_law_342 ?_
  refine g_callV hk (m236_X11_at l D zt d q (xs 1)) (SP.pre _ _) (fun q h => List.mem_append_left _ h) gL_law_X11_at rfl rfl rfl (by decide +kernel) ⟨Nat.le_of_ble_eq_true rfl, Nat.le_of_ble_eq_true rfl⟩ 0 rfl rfl rfl rfl (Nat.le_of_ble_eq_true rfl) ⟨Nat.le_of_ble_eq_true rfl, Nat.le_of_ble_eq_true rfl⟩ dL_law_343 (fun v ty' w' hp hk' => ?_)
  obtain ⟨rfl, rfl⟩ := hp
  show GW κ 4 82 21282 (wM r g iM1 aM1 lM1 ++ wX q d iX0 aX0) 346 [(3, .int 0), (2, .ref (r 0)), (1, .ref (q 0)), (0, .ref b)] [.int (-1000)]
  refine g_aload_n hk dL_law_346 rfl ?_
  refine g_aload_n hk dL_law_347 rfl ?_
  refine g_iload_n hk dL_law_348 rfl ?_
  refine g_iconst (v := 1) hk dL_law_349 (by decide) ?_
  refine g_iadd hk dL_law_350 ?_
  refine g_norm (v := 1) (by decide) ?_
  refine g_sld (v := xs 1) hk hX (vp_in_iff.mpr ⟨by decide, by show (1 : Int) < (L : Int); omega⟩) rfl dL_law_351 ?_
  refine g_callV hk (m133_X12_at l D zt g r (xs 1)) (SP.pre _ _) (fun q h => List.mem_append_right _ h) gL_law_X12_at rfl rfl rfl (by decide +kernel) ⟨Nat.le_of_ble_eq_true rfl, Nat.le_of_ble_eq_true rfl⟩ 0 rfl rfl rfl rfl (Nat.le_of_ble_eq_true rfl) ⟨Nat.le_of_ble_eq_true rfl, Nat.le_of_ble_eq_true rfl⟩ dL_law_352 (fun v ty' w' hp hk' => ?_)
  obtain ⟨rfl, rfl⟩ := hp
  show GW κ 4 82 21282 (wX q d iX0 aX0 ++ wM r g iM1 aM1 lM1) 355 [(3, .int 0), (2, .ref (r 0)), (1, .ref (q 0)), (0, .ref b)] [.int (-1000), .int (-1000)]
  refine g_icmp_eq (tgt := 1465) (a := (-1000)) (b := (-1000)) hk dL_law_355 (by decide) rfl rfl (fun _ => ?_) (fun z9 => absurd (show (-1000) = (-1000) from by decide) z9)
  exact tail _
set_option maxHeartbeats 4000000 in
set_option maxRecDepth 100000 in
theorem law_6 {κ : Cx} {l : Launch} {D : va_G} {zt : Nat × Nat × Nat} {q r : Nat → Nat} {d g : Nat → ClassId} {b L : Nat} {xs : Nat → Int32} (hk : GC κ l D zt code 4 RL wsL_law (tyX d ++ tyM g) room_1) (hX : GX κ b L xs) (hL6 : L = 6) (tail : ∀ ws, GW κ 4 82 21282 ws 1465 [(3, .int 0), (2, .ref (r 0)), (1, .ref (q 0)), (0, .ref b)] []) : GW κ 4 82 21282 (wX q d iX0 aX0 ++ wM r g iM1 aM1 lM1) 360 [(3, .int 0), (2, .ref (r 0)), (1, .ref (q 0)), (0, .ref b)] [] := by
  refine g_aload_n hk dL_law_360 rfl ?_
  refine g_aload_n hk dL_law_361 rfl ?_
  refine g_iload_n hk dL_law_362 rfl ?_
  refine g_iconst (v := 1) hk dL_law_363 (by decide) ?_
  refine g_iadd hk dL_law_364 ?_
  refine g_norm (v := 1) (by decide) ?_
  refine g_sld (v := xs 1) hk hX (vp_in_iff.mpr ⟨by decide, by show (1 : Int) < (L : Int); omega⟩) rfl dL_law_365 ?_
  refine g_aload_n hk dL_law_366 rfl ?_
  refine g_iload_n hk dL_law_367 rfl ?_
  refine g_iconst (v := 2) hk dL_law_368 (by decide) ?_
  refine g_iadd hk dL_law_369 ?_
  refine g_norm (v := 2) (by decide) ?_
  refine g_sld (v := xs 2) hk hX (vp_in_iff.mpr ⟨by decide, by show (2 : Int) < (L : Int); omega⟩) rfl dL_law_370 ?_
  refine g_callV hk (m240_X11_query l D zt d q (xs 1) (xs 2)) (SP.pre _ _) (fun q h => List.mem_append_left _ h) gL_law_X11_query rfl rfl rfl (by decide +kernel) ⟨Nat.le_of_ble_eq_true rfl, Nat.le_of_ble_eq_true rfl⟩ 0 rfl rfl rfl rfl (Nat.le_of_ble_eq_true rfl) ⟨Nat.le_of_ble_eq_true rfl, Nat.le_of_ble_eq_true rfl⟩ dL_law_371 (fun v ty' w' hp hk' => ?_)
  obtain ⟨rfl, rfl⟩ := hp
  show GW κ 4 82 21282 (wM r g iM1 aM1 lM1 ++ wX q d iX0 aX0) 374 [(3, .int 0), (2, .ref (r 0)), (1, .ref (q 0)), (0, .ref b)] [.int (-1000)]
  refine g_aload_n hk dL_law_374 rfl ?_
  refine g_aload_n hk dL_law_375 rfl ?_
  refine g_iload_n hk dL_law_376 rfl ?_
  refine g_iconst (v := 1) hk dL_law_377 (by decide) ?_
  refine g_iadd hk dL_law_378 ?_
  refine g_norm (v := 1) (by decide) ?_
  refine g_sld (v := xs 1) hk hX (vp_in_iff.mpr ⟨by decide, by show (1 : Int) < (L : Int); omega⟩) rfl dL_law_379 ?_
  refine g_aload_n hk dL_law_380 rfl ?_
  refine g_iload_n hk dL_law_381 rfl ?_
  refine g_iconst (v := 2) hk dL_law_382 (by decide) ?_
  refine g_iadd hk dL_law_383 ?_
  refine g_norm (v := 2) (by decide) ?_
  refine g_sld (v := xs 2) hk hX (vp_in_iff.mpr ⟨by decide, by show (2 : Int) < (L : Int); omega⟩) rfl dL_law_384 ?_
  refine g_callV hk (m135_X12_query l D zt g r (xs 1) (xs 2)) (SP.pre _ _) (fun q h => List.mem_append_right _ h) gL_law_X12_query rfl rfl rfl (by decide +kernel) ⟨Nat.le_of_ble_eq_true rfl, Nat.le_of_ble_eq_true rfl⟩ 0 rfl rfl rfl rfl (Nat.le_of_ble_eq_true rfl) ⟨Nat.le_of_ble_eq_true rfl, Nat.le_of_ble_eq_true rfl⟩ dL_law_385 (fun v ty' w' hp hk' => ?_)
  obtain ⟨rfl, rfl⟩ := hp
  show GW κ 4 82 21282 (wX q d iX0 aX0 ++ wM r g iM1 aM1 lM1) 388 [(3, .int 0), (2, .ref (r 0)), (1, .ref (q 0)), (0, .ref b)] [.int (-1000), .int (-1000)]
  refine g_icmp_eq (tgt := 1465) (a := (-1000)) (b := (-1000)) hk dL_law_388 (by decide) rfl rfl (fun _ => ?_) (fun z9 => absurd (show (-1000) = (-1000) from by decide) z9)
  exact tail _
set_option maxHeartbeats 4000000 in
set_option maxRecDepth 100000 in
theorem law_7 {κ : Cx} {l : Launch} {D : va_G} {zt : Nat × Nat × Nat} {q r : Nat → Nat} {d g : Nat → ClassId} {b L : Nat} {xs : Nat → Int32} (hk : GC κ l D zt code 4 RL wsL_law (tyX d ++ tyM g) room_1) (hX : GX κ b L xs) (hL6 : L = 6) (tail : ∀ ws, GW κ 4 82 21282 ws 1465 [(3, .int 0), (2, .ref (r 0)), (1, .ref (q 0)), (0, .ref b)] []) : GW κ 4 82 21282 (wX q d iX0 aX0 ++ wM r g iM1 aM1 lM1) 393 [(3, .int 0), (2, .ref (r 0)), (1, .ref (q 0)), (0, .ref b)] [] := by
  refine g_aload_n hk dL_law_393 rfl ?_
  refine g_aload_n hk dL_law_394 rfl ?_
  refine g_iload_n hk dL_law_395 rfl ?_
  refine g_iconst (v := 1) hk dL_law_396 (by decide) ?_
  refine g_iadd hk dL_law_397 ?_
  refine g_norm (v := 1) (by decide) ?_
  refine g_sld (v := xs 1) hk hX (vp_in_iff.mpr ⟨by decide, by show (1 : Int) < (L : Int); omega⟩) rfl dL_law_398 ?_
  refine g_callV hk (m244_X11_push l D zt d q (xs 1)) (SP.pre _ _) (fun q h => List.mem_append_left _ h) gL_law_X11_push rfl rfl rfl (by decide +kernel) ⟨Nat.le_of_ble_eq_true rfl, Nat.le_of_ble_eq_true rfl⟩ 0 rfl rfl rfl rfl (Nat.le_of_ble_eq_true rfl) ⟨Nat.le_of_ble_eq_true rfl, Nat.le_of_ble_eq_true rfl⟩ dL_law_399 (fun v ty' w' hp hk' => ?_)
  rcases hp with ⟨c872, rfl, rfl⟩ | ⟨c873, c874, rfl, rfl⟩ | ⟨c875, c876, rfl, rfl⟩
  · show GW κ 4 82 21282 (wM r g iM1 aM1 lM1 ++ wX q d iX0 aX0) 402 [(3, .int 0), (2, .ref (r 0)), (1, .ref (q 0)), (0, .ref b)] [.int (-1)]
    refine g_aload_n hk dL_law_402 rfl ?_
    refine g_aload_n hk dL_law_403 rfl ?_
    refine g_iload_n hk dL_law_404 rfl ?_
    refine g_iconst (v := 1) hk dL_law_405 (by decide) ?_
    refine g_iadd hk dL_law_406 ?_
    refine g_norm (v := 1) (by decide) ?_
    refine g_sld (v := xs 1) hk hX (vp_in_iff.mpr ⟨by decide, by show (1 : Int) < (L : Int); omega⟩) rfl dL_law_407 ?_
    refine g_callV hk (m141_X12_push l D zt g r (xs 1)) (SP.pre _ _) (fun q h => List.mem_append_right _ h) gL_law_X12_push rfl rfl rfl (by decide +kernel) ⟨Nat.le_of_ble_eq_true rfl, Nat.le_of_ble_eq_true rfl⟩ 0 rfl rfl rfl rfl (Nat.le_of_ble_eq_true rfl) ⟨Nat.le_of_ble_eq_true rfl, Nat.le_of_ble_eq_true rfl⟩ dL_law_408 (fun v ty' w' hp hk' => ?_)
    rcases hp with ⟨c877, rfl, rfl⟩ | ⟨c878, c879, rfl, rfl⟩ | ⟨y880, c881, c882, rfl, rfl⟩
    · show GW κ 4 82 21282 (wX q d iX0 aX0 ++ wM r g iM1 aM1 lM1) 411 [(3, .int 0), (2, .ref (r 0)), (1, .ref (q 0)), (0, .ref b)] [.int (-1), .int (-1)]
      refine g_icmp_eq (tgt := 1465) (a := (-1)) (b := (-1)) hk dL_law_411 (by decide) rfl rfl (fun _ => ?_) (fun z9 => absurd (show (-1) = (-1) from by decide) z9)
      exact tail _
    · show GW κ 4 82 21282 (wX q d iX0 aX0 ++ wM r g iM1 aM1 lM1) 411 [(3, .int 0), (2, .ref (r 0)), (1, .ref (q 0)), (0, .ref b)] [.int (-1), .int (-1)]
      exfalso; omega
    · show GW κ 4 82 21282 (wX q d iX0 aX0 ++ wM r g (upd iM1 22 1) (up2 (up2 (up3 (up3 (up2 aM1 18 (cp (aM1 17) (aM1 18) 165)) 18 1 (xs 1)) 18 0 1) 22 y880) 17 (cp ((up2 (up3 (up3 (up2 aM1 18 (cp (aM1 17) (aM1 18) 165)) 18 1 (xs 1)) 18 0 1) 22 y880) 18) ((up2 (up3 (up3 (up2 aM1 18 (cp (aM1 17) (aM1 18) 165)) 18 1 (xs 1)) 18 0 1) 22 y880) 17) 165)) lM1) 411 [(3, .int 0), (2, .ref (r 0)), (1, .ref (q 0)), (0, .ref b)] [.int 1, .int (-1)]
      exfalso; omega
  · show GW κ 4 82 21282 (wM r g iM1 aM1 lM1 ++ wX q d (upd (upd (upd iX0 18 1) 20 1) 21 1) (up3 aX0 7 0 (xs 1))) 402 [(3, .int 0), (2, .ref (r 0)), (1, .ref (q 0)), (0, .ref b)] [.int 1]
    refine g_aload_n hk dL_law_402 rfl ?_
    refine g_aload_n hk dL_law_403 rfl ?_
    refine g_iload_n hk dL_law_404 rfl ?_
    refine g_iconst (v := 1) hk dL_law_405 (by decide) ?_
    refine g_iadd hk dL_law_406 ?_
    refine g_norm (v := 1) (by decide) ?_
    refine g_sld (v := xs 1) hk hX (vp_in_iff.mpr ⟨by decide, by show (1 : Int) < (L : Int); omega⟩) rfl dL_law_407 ?_
    refine g_callV hk (m141_X12_push l D zt g r (xs 1)) (SP.pre _ _) (fun q h => List.mem_append_right _ h) gL_law_X12_push rfl rfl rfl (by decide +kernel) ⟨Nat.le_of_ble_eq_true rfl, Nat.le_of_ble_eq_true rfl⟩ 0 rfl rfl rfl rfl (Nat.le_of_ble_eq_true rfl) ⟨Nat.le_of_ble_eq_true rfl, Nat.le_of_ble_eq_true rfl⟩ dL_law_408 (fun v ty' w' hp hk' => ?_)
    rcases hp with ⟨c883, rfl, rfl⟩ | ⟨c884, c885, rfl, rfl⟩ | ⟨y886, c887, c888, rfl, rfl⟩
    · show GW κ 4 82 21282 (wX q d (upd (upd (upd iX0 18 1) 20 1) 21 1) (up3 aX0 7 0 (xs 1)) ++ wM r g iM1 aM1 lM1) 411 [(3, .int 0), (2, .ref (r 0)), (1, .ref (q 0)), (0, .ref b)] [.int (-1), .int 1]
      exfalso; omega
    · show GW κ 4 82 21282 (wX q d (upd (upd (upd iX0 18 1) 20 1) 21 1) (up3 aX0 7 0 (xs 1)) ++ wM r g iM1 aM1 lM1) 411 [(3, .int 0), (2, .ref (r 0)), (1, .ref (q 0)), (0, .ref b)] [.int (-1), .int 1]
      exfalso; omega
    · show GW κ 4 82 21282 (wX q d (upd (upd (upd iX0 18 1) 20 1) 21 1) (up3 aX0 7 0 (xs 1)) ++ wM r g (upd iM1 22 1) (up2 (up2 (up3 (up3 (up2 aM1 18 (cp (aM1 17) (aM1 18) 165)) 18 1 (xs 1)) 18 0 1) 22 y886) 17 (cp ((up2 (up3 (up3 (up2 aM1 18 (cp (aM1 17) (aM1 18) 165)) 18 1 (xs 1)) 18 0 1) 22 y886) 18) ((up2 (up3 (up3 (up2 aM1 18 (cp (aM1 17) (aM1 18) 165)) 18 1 (xs 1)) 18 0 1) 22 y886) 17) 165)) lM1) 411 [(3, .int 0), (2, .ref (r 0)), (1, .ref (q 0)), (0, .ref b)] [.int 1, .int 1]
      refine g_icmp_eq (tgt := 1465) (a := 1) (b := 1) hk dL_law_411 (by decide) rfl rfl (fun _ => ?_) (fun z9 => absurd (show 1 = 1 from by decide) z9)
      exact tail _
  · show GW κ 4 82 21282 (wM r g iM1 aM1 lM1 ++ wX q d iX0 aX0) 402 [(3, .int 0), (2, .ref (r 0)), (1, .ref (q 0)), (0, .ref b)] [.int (-1)]
    refine g_aload_n hk dL_law_402 rfl ?_
    refine g_aload_n hk dL_law_403 rfl ?_
    refine g_iload_n hk dL_law_404 rfl ?_
    refine g_iconst (v := 1) hk dL_law_405 (by decide) ?_
    refine g_iadd hk dL_law_406 ?_
    refine g_norm (v := 1) (by decide) ?_
    refine g_sld (v := xs 1) hk hX (vp_in_iff.mpr ⟨by decide, by show (1 : Int) < (L : Int); omega⟩) rfl dL_law_407 ?_
    refine g_callV hk (m141_X12_push l D zt g r (xs 1)) (SP.pre _ _) (fun q h => List.mem_append_right _ h) gL_law_X12_push rfl rfl rfl (by decide +kernel) ⟨Nat.le_of_ble_eq_true rfl, Nat.le_of_ble_eq_true rfl⟩ 0 rfl rfl rfl rfl (Nat.le_of_ble_eq_true rfl) ⟨Nat.le_of_ble_eq_true rfl, Nat.le_of_ble_eq_true rfl⟩ dL_law_408 (fun v ty' w' hp hk' => ?_)
    rcases hp with ⟨c889, rfl, rfl⟩ | ⟨c890, c891, rfl, rfl⟩ | ⟨y892, c893, c894, rfl, rfl⟩
    · show GW κ 4 82 21282 (wX q d iX0 aX0 ++ wM r g iM1 aM1 lM1) 411 [(3, .int 0), (2, .ref (r 0)), (1, .ref (q 0)), (0, .ref b)] [.int (-1), .int (-1)]
      exfalso; omega
    · show GW κ 4 82 21282 (wX q d iX0 aX0 ++ wM r g iM1 aM1 lM1) 411 [(3, .int 0), (2, .ref (r 0)), (1, .ref (q 0)), (0, .ref b)] [.int (-1), .int (-1)]
      refine g_icmp_eq (tgt := 1465) (a := (-1)) (b := (-1)) hk dL_law_411 (by decide) rfl rfl (fun _ => ?_) (fun z9 => absurd (show (-1) = (-1) from by decide) z9)
      exact tail _
    · show GW κ 4 82 21282 (wX q d iX0 aX0 ++ wM r g (upd iM1 22 1) (up2 (up2 (up3 (up3 (up2 aM1 18 (cp (aM1 17) (aM1 18) 165)) 18 1 (xs 1)) 18 0 1) 22 y892) 17 (cp ((up2 (up3 (up3 (up2 aM1 18 (cp (aM1 17) (aM1 18) 165)) 18 1 (xs 1)) 18 0 1) 22 y892) 18) ((up2 (up3 (up3 (up2 aM1 18 (cp (aM1 17) (aM1 18) 165)) 18 1 (xs 1)) 18 0 1) 22 y892) 17) 165)) lM1) 411 [(3, .int 0), (2, .ref (r 0)), (1, .ref (q 0)), (0, .ref b)] [.int 1, .int (-1)]
      exfalso; omega
set_option maxHeartbeats 4000000 in
set_option maxRecDepth 100000 in
theorem law_8 {κ : Cx} {l : Launch} {D : va_G} {zt : Nat × Nat × Nat} {q r : Nat → Nat} {d g : Nat → ClassId} {b L : Nat} {xs : Nat → Int32} (hk : GC κ l D zt code 4 RL wsL_law (tyX d ++ tyM g) room_1) (hX : GX κ b L xs) (hL6 : L = 6) (tail : ∀ ws, GW κ 4 82 21282 ws 1465 [(3, .int 0), (2, .ref (r 0)), (1, .ref (q 0)), (0, .ref b)] []) : GW κ 4 82 21282 (wX q d iX0 aX0 ++ wM r g iM1 aM1 lM1) 416 [(3, .int 0), (2, .ref (r 0)), (1, .ref (q 0)), (0, .ref b)] [] := by
  refine g_aload_n hk dL_law_416 rfl ?_
  refine g_callV hk (m248_X11_gap l D zt d q) (SP.pre _ _) (fun q h => List.mem_append_left _ h) gL_law_X11_gap rfl rfl rfl (by decide +kernel) ⟨Nat.le_of_ble_eq_true rfl, Nat.le_of_ble_eq_true rfl⟩ 0 rfl rfl rfl rfl (Nat.le_of_ble_eq_true rfl) ⟨Nat.le_of_ble_eq_true rfl, Nat.le_of_ble_eq_true rfl⟩ dL_law_417 (fun v ty' w' hp hk' => ?_)
  obtain ⟨rfl, rfl⟩ := hp
  show GW κ 4 82 21282 (wM r g iM1 aM1 lM1 ++ wX q d (upd (upd (upd iX0 18 1) 20 1) 21 1) (up3 aX0 7 0 (-1000))) 420 [(3, .int 0), (2, .ref (r 0)), (1, .ref (q 0)), (0, .ref b)] [.int 1]
  refine g_aload_n hk dL_law_420 rfl ?_
  refine g_callV hk (m145_X12_gap l D zt g r) (SP.pre _ _) (fun q h => List.mem_append_right _ h) gL_law_X12_gap rfl rfl rfl (by decide +kernel) ⟨Nat.le_of_ble_eq_true rfl, Nat.le_of_ble_eq_true rfl⟩ 0 rfl rfl rfl rfl (Nat.le_of_ble_eq_true rfl) ⟨Nat.le_of_ble_eq_true rfl, Nat.le_of_ble_eq_true rfl⟩ dL_law_421 (fun v ty' w' hp hk' => ?_)
  obtain ⟨y895, rfl, rfl⟩ := hp
  show GW κ 4 82 21282 (wX q d (upd (upd (upd iX0 18 1) 20 1) 21 1) (up3 aX0 7 0 (-1000)) ++ wM r g (upd iM1 22 1) (up2 (up2 (up3 (up3 (up2 aM1 18 (cp (aM1 17) (aM1 18) 165)) 18 1 100000) 18 0 1) 22 y895) 17 (cp ((up2 (up3 (up3 (up2 aM1 18 (cp (aM1 17) (aM1 18) 165)) 18 1 100000) 18 0 1) 22 y895) 18) ((up2 (up3 (up3 (up2 aM1 18 (cp (aM1 17) (aM1 18) 165)) 18 1 100000) 18 0 1) 22 y895) 17) 165)) lM1) 424 [(3, .int 0), (2, .ref (r 0)), (1, .ref (q 0)), (0, .ref b)] [.int 1, .int 1]
  refine g_icmp_eq (tgt := 1465) (a := 1) (b := 1) hk dL_law_424 (by decide) rfl rfl (fun _ => ?_) (fun z9 => absurd (show 1 = 1 from by decide) z9)
  exact tail _
set_option maxHeartbeats 4000000 in
set_option maxRecDepth 100000 in
theorem law_9 {κ : Cx} {l : Launch} {D : va_G} {zt : Nat × Nat × Nat} {q r : Nat → Nat} {d g : Nat → ClassId} {b L : Nat} {xs : Nat → Int32} (hk : GC κ l D zt code 4 RL wsL_law (tyX d ++ tyM g) room_1) (hX : GX κ b L xs) (hL6 : L = 6) (tail : ∀ ws, GW κ 4 82 21282 ws 1465 [(3, .int 0), (2, .ref (r 0)), (1, .ref (q 0)), (0, .ref b)] []) : GW κ 4 82 21282 (wX q d iX0 aX0 ++ wM r g iM1 aM1 lM1) 429 [(3, .int 0), (2, .ref (r 0)), (1, .ref (q 0)), (0, .ref b)] [] := by
  refine g_aload_n hk dL_law_429 rfl ?_
  refine g_aload_n hk dL_law_430 rfl ?_
  refine g_iload_n hk dL_law_431 rfl ?_
  refine g_iconst (v := 1) hk dL_law_432 (by decide) ?_
  refine g_iadd hk dL_law_433 ?_
  refine g_norm (v := 1) (by decide) ?_
  refine g_sld (v := xs 1) hk hX (vp_in_iff.mpr ⟨by decide, by show (1 : Int) < (L : Int); omega⟩) rfl dL_law_434 ?_
  refine g_callV hk (m249_X11_mend l D zt d q (xs 1)) (SP.pre _ _) (fun q h => List.mem_append_left _ h) gL_law_X11_mend rfl rfl rfl (by decide +kernel) ⟨Nat.le_of_ble_eq_true rfl, Nat.le_of_ble_eq_true rfl⟩ 0 rfl rfl rfl rfl (Nat.le_of_ble_eq_true rfl) ⟨Nat.le_of_ble_eq_true rfl, Nat.le_of_ble_eq_true rfl⟩ dL_law_435 (fun v ty' w' hp hk' => ?_)
  obtain ⟨rfl, rfl⟩ := hp
  show GW κ 4 82 21282 (wM r g iM1 aM1 lM1 ++ wX q d iX0 aX0) 438 [(3, .int 0), (2, .ref (r 0)), (1, .ref (q 0)), (0, .ref b)] [.int (-1000)]
  refine g_aload_n hk dL_law_438 rfl ?_
  refine g_aload_n hk dL_law_439 rfl ?_
  refine g_iload_n hk dL_law_440 rfl ?_
  refine g_iconst (v := 1) hk dL_law_441 (by decide) ?_
  refine g_iadd hk dL_law_442 ?_
  refine g_norm (v := 1) (by decide) ?_
  refine g_sld (v := xs 1) hk hX (vp_in_iff.mpr ⟨by decide, by show (1 : Int) < (L : Int); omega⟩) rfl dL_law_443 ?_
  refine g_callV hk (m146_X12_mend l D zt g r (xs 1)) (SP.pre _ _) (fun q h => List.mem_append_right _ h) gL_law_X12_mend rfl rfl rfl (by decide +kernel) ⟨Nat.le_of_ble_eq_true rfl, Nat.le_of_ble_eq_true rfl⟩ 0 rfl rfl rfl rfl (Nat.le_of_ble_eq_true rfl) ⟨Nat.le_of_ble_eq_true rfl, Nat.le_of_ble_eq_true rfl⟩ dL_law_444 (fun v ty' w' hp hk' => ?_)
  obtain ⟨rfl, rfl⟩ := hp
  show GW κ 4 82 21282 (wX q d iX0 aX0 ++ wM r g iM1 aM1 lM1) 447 [(3, .int 0), (2, .ref (r 0)), (1, .ref (q 0)), (0, .ref b)] [.int (-1000), .int (-1000)]
  refine g_icmp_eq (tgt := 1465) (a := (-1000)) (b := (-1000)) hk dL_law_447 (by decide) rfl rfl (fun _ => ?_) (fun z9 => absurd (show (-1000) = (-1000) from by decide) z9)
  exact tail _
set_option maxHeartbeats 4000000 in
set_option maxRecDepth 100000 in
theorem law_10 {κ : Cx} {l : Launch} {D : va_G} {zt : Nat × Nat × Nat} {q r : Nat → Nat} {d g : Nat → ClassId} {b L : Nat} {xs : Nat → Int32} (hk : GC κ l D zt code 4 RL wsL_law (tyX d ++ tyM g) room_1) (hX : GX κ b L xs) (hL6 : L = 6) (tail : ∀ ws, GW κ 4 82 21282 ws 1465 [(3, .int 0), (2, .ref (r 0)), (1, .ref (q 0)), (0, .ref b)] []) : GW κ 4 82 21282 (wX q d iX0 aX0 ++ wM r g iM1 aM1 lM1) 452 [(3, .int 0), (2, .ref (r 0)), (1, .ref (q 0)), (0, .ref b)] [] := by
  refine g_aload_n hk dL_law_452 rfl ?_
  refine g_aload_n hk dL_law_453 rfl ?_
  refine g_iload_n hk dL_law_454 rfl ?_
  refine g_iconst (v := 1) hk dL_law_455 (by decide) ?_
  refine g_iadd hk dL_law_456 ?_
  refine g_norm (v := 1) (by decide) ?_
  refine g_sld (v := xs 1) hk hX (vp_in_iff.mpr ⟨by decide, by show (1 : Int) < (L : Int); omega⟩) rfl dL_law_457 ?_
  refine g_callV hk (m251_X11_drop l D zt d q (xs 1)) (SP.pre _ _) (fun q h => List.mem_append_left _ h) gL_law_X11_drop rfl rfl rfl (by decide +kernel) ⟨Nat.le_of_ble_eq_true rfl, Nat.le_of_ble_eq_true rfl⟩ 0 rfl rfl rfl rfl (Nat.le_of_ble_eq_true rfl) ⟨Nat.le_of_ble_eq_true rfl, Nat.le_of_ble_eq_true rfl⟩ dL_law_458 (fun v ty' w' hp hk' => ?_)
  obtain ⟨rfl, rfl⟩ := hp
  show GW κ 4 82 21282 (wM r g iM1 aM1 lM1 ++ wX q d iX0 aX0) 461 [(3, .int 0), (2, .ref (r 0)), (1, .ref (q 0)), (0, .ref b)] [.int 0]
  refine g_aload_n hk dL_law_461 rfl ?_
  refine g_aload_n hk dL_law_462 rfl ?_
  refine g_iload_n hk dL_law_463 rfl ?_
  refine g_iconst (v := 1) hk dL_law_464 (by decide) ?_
  refine g_iadd hk dL_law_465 ?_
  refine g_norm (v := 1) (by decide) ?_
  refine g_sld (v := xs 1) hk hX (vp_in_iff.mpr ⟨by decide, by show (1 : Int) < (L : Int); omega⟩) rfl dL_law_466 ?_
  refine g_callV hk (m148_X12_drop l D zt g r (xs 1)) (SP.pre _ _) (fun q h => List.mem_append_right _ h) gL_law_X12_drop rfl rfl rfl (by decide +kernel) ⟨Nat.le_of_ble_eq_true rfl, Nat.le_of_ble_eq_true rfl⟩ 0 rfl rfl rfl rfl (Nat.le_of_ble_eq_true rfl) ⟨Nat.le_of_ble_eq_true rfl, Nat.le_of_ble_eq_true rfl⟩ dL_law_467 (fun v ty' w' hp hk' => ?_)
  obtain ⟨rfl, rfl⟩ := hp
  show GW κ 4 82 21282 (wX q d iX0 aX0 ++ wM r g iM1 aM1 lM1) 470 [(3, .int 0), (2, .ref (r 0)), (1, .ref (q 0)), (0, .ref b)] [.int 0, .int 0]
  refine g_icmp_eq (tgt := 1465) (a := 0) (b := 0) hk dL_law_470 (by decide) rfl rfl (fun _ => ?_) (fun z9 => absurd (show 0 = 0 from by decide) z9)
  exact tail _
set_option maxHeartbeats 4000000 in
set_option maxRecDepth 100000 in
theorem law_11 {κ : Cx} {l : Launch} {D : va_G} {zt : Nat × Nat × Nat} {q r : Nat → Nat} {d g : Nat → ClassId} {b L : Nat} {xs : Nat → Int32} (hk : GC κ l D zt code 4 RL wsL_law (tyX d ++ tyM g) room_1) (hX : GX κ b L xs) (hL6 : L = 6) (tail : ∀ ws, GW κ 4 82 21282 ws 1465 [(3, .int 0), (2, .ref (r 0)), (1, .ref (q 0)), (0, .ref b)] []) : GW κ 4 82 21282 (wX q d iX0 aX0 ++ wM r g iM1 aM1 lM1) 475 [(3, .int 0), (2, .ref (r 0)), (1, .ref (q 0)), (0, .ref b)] [] := by
  refine g_aload_n hk dL_law_475 rfl ?_
  refine g_aload_n hk dL_law_476 rfl ?_
  refine g_iload_n hk dL_law_477 rfl ?_
  refine g_iconst (v := 1) hk dL_law_478 (by decide) ?_
  refine g_iadd hk dL_law_479 ?_
  refine g_norm (v := 1) (by decide) ?_
  refine g_sld (v := xs 1) hk hX (vp_in_iff.mpr ⟨by decide, by show (1 : Int) < (L : Int); omega⟩) rfl dL_law_480 ?_
  refine g_aload_n hk dL_law_481 rfl ?_
  refine g_iload_n hk dL_law_482 rfl ?_
  refine g_iconst (v := 2) hk dL_law_483 (by decide) ?_
  refine g_iadd hk dL_law_484 ?_
  refine g_norm (v := 2) (by decide) ?_
  refine g_sld (v := xs 2) hk hX (vp_in_iff.mpr ⟨by decide, by show (2 : Int) < (L : Int); omega⟩) rfl dL_law_485 ?_
  refine g_callV hk (m267_X11_set l D zt d q (xs 1) (xs 2)) (SP.pre _ _) (fun q h => List.mem_append_left _ h) gL_law_X11_set rfl rfl rfl (by decide +kernel) ⟨Nat.le_of_ble_eq_true rfl, Nat.le_of_ble_eq_true rfl⟩ 0 rfl rfl rfl rfl (Nat.le_of_ble_eq_true rfl) ⟨Nat.le_of_ble_eq_true rfl, Nat.le_of_ble_eq_true rfl⟩ dL_law_486 (fun v ty' w' hp hk' => ?_)
  rcases hp with ⟨c896, rfl, rfl⟩ | ⟨c897, c898, rfl, rfl⟩ | ⟨c899, c900, c901, c902, c903, rfl, rfl⟩ | ⟨c904, c905, c906, c907, c908, c909, rfl, rfl⟩ | ⟨c910, c911, c912, c913, c914, c915, c916, rfl, rfl⟩ | ⟨c917, c918, c919, c920, c921, c922, c923, rfl, rfl⟩ | ⟨c924, c925, c926, c927, c928, c929, rfl, rfl⟩ | ⟨c930, c931, c932, c933, c934, c935, c936, rfl, rfl⟩ | ⟨c937, c938, c939, c940, c941, c942, c943, c944, rfl, rfl⟩ | ⟨c945, c946, c947, c948, c949, c950, c951, c952, rfl, rfl⟩ | ⟨c953, c954, c955, c956, c957, c958, c959, rfl, rfl⟩ | ⟨c960, c961, c962, c963, c964, c965, c966, c967, rfl, rfl⟩ | ⟨c968, c969, c970, c971, c972, c973, c974, c975, c976, rfl, rfl⟩ | ⟨c977, c978, c979, c980, c981, c982, c983, c984, c985, rfl, rfl⟩ | ⟨c986, c987, c988, c989, c990, c991, c992, c993, rfl, rfl⟩ | ⟨c994, c995, c996, c997, c998, c999, c1000, c1001, c1002, rfl, rfl⟩ | ⟨c1003, c1004, c1005, c1006, c1007, c1008, c1009, c1010, c1011, c1012, rfl, rfl⟩ | ⟨c1013, c1014, c1015, c1016, c1017, c1018, c1019, c1020, c1021, c1022, rfl, rfl⟩
  · show GW κ 4 82 21282 (wM r g iM1 aM1 lM1 ++ wX q d iX0 aX0) 489 [(3, .int 0), (2, .ref (r 0)), (1, .ref (q 0)), (0, .ref b)] [.int 0]
    refine g_aload_n hk dL_law_489 rfl ?_
    refine g_aload_n hk dL_law_490 rfl ?_
    refine g_iload_n hk dL_law_491 rfl ?_
    refine g_iconst (v := 1) hk dL_law_492 (by decide) ?_
    refine g_iadd hk dL_law_493 ?_
    refine g_norm (v := 1) (by decide) ?_
    refine g_sld (v := xs 1) hk hX (vp_in_iff.mpr ⟨by decide, by show (1 : Int) < (L : Int); omega⟩) rfl dL_law_494 ?_
    refine g_aload_n hk dL_law_495 rfl ?_
    refine g_iload_n hk dL_law_496 rfl ?_
    refine g_iconst (v := 2) hk dL_law_497 (by decide) ?_
    refine g_iadd hk dL_law_498 ?_
    refine g_norm (v := 2) (by decide) ?_
    refine g_sld (v := xs 2) hk hX (vp_in_iff.mpr ⟨by decide, by show (2 : Int) < (L : Int); omega⟩) rfl dL_law_499 ?_
    refine g_callV hk (m161_X12_set l D zt g r (xs 1) (xs 2)) (SP.pre _ _) (fun q h => List.mem_append_right _ h) gL_law_X12_set rfl rfl rfl (by decide +kernel) ⟨Nat.le_of_ble_eq_true rfl, Nat.le_of_ble_eq_true rfl⟩ 0 rfl rfl rfl rfl (Nat.le_of_ble_eq_true rfl) ⟨Nat.le_of_ble_eq_true rfl, Nat.le_of_ble_eq_true rfl⟩ dL_law_500 (fun v ty' w' hp hk' => ?_)
    rcases hp with ⟨c1023, rfl, rfl⟩ | ⟨c1024, c1025, rfl, rfl⟩ | ⟨c1026, c1027, c1028, c1029, c1030, rfl, rfl⟩ | ⟨c1031, c1032, c1033, c1034, c1035, c1036, rfl, rfl⟩ | ⟨y1037, c1038, c1039, c1040, c1041, c1042, c1043, rfl, rfl⟩ | ⟨c1044, c1045, c1046, c1047, rfl, rfl⟩ | ⟨c1048, c1049, c1050, c1051, c1052, c1053, rfl, rfl⟩ | ⟨c1054, c1055, c1056, c1057, c1058, c1059, c1060, rfl, rfl⟩ | ⟨y1061, c1062, c1063, c1064, c1065, c1066, c1067, c1068, rfl, rfl⟩ | ⟨c1069, c1070, c1071, c1072, c1073, rfl, rfl⟩ | ⟨c1074, c1075, c1076, c1077, c1078, c1079, c1080, rfl, rfl⟩ | ⟨c1081, c1082, c1083, c1084, c1085, c1086, c1087, c1088, rfl, rfl⟩ | ⟨y1089, c1090, c1091, c1092, c1093, c1094, c1095, c1096, c1097, rfl, rfl⟩ | ⟨c1098, c1099, c1100, c1101, c1102, c1103, rfl, rfl⟩ | ⟨c1104, c1105, c1106, c1107, c1108, c1109, c1110, c1111, rfl, rfl⟩ | ⟨c1112, c1113, c1114, c1115, c1116, c1117, c1118, c1119, c1120, rfl, rfl⟩ | ⟨y1121, c1122, c1123, c1124, c1125, c1126, c1127, c1128, c1129, c1130, rfl, rfl⟩ | ⟨c1131, c1132, c1133, c1134, c1135, c1136, c1137, rfl, rfl⟩
    · show GW κ 4 82 21282 (wX q d iX0 aX0 ++ wM r g iM1 aM1 lM1) 503 [(3, .int 0), (2, .ref (r 0)), (1, .ref (q 0)), (0, .ref b)] [.int 0, .int 0]
      refine g_icmp_eq (tgt := 1465) (a := 0) (b := 0) hk dL_law_503 (by decide) rfl rfl (fun _ => ?_) (fun z9 => absurd (show 0 = 0 from by decide) z9)
      exact tail _
    · show GW κ 4 82 21282 (wX q d iX0 aX0 ++ wM r g iM1 aM1 lM1) 503 [(3, .int 0), (2, .ref (r 0)), (1, .ref (q 0)), (0, .ref b)] [.int 0, .int 0]
      exfalso; omega
    · show GW κ 4 82 21282 (wX q d iX0 aX0 ++ wM r g iM1 aM1 lM1) 503 [(3, .int 0), (2, .ref (r 0)), (1, .ref (q 0)), (0, .ref b)] [.int 0, .int 0]
      exfalso; omega
    · show GW κ 4 82 21282 (wX q d iX0 aX0 ++ wM r g iM1 aM1 lM1) 503 [(3, .int 0), (2, .ref (r 0)), (1, .ref (q 0)), (0, .ref b)] [.int 0, .int 0]
      exfalso; omega
    · show GW κ 4 82 21282 (wX q d iX0 aX0 ++ wM r g (upd iM1 22 1) (up2 (up2 (up3 (up2 aM1 18 (cp (aM1 17) (aM1 18) 165)) 18 161 (xs 2)) 22 y1037) 17 (cp ((up2 (up3 (up2 aM1 18 (cp (aM1 17) (aM1 18) 165)) 18 161 (xs 2)) 22 y1037) 18) ((up2 (up3 (up2 aM1 18 (cp (aM1 17) (aM1 18) 165)) 18 161 (xs 2)) 22 y1037) 17) 165)) lM1) 503 [(3, .int 0), (2, .ref (r 0)), (1, .ref (q 0)), (0, .ref b)] [.int 1, .int 0]
      exfalso; omega
    · show GW κ 4 82 21282 (wX q d iX0 aX0 ++ wM r g iM1 aM1 lM1) 503 [(3, .int 0), (2, .ref (r 0)), (1, .ref (q 0)), (0, .ref b)] [.int 0, .int 0]
      exfalso; omega
    · show GW κ 4 82 21282 (wX q d iX0 aX0 ++ wM r g iM1 aM1 lM1) 503 [(3, .int 0), (2, .ref (r 0)), (1, .ref (q 0)), (0, .ref b)] [.int 0, .int 0]
      exfalso; omega
    · show GW κ 4 82 21282 (wX q d iX0 aX0 ++ wM r g iM1 aM1 lM1) 503 [(3, .int 0), (2, .ref (r 0)), (1, .ref (q 0)), (0, .ref b)] [.int 0, .int 0]
      exfalso; omega
    · show GW κ 4 82 21282 (wX q d iX0 aX0 ++ wM r g (upd iM1 22 1) (up2 (up2 (up3 (up2 aM1 18 (cp (aM1 17) (aM1 18) 165)) 18 162 (xs 2)) 22 y1061) 17 (cp ((up2 (up3 (up2 aM1 18 (cp (aM1 17) (aM1 18) 165)) 18 162 (xs 2)) 22 y1061) 18) ((up2 (up3 (up2 aM1 18 (cp (aM1 17) (aM1 18) 165)) 18 162 (xs 2)) 22 y1061) 17) 165)) lM1) 503 [(3, .int 0), (2, .ref (r 0)), (1, .ref (q 0)), (0, .ref b)] [.int 1, .int 0]
      exfalso; omega
    · show GW κ 4 82 21282 (wX q d iX0 aX0 ++ wM r g iM1 aM1 lM1) 503 [(3, .int 0), (2, .ref (r 0)), (1, .ref (q 0)), (0, .ref b)] [.int 0, .int 0]
      exfalso; omega
    · show GW κ 4 82 21282 (wX q d iX0 aX0 ++ wM r g iM1 aM1 lM1) 503 [(3, .int 0), (2, .ref (r 0)), (1, .ref (q 0)), (0, .ref b)] [.int 0, .int 0]
      exfalso; omega
    · show GW κ 4 82 21282 (wX q d iX0 aX0 ++ wM r g iM1 aM1 lM1) 503 [(3, .int 0), (2, .ref (r 0)), (1, .ref (q 0)), (0, .ref b)] [.int 0, .int 0]
      exfalso; omega
    · show GW κ 4 82 21282 (wX q d iX0 aX0 ++ wM r g (upd iM1 22 1) (up2 (up2 (up3 (up2 aM1 18 (cp (aM1 17) (aM1 18) 165)) 18 163 (xs 2)) 22 y1089) 17 (cp ((up2 (up3 (up2 aM1 18 (cp (aM1 17) (aM1 18) 165)) 18 163 (xs 2)) 22 y1089) 18) ((up2 (up3 (up2 aM1 18 (cp (aM1 17) (aM1 18) 165)) 18 163 (xs 2)) 22 y1089) 17) 165)) lM1) 503 [(3, .int 0), (2, .ref (r 0)), (1, .ref (q 0)), (0, .ref b)] [.int 1, .int 0]
      exfalso; omega
    · show GW κ 4 82 21282 (wX q d iX0 aX0 ++ wM r g iM1 aM1 lM1) 503 [(3, .int 0), (2, .ref (r 0)), (1, .ref (q 0)), (0, .ref b)] [.int 0, .int 0]
      exfalso; omega
    · show GW κ 4 82 21282 (wX q d iX0 aX0 ++ wM r g iM1 aM1 lM1) 503 [(3, .int 0), (2, .ref (r 0)), (1, .ref (q 0)), (0, .ref b)] [.int 0, .int 0]
      exfalso; omega
    · show GW κ 4 82 21282 (wX q d iX0 aX0 ++ wM r g iM1 aM1 lM1) 503 [(3, .int 0), (2, .ref (r 0)), (1, .ref (q 0)), (0, .ref b)] [.int 0, .int 0]
      exfalso; omega
    · show GW κ 4 82 21282 (wX q d iX0 aX0 ++ wM r g (upd iM1 22 1) (up2 (up2 (up3 (up2 aM1 18 (cp (aM1 17) (aM1 18) 165)) 18 164 (xs 2)) 22 y1121) 17 (cp ((up2 (up3 (up2 aM1 18 (cp (aM1 17) (aM1 18) 165)) 18 164 (xs 2)) 22 y1121) 18) ((up2 (up3 (up2 aM1 18 (cp (aM1 17) (aM1 18) 165)) 18 164 (xs 2)) 22 y1121) 17) 165)) lM1) 503 [(3, .int 0), (2, .ref (r 0)), (1, .ref (q 0)), (0, .ref b)] [.int 1, .int 0]
      exfalso; omega
    · show GW κ 4 82 21282 (wX q d iX0 aX0 ++ wM r g iM1 aM1 lM1) 503 [(3, .int 0), (2, .ref (r 0)), (1, .ref (q 0)), (0, .ref b)] [.int 0, .int 0]
      exfalso; omega
  · show GW κ 4 82 21282 (wM r g iM1 aM1 lM1 ++ wX q d iX0 aX0) 489 [(3, .int 0), (2, .ref (r 0)), (1, .ref (q 0)), (0, .ref b)] [.int 0]
    refine g_aload_n hk dL_law_489 rfl ?_
    refine g_aload_n hk dL_law_490 rfl ?_
    refine g_iload_n hk dL_law_491 rfl ?_
    refine g_iconst (v := 1) hk dL_law_492 (by decide) ?_
    refine g_iadd hk dL_law_493 ?_
    refine g_norm (v := 1) (by decide) ?_
    refine g_sld (v := xs 1) hk hX (vp_in_iff.mpr ⟨by decide, by show (1 : Int) < (L : Int); omega⟩) rfl dL_law_494 ?_
    refine g_aload_n hk dL_law_495 rfl ?_
    refine g_iload_n hk dL_law_496 rfl ?_
    refine g_iconst (v := 2) hk dL_law_497 (by decide) ?_
    refine g_iadd hk dL_law_498 ?_
    refine g_norm (v := 2) (by decide) ?_
    refine g_sld (v := xs 2) hk hX (vp_in_iff.mpr ⟨by decide, by show (2 : Int) < (L : Int); omega⟩) rfl dL_law_499 ?_
    refine g_callV hk (m161_X12_set l D zt g r (xs 1) (xs 2)) (SP.pre _ _) (fun q h => List.mem_append_right _ h) gL_law_X12_set rfl rfl rfl (by decide +kernel) ⟨Nat.le_of_ble_eq_true rfl, Nat.le_of_ble_eq_true rfl⟩ 0 rfl rfl rfl rfl (Nat.le_of_ble_eq_true rfl) ⟨Nat.le_of_ble_eq_true rfl, Nat.le_of_ble_eq_true rfl⟩ dL_law_500 (fun v ty' w' hp hk' => ?_)
    rcases hp with ⟨c1138, rfl, rfl⟩ | ⟨c1139, c1140, rfl, rfl⟩ | ⟨c1141, c1142, c1143, c1144, c1145, rfl, rfl⟩ | ⟨c1146, c1147, c1148, c1149, c1150, c1151, rfl, rfl⟩ | ⟨y1152, c1153, c1154, c1155, c1156, c1157, c1158, rfl, rfl⟩ | ⟨c1159, c1160, c1161, c1162, rfl, rfl⟩ | ⟨c1163, c1164, c1165, c1166, c1167, c1168, rfl, rfl⟩ | ⟨c1169, c1170, c1171, c1172, c1173, c1174, c1175, rfl, rfl⟩ | ⟨y1176, c1177, c1178, c1179, c1180, c1181, c1182, c1183, rfl, rfl⟩ | ⟨c1184, c1185, c1186, c1187, c1188, rfl, rfl⟩ | ⟨c1189, c1190, c1191, c1192, c1193, c1194, c1195, rfl, rfl⟩ | ⟨c1196, c1197, c1198, c1199, c1200, c1201, c1202, c1203, rfl, rfl⟩ | ⟨y1204, c1205, c1206, c1207, c1208, c1209, c1210, c1211, c1212, rfl, rfl⟩ | ⟨c1213, c1214, c1215, c1216, c1217, c1218, rfl, rfl⟩ | ⟨c1219, c1220, c1221, c1222, c1223, c1224, c1225, c1226, rfl, rfl⟩ | ⟨c1227, c1228, c1229, c1230, c1231, c1232, c1233, c1234, c1235, rfl, rfl⟩ | ⟨y1236, c1237, c1238, c1239, c1240, c1241, c1242, c1243, c1244, c1245, rfl, rfl⟩ | ⟨c1246, c1247, c1248, c1249, c1250, c1251, c1252, rfl, rfl⟩
    · show GW κ 4 82 21282 (wX q d iX0 aX0 ++ wM r g iM1 aM1 lM1) 503 [(3, .int 0), (2, .ref (r 0)), (1, .ref (q 0)), (0, .ref b)] [.int 0, .int 0]
      exfalso; omega
    · show GW κ 4 82 21282 (wX q d iX0 aX0 ++ wM r g iM1 aM1 lM1) 503 [(3, .int 0), (2, .ref (r 0)), (1, .ref (q 0)), (0, .ref b)] [.int 0, .int 0]
      refine g_icmp_eq (tgt := 1465) (a := 0) (b := 0) hk dL_law_503 (by decide) rfl rfl (fun _ => ?_) (fun z9 => absurd (show 0 = 0 from by decide) z9)
      exact tail _
    · show GW κ 4 82 21282 (wX q d iX0 aX0 ++ wM r g iM1 aM1 lM1) 503 [(3, .int 0), (2, .ref (r 0)), (1, .ref (q 0)), (0, .ref b)] [.int 0, .int 0]
      exfalso; omega
    · show GW κ 4 82 21282 (wX q d iX0 aX0 ++ wM r g iM1 aM1 lM1) 503 [(3, .int 0), (2, .ref (r 0)), (1, .ref (q 0)), (0, .ref b)] [.int 0, .int 0]
      exfalso; omega
    · show GW κ 4 82 21282 (wX q d iX0 aX0 ++ wM r g (upd iM1 22 1) (up2 (up2 (up3 (up2 aM1 18 (cp (aM1 17) (aM1 18) 165)) 18 161 (xs 2)) 22 y1152) 17 (cp ((up2 (up3 (up2 aM1 18 (cp (aM1 17) (aM1 18) 165)) 18 161 (xs 2)) 22 y1152) 18) ((up2 (up3 (up2 aM1 18 (cp (aM1 17) (aM1 18) 165)) 18 161 (xs 2)) 22 y1152) 17) 165)) lM1) 503 [(3, .int 0), (2, .ref (r 0)), (1, .ref (q 0)), (0, .ref b)] [.int 1, .int 0]
      exfalso; omega
    · show GW κ 4 82 21282 (wX q d iX0 aX0 ++ wM r g iM1 aM1 lM1) 503 [(3, .int 0), (2, .ref (r 0)), (1, .ref (q 0)), (0, .ref b)] [.int 0, .int 0]
      exfalso; omega
    · show GW κ 4 82 21282 (wX q d iX0 aX0 ++ wM r g iM1 aM1 lM1) 503 [(3, .int 0), (2, .ref (r 0)), (1, .ref (q 0)), (0, .ref b)] [.int 0, .int 0]
      exfalso; omega
    · show GW κ 4 82 21282 (wX q d iX0 aX0 ++ wM r g iM1 aM1 lM1) 503 [(3, .int 0), (2, .ref (r 0)), (1, .ref (q 0)), (0, .ref b)] [.int 0, .int 0]
      exfalso; omega
    · show GW κ 4 82 21282 (wX q d iX0 aX0 ++ wM r g (upd iM1 22 1) (up2 (up2 (up3 (up2 aM1 18 (cp (aM1 17) (aM1 18) 165)) 18 162 (xs 2)) 22 y1176) 17 (cp ((up2 (up3 (up2 aM1 18 (cp (aM1 17) (aM1 18) 165)) 18 162 (xs 2)) 22 y1176) 18) ((up2 (up3 (up2 aM1 18 (cp (aM1 17) (aM1 18) 165)) 18 162 (xs 2)) 22 y1176) 17) 165)) lM1) 503 [(3, .int 0), (2, .ref (r 0)), (1, .ref (q 0)), (0, .ref b)] [.int 1, .int 0]
      exfalso; omega
    · show GW κ 4 82 21282 (wX q d iX0 aX0 ++ wM r g iM1 aM1 lM1) 503 [(3, .int 0), (2, .ref (r 0)), (1, .ref (q 0)), (0, .ref b)] [.int 0, .int 0]
      exfalso; omega
    · show GW κ 4 82 21282 (wX q d iX0 aX0 ++ wM r g iM1 aM1 lM1) 503 [(3, .int 0), (2, .ref (r 0)), (1, .ref (q 0)), (0, .ref b)] [.int 0, .int 0]
      exfalso; omega
    · show GW κ 4 82 21282 (wX q d iX0 aX0 ++ wM r g iM1 aM1 lM1) 503 [(3, .int 0), (2, .ref (r 0)), (1, .ref (q 0)), (0, .ref b)] [.int 0, .int 0]
      exfalso; omega
    · show GW κ 4 82 21282 (wX q d iX0 aX0 ++ wM r g (upd iM1 22 1) (up2 (up2 (up3 (up2 aM1 18 (cp (aM1 17) (aM1 18) 165)) 18 163 (xs 2)) 22 y1204) 17 (cp ((up2 (up3 (up2 aM1 18 (cp (aM1 17) (aM1 18) 165)) 18 163 (xs 2)) 22 y1204) 18) ((up2 (up3 (up2 aM1 18 (cp (aM1 17) (aM1 18) 165)) 18 163 (xs 2)) 22 y1204) 17) 165)) lM1) 503 [(3, .int 0), (2, .ref (r 0)), (1, .ref (q 0)), (0, .ref b)] [.int 1, .int 0]
      exfalso; omega
    · show GW κ 4 82 21282 (wX q d iX0 aX0 ++ wM r g iM1 aM1 lM1) 503 [(3, .int 0), (2, .ref (r 0)), (1, .ref (q 0)), (0, .ref b)] [.int 0, .int 0]
      exfalso; omega
    · show GW κ 4 82 21282 (wX q d iX0 aX0 ++ wM r g iM1 aM1 lM1) 503 [(3, .int 0), (2, .ref (r 0)), (1, .ref (q 0)), (0, .ref b)] [.int 0, .int 0]
      exfalso; omega
    · show GW κ 4 82 21282 (wX q d iX0 aX0 ++ wM r g iM1 aM1 lM1) 503 [(3, .int 0), (2, .ref (r 0)), (1, .ref (q 0)), (0, .ref b)] [.int 0, .int 0]
      exfalso; omega
    · show GW κ 4 82 21282 (wX q d iX0 aX0 ++ wM r g (upd iM1 22 1) (up2 (up2 (up3 (up2 aM1 18 (cp (aM1 17) (aM1 18) 165)) 18 164 (xs 2)) 22 y1236) 17 (cp ((up2 (up3 (up2 aM1 18 (cp (aM1 17) (aM1 18) 165)) 18 164 (xs 2)) 22 y1236) 18) ((up2 (up3 (up2 aM1 18 (cp (aM1 17) (aM1 18) 165)) 18 164 (xs 2)) 22 y1236) 17) 165)) lM1) 503 [(3, .int 0), (2, .ref (r 0)), (1, .ref (q 0)), (0, .ref b)] [.int 1, .int 0]
      exfalso; omega
    · show GW κ 4 82 21282 (wX q d iX0 aX0 ++ wM r g iM1 aM1 lM1) 503 [(3, .int 0), (2, .ref (r 0)), (1, .ref (q 0)), (0, .ref b)] [.int 0, .int 0]
      exfalso; omega
  · show GW κ 4 82 21282 (wM r g iM1 aM1 lM1 ++ wX q d iX0 aX0) 489 [(3, .int 0), (2, .ref (r 0)), (1, .ref (q 0)), (0, .ref b)] [.int 0]
    refine g_aload_n hk dL_law_489 rfl ?_
    refine g_aload_n hk dL_law_490 rfl ?_
    refine g_iload_n hk dL_law_491 rfl ?_
    refine g_iconst (v := 1) hk dL_law_492 (by decide) ?_
    refine g_iadd hk dL_law_493 ?_
    refine g_norm (v := 1) (by decide) ?_
    refine g_sld (v := xs 1) hk hX (vp_in_iff.mpr ⟨by decide, by show (1 : Int) < (L : Int); omega⟩) rfl dL_law_494 ?_
    refine g_aload_n hk dL_law_495 rfl ?_
    refine g_iload_n hk dL_law_496 rfl ?_
    refine g_iconst (v := 2) hk dL_law_497 (by decide) ?_
    refine g_iadd hk dL_law_498 ?_
    refine g_norm (v := 2) (by decide) ?_
    refine g_sld (v := xs 2) hk hX (vp_in_iff.mpr ⟨by decide, by show (2 : Int) < (L : Int); omega⟩) rfl dL_law_499 ?_
    refine g_callV hk (m161_X12_set l D zt g r (xs 1) (xs 2)) (SP.pre _ _) (fun q h => List.mem_append_right _ h) gL_law_X12_set rfl rfl rfl (by decide +kernel) ⟨Nat.le_of_ble_eq_true rfl, Nat.le_of_ble_eq_true rfl⟩ 0 rfl rfl rfl rfl (Nat.le_of_ble_eq_true rfl) ⟨Nat.le_of_ble_eq_true rfl, Nat.le_of_ble_eq_true rfl⟩ dL_law_500 (fun v ty' w' hp hk' => ?_)
    rcases hp with ⟨c1253, rfl, rfl⟩ | ⟨c1254, c1255, rfl, rfl⟩ | ⟨c1256, c1257, c1258, c1259, c1260, rfl, rfl⟩ | ⟨c1261, c1262, c1263, c1264, c1265, c1266, rfl, rfl⟩ | ⟨y1267, c1268, c1269, c1270, c1271, c1272, c1273, rfl, rfl⟩ | ⟨c1274, c1275, c1276, c1277, rfl, rfl⟩ | ⟨c1278, c1279, c1280, c1281, c1282, c1283, rfl, rfl⟩ | ⟨c1284, c1285, c1286, c1287, c1288, c1289, c1290, rfl, rfl⟩ | ⟨y1291, c1292, c1293, c1294, c1295, c1296, c1297, c1298, rfl, rfl⟩ | ⟨c1299, c1300, c1301, c1302, c1303, rfl, rfl⟩ | ⟨c1304, c1305, c1306, c1307, c1308, c1309, c1310, rfl, rfl⟩ | ⟨c1311, c1312, c1313, c1314, c1315, c1316, c1317, c1318, rfl, rfl⟩ | ⟨y1319, c1320, c1321, c1322, c1323, c1324, c1325, c1326, c1327, rfl, rfl⟩ | ⟨c1328, c1329, c1330, c1331, c1332, c1333, rfl, rfl⟩ | ⟨c1334, c1335, c1336, c1337, c1338, c1339, c1340, c1341, rfl, rfl⟩ | ⟨c1342, c1343, c1344, c1345, c1346, c1347, c1348, c1349, c1350, rfl, rfl⟩ | ⟨y1351, c1352, c1353, c1354, c1355, c1356, c1357, c1358, c1359, c1360, rfl, rfl⟩ | ⟨c1361, c1362, c1363, c1364, c1365, c1366, c1367, rfl, rfl⟩
    · show GW κ 4 82 21282 (wX q d iX0 aX0 ++ wM r g iM1 aM1 lM1) 503 [(3, .int 0), (2, .ref (r 0)), (1, .ref (q 0)), (0, .ref b)] [.int 0, .int 0]
      exfalso; omega
    · show GW κ 4 82 21282 (wX q d iX0 aX0 ++ wM r g iM1 aM1 lM1) 503 [(3, .int 0), (2, .ref (r 0)), (1, .ref (q 0)), (0, .ref b)] [.int 0, .int 0]
      exfalso; omega
    · show GW κ 4 82 21282 (wX q d iX0 aX0 ++ wM r g iM1 aM1 lM1) 503 [(3, .int 0), (2, .ref (r 0)), (1, .ref (q 0)), (0, .ref b)] [.int 0, .int 0]
      refine g_icmp_eq (tgt := 1465) (a := 0) (b := 0) hk dL_law_503 (by decide) rfl rfl (fun _ => ?_) (fun z9 => absurd (show 0 = 0 from by decide) z9)
      exact tail _
    · show GW κ 4 82 21282 (wX q d iX0 aX0 ++ wM r g iM1 aM1 lM1) 503 [(3, .int 0), (2, .ref (r 0)), (1, .ref (q 0)), (0, .ref b)] [.int 0, .int 0]
      exfalso; omega
    · show GW κ 4 82 21282 (wX q d iX0 aX0 ++ wM r g (upd iM1 22 1) (up2 (up2 (up3 (up2 aM1 18 (cp (aM1 17) (aM1 18) 165)) 18 161 (xs 2)) 22 y1267) 17 (cp ((up2 (up3 (up2 aM1 18 (cp (aM1 17) (aM1 18) 165)) 18 161 (xs 2)) 22 y1267) 18) ((up2 (up3 (up2 aM1 18 (cp (aM1 17) (aM1 18) 165)) 18 161 (xs 2)) 22 y1267) 17) 165)) lM1) 503 [(3, .int 0), (2, .ref (r 0)), (1, .ref (q 0)), (0, .ref b)] [.int 1, .int 0]
      exfalso; omega
    · show GW κ 4 82 21282 (wX q d iX0 aX0 ++ wM r g iM1 aM1 lM1) 503 [(3, .int 0), (2, .ref (r 0)), (1, .ref (q 0)), (0, .ref b)] [.int 0, .int 0]
      exfalso; omega
    · show GW κ 4 82 21282 (wX q d iX0 aX0 ++ wM r g iM1 aM1 lM1) 503 [(3, .int 0), (2, .ref (r 0)), (1, .ref (q 0)), (0, .ref b)] [.int 0, .int 0]
      exfalso; omega
    · show GW κ 4 82 21282 (wX q d iX0 aX0 ++ wM r g iM1 aM1 lM1) 503 [(3, .int 0), (2, .ref (r 0)), (1, .ref (q 0)), (0, .ref b)] [.int 0, .int 0]
      exfalso; omega
    · show GW κ 4 82 21282 (wX q d iX0 aX0 ++ wM r g (upd iM1 22 1) (up2 (up2 (up3 (up2 aM1 18 (cp (aM1 17) (aM1 18) 165)) 18 162 (xs 2)) 22 y1291) 17 (cp ((up2 (up3 (up2 aM1 18 (cp (aM1 17) (aM1 18) 165)) 18 162 (xs 2)) 22 y1291) 18) ((up2 (up3 (up2 aM1 18 (cp (aM1 17) (aM1 18) 165)) 18 162 (xs 2)) 22 y1291) 17) 165)) lM1) 503 [(3, .int 0), (2, .ref (r 0)), (1, .ref (q 0)), (0, .ref b)] [.int 1, .int 0]
      exfalso; omega
    · show GW κ 4 82 21282 (wX q d iX0 aX0 ++ wM r g iM1 aM1 lM1) 503 [(3, .int 0), (2, .ref (r 0)), (1, .ref (q 0)), (0, .ref b)] [.int 0, .int 0]
      exfalso; omega
    · show GW κ 4 82 21282 (wX q d iX0 aX0 ++ wM r g iM1 aM1 lM1) 503 [(3, .int 0), (2, .ref (r 0)), (1, .ref (q 0)), (0, .ref b)] [.int 0, .int 0]
      exfalso; omega
    · show GW κ 4 82 21282 (wX q d iX0 aX0 ++ wM r g iM1 aM1 lM1) 503 [(3, .int 0), (2, .ref (r 0)), (1, .ref (q 0)), (0, .ref b)] [.int 0, .int 0]
      exfalso; omega
    · show GW κ 4 82 21282 (wX q d iX0 aX0 ++ wM r g (upd iM1 22 1) (up2 (up2 (up3 (up2 aM1 18 (cp (aM1 17) (aM1 18) 165)) 18 163 (xs 2)) 22 y1319) 17 (cp ((up2 (up3 (up2 aM1 18 (cp (aM1 17) (aM1 18) 165)) 18 163 (xs 2)) 22 y1319) 18) ((up2 (up3 (up2 aM1 18 (cp (aM1 17) (aM1 18) 165)) 18 163 (xs 2)) 22 y1319) 17) 165)) lM1) 503 [(3, .int 0), (2, .ref (r 0)), (1, .ref (q 0)), (0, .ref b)] [.int 1, .int 0]
      exfalso; omega
    · show GW κ 4 82 21282 (wX q d iX0 aX0 ++ wM r g iM1 aM1 lM1) 503 [(3, .int 0), (2, .ref (r 0)), (1, .ref (q 0)), (0, .ref b)] [.int 0, .int 0]
      exfalso; omega
    · show GW κ 4 82 21282 (wX q d iX0 aX0 ++ wM r g iM1 aM1 lM1) 503 [(3, .int 0), (2, .ref (r 0)), (1, .ref (q 0)), (0, .ref b)] [.int 0, .int 0]
      exfalso; omega
    · show GW κ 4 82 21282 (wX q d iX0 aX0 ++ wM r g iM1 aM1 lM1) 503 [(3, .int 0), (2, .ref (r 0)), (1, .ref (q 0)), (0, .ref b)] [.int 0, .int 0]
      exfalso; omega
    · show GW κ 4 82 21282 (wX q d iX0 aX0 ++ wM r g (upd iM1 22 1) (up2 (up2 (up3 (up2 aM1 18 (cp (aM1 17) (aM1 18) 165)) 18 164 (xs 2)) 22 y1351) 17 (cp ((up2 (up3 (up2 aM1 18 (cp (aM1 17) (aM1 18) 165)) 18 164 (xs 2)) 22 y1351) 18) ((up2 (up3 (up2 aM1 18 (cp (aM1 17) (aM1 18) 165)) 18 164 (xs 2)) 22 y1351) 17) 165)) lM1) 503 [(3, .int 0), (2, .ref (r 0)), (1, .ref (q 0)), (0, .ref b)] [.int 1, .int 0]
      exfalso; omega
    · show GW κ 4 82 21282 (wX q d iX0 aX0 ++ wM r g iM1 aM1 lM1) 503 [(3, .int 0), (2, .ref (r 0)), (1, .ref (q 0)), (0, .ref b)] [.int 0, .int 0]
      exfalso; omega
  · show GW κ 4 82 21282 (wM r g iM1 aM1 lM1 ++ wX q d iX0 aX0) 489 [(3, .int 0), (2, .ref (r 0)), (1, .ref (q 0)), (0, .ref b)] [.int 0]
    refine g_aload_n hk dL_law_489 rfl ?_
    refine g_aload_n hk dL_law_490 rfl ?_
    refine g_iload_n hk dL_law_491 rfl ?_
    refine g_iconst (v := 1) hk dL_law_492 (by decide) ?_
    refine g_iadd hk dL_law_493 ?_
    refine g_norm (v := 1) (by decide) ?_
    refine g_sld (v := xs 1) hk hX (vp_in_iff.mpr ⟨by decide, by show (1 : Int) < (L : Int); omega⟩) rfl dL_law_494 ?_
    refine g_aload_n hk dL_law_495 rfl ?_
    refine g_iload_n hk dL_law_496 rfl ?_
    refine g_iconst (v := 2) hk dL_law_497 (by decide) ?_
    refine g_iadd hk dL_law_498 ?_
    refine g_norm (v := 2) (by decide) ?_
    refine g_sld (v := xs 2) hk hX (vp_in_iff.mpr ⟨by decide, by show (2 : Int) < (L : Int); omega⟩) rfl dL_law_499 ?_
    refine g_callV hk (m161_X12_set l D zt g r (xs 1) (xs 2)) (SP.pre _ _) (fun q h => List.mem_append_right _ h) gL_law_X12_set rfl rfl rfl (by decide +kernel) ⟨Nat.le_of_ble_eq_true rfl, Nat.le_of_ble_eq_true rfl⟩ 0 rfl rfl rfl rfl (Nat.le_of_ble_eq_true rfl) ⟨Nat.le_of_ble_eq_true rfl, Nat.le_of_ble_eq_true rfl⟩ dL_law_500 (fun v ty' w' hp hk' => ?_)
    rcases hp with ⟨c1368, rfl, rfl⟩ | ⟨c1369, c1370, rfl, rfl⟩ | ⟨c1371, c1372, c1373, c1374, c1375, rfl, rfl⟩ | ⟨c1376, c1377, c1378, c1379, c1380, c1381, rfl, rfl⟩ | ⟨y1382, c1383, c1384, c1385, c1386, c1387, c1388, rfl, rfl⟩ | ⟨c1389, c1390, c1391, c1392, rfl, rfl⟩ | ⟨c1393, c1394, c1395, c1396, c1397, c1398, rfl, rfl⟩ | ⟨c1399, c1400, c1401, c1402, c1403, c1404, c1405, rfl, rfl⟩ | ⟨y1406, c1407, c1408, c1409, c1410, c1411, c1412, c1413, rfl, rfl⟩ | ⟨c1414, c1415, c1416, c1417, c1418, rfl, rfl⟩ | ⟨c1419, c1420, c1421, c1422, c1423, c1424, c1425, rfl, rfl⟩ | ⟨c1426, c1427, c1428, c1429, c1430, c1431, c1432, c1433, rfl, rfl⟩ | ⟨y1434, c1435, c1436, c1437, c1438, c1439, c1440, c1441, c1442, rfl, rfl⟩ | ⟨c1443, c1444, c1445, c1446, c1447, c1448, rfl, rfl⟩ | ⟨c1449, c1450, c1451, c1452, c1453, c1454, c1455, c1456, rfl, rfl⟩ | ⟨c1457, c1458, c1459, c1460, c1461, c1462, c1463, c1464, c1465, rfl, rfl⟩ | ⟨y1466, c1467, c1468, c1469, c1470, c1471, c1472, c1473, c1474, c1475, rfl, rfl⟩ | ⟨c1476, c1477, c1478, c1479, c1480, c1481, c1482, rfl, rfl⟩
    · show GW κ 4 82 21282 (wX q d iX0 aX0 ++ wM r g iM1 aM1 lM1) 503 [(3, .int 0), (2, .ref (r 0)), (1, .ref (q 0)), (0, .ref b)] [.int 0, .int 0]
      exfalso; omega
    · show GW κ 4 82 21282 (wX q d iX0 aX0 ++ wM r g iM1 aM1 lM1) 503 [(3, .int 0), (2, .ref (r 0)), (1, .ref (q 0)), (0, .ref b)] [.int 0, .int 0]
      exfalso; omega
    · show GW κ 4 82 21282 (wX q d iX0 aX0 ++ wM r g iM1 aM1 lM1) 503 [(3, .int 0), (2, .ref (r 0)), (1, .ref (q 0)), (0, .ref b)] [.int 0, .int 0]
      exfalso; omega
    · show GW κ 4 82 21282 (wX q d iX0 aX0 ++ wM r g iM1 aM1 lM1) 503 [(3, .int 0), (2, .ref (r 0)), (1, .ref (q 0)), (0, .ref b)] [.int 0, .int 0]
      refine g_icmp_eq (tgt := 1465) (a := 0) (b := 0) hk dL_law_503 (by decide) rfl rfl (fun _ => ?_) (fun z9 => absurd (show 0 = 0 from by decide) z9)
      exact tail _
    · show GW κ 4 82 21282 (wX q d iX0 aX0 ++ wM r g (upd iM1 22 1) (up2 (up2 (up3 (up2 aM1 18 (cp (aM1 17) (aM1 18) 165)) 18 161 (xs 2)) 22 y1382) 17 (cp ((up2 (up3 (up2 aM1 18 (cp (aM1 17) (aM1 18) 165)) 18 161 (xs 2)) 22 y1382) 18) ((up2 (up3 (up2 aM1 18 (cp (aM1 17) (aM1 18) 165)) 18 161 (xs 2)) 22 y1382) 17) 165)) lM1) 503 [(3, .int 0), (2, .ref (r 0)), (1, .ref (q 0)), (0, .ref b)] [.int 1, .int 0]
      exfalso; omega
    · show GW κ 4 82 21282 (wX q d iX0 aX0 ++ wM r g iM1 aM1 lM1) 503 [(3, .int 0), (2, .ref (r 0)), (1, .ref (q 0)), (0, .ref b)] [.int 0, .int 0]
      exfalso; omega
    · show GW κ 4 82 21282 (wX q d iX0 aX0 ++ wM r g iM1 aM1 lM1) 503 [(3, .int 0), (2, .ref (r 0)), (1, .ref (q 0)), (0, .ref b)] [.int 0, .int 0]
      exfalso; omega
    · show GW κ 4 82 21282 (wX q d iX0 aX0 ++ wM r g iM1 aM1 lM1) 503 [(3, .int 0), (2, .ref (r 0)), (1, .ref (q 0)), (0, .ref b)] [.int 0, .int 0]
      exfalso; omega
    · show GW κ 4 82 21282 (wX q d iX0 aX0 ++ wM r g (upd iM1 22 1) (up2 (up2 (up3 (up2 aM1 18 (cp (aM1 17) (aM1 18) 165)) 18 162 (xs 2)) 22 y1406) 17 (cp ((up2 (up3 (up2 aM1 18 (cp (aM1 17) (aM1 18) 165)) 18 162 (xs 2)) 22 y1406) 18) ((up2 (up3 (up2 aM1 18 (cp (aM1 17) (aM1 18) 165)) 18 162 (xs 2)) 22 y1406) 17) 165)) lM1) 503 [(3, .int 0), (2, .ref (r 0)), (1, .ref (q 0)), (0, .ref b)] [.int 1, .int 0]
      exfalso; omega
    · show GW κ 4 82 21282 (wX q d iX0 aX0 ++ wM r g iM1 aM1 lM1) 503 [(3, .int 0), (2, .ref (r 0)), (1, .ref (q 0)), (0, .ref b)] [.int 0, .int 0]
      exfalso; omega
    · show GW κ 4 82 21282 (wX q d iX0 aX0 ++ wM r g iM1 aM1 lM1) 503 [(3, .int 0), (2, .ref (r 0)), (1, .ref (q 0)), (0, .ref b)] [.int 0, .int 0]
      exfalso; omega
    · show GW κ 4 82 21282 (wX q d iX0 aX0 ++ wM r g iM1 aM1 lM1) 503 [(3, .int 0), (2, .ref (r 0)), (1, .ref (q 0)), (0, .ref b)] [.int 0, .int 0]
      exfalso; omega
    · show GW κ 4 82 21282 (wX q d iX0 aX0 ++ wM r g (upd iM1 22 1) (up2 (up2 (up3 (up2 aM1 18 (cp (aM1 17) (aM1 18) 165)) 18 163 (xs 2)) 22 y1434) 17 (cp ((up2 (up3 (up2 aM1 18 (cp (aM1 17) (aM1 18) 165)) 18 163 (xs 2)) 22 y1434) 18) ((up2 (up3 (up2 aM1 18 (cp (aM1 17) (aM1 18) 165)) 18 163 (xs 2)) 22 y1434) 17) 165)) lM1) 503 [(3, .int 0), (2, .ref (r 0)), (1, .ref (q 0)), (0, .ref b)] [.int 1, .int 0]
      exfalso; omega
    · show GW κ 4 82 21282 (wX q d iX0 aX0 ++ wM r g iM1 aM1 lM1) 503 [(3, .int 0), (2, .ref (r 0)), (1, .ref (q 0)), (0, .ref b)] [.int 0, .int 0]
      exfalso; omega
    · show GW κ 4 82 21282 (wX q d iX0 aX0 ++ wM r g iM1 aM1 lM1) 503 [(3, .int 0), (2, .ref (r 0)), (1, .ref (q 0)), (0, .ref b)] [.int 0, .int 0]
      exfalso; omega
    · show GW κ 4 82 21282 (wX q d iX0 aX0 ++ wM r g iM1 aM1 lM1) 503 [(3, .int 0), (2, .ref (r 0)), (1, .ref (q 0)), (0, .ref b)] [.int 0, .int 0]
      exfalso; omega
    · show GW κ 4 82 21282 (wX q d iX0 aX0 ++ wM r g (upd iM1 22 1) (up2 (up2 (up3 (up2 aM1 18 (cp (aM1 17) (aM1 18) 165)) 18 164 (xs 2)) 22 y1466) 17 (cp ((up2 (up3 (up2 aM1 18 (cp (aM1 17) (aM1 18) 165)) 18 164 (xs 2)) 22 y1466) 18) ((up2 (up3 (up2 aM1 18 (cp (aM1 17) (aM1 18) 165)) 18 164 (xs 2)) 22 y1466) 17) 165)) lM1) 503 [(3, .int 0), (2, .ref (r 0)), (1, .ref (q 0)), (0, .ref b)] [.int 1, .int 0]
      exfalso; omega
    · show GW κ 4 82 21282 (wX q d iX0 aX0 ++ wM r g iM1 aM1 lM1) 503 [(3, .int 0), (2, .ref (r 0)), (1, .ref (q 0)), (0, .ref b)] [.int 0, .int 0]
      exfalso; omega
  · show GW κ 4 82 21282 (wM r g iM1 aM1 lM1 ++ wX q d (upd (upd iX0 20 1) 21 1) (up3 (up3 (up3 (up3 aX0 10 0 (xs 1)) 11 0 3) 12 0 (xs 1)) 13 0 2)) 489 [(3, .int 0), (2, .ref (r 0)), (1, .ref (q 0)), (0, .ref b)] [.int 1]
    refine g_aload_n hk dL_law_489 rfl ?_
    refine g_aload_n hk dL_law_490 rfl ?_
    refine g_iload_n hk dL_law_491 rfl ?_
    refine g_iconst (v := 1) hk dL_law_492 (by decide) ?_
    refine g_iadd hk dL_law_493 ?_
    refine g_norm (v := 1) (by decide) ?_
    refine g_sld (v := xs 1) hk hX (vp_in_iff.mpr ⟨by decide, by show (1 : Int) < (L : Int); omega⟩) rfl dL_law_494 ?_
    refine g_aload_n hk dL_law_495 rfl ?_
    refine g_iload_n hk dL_law_496 rfl ?_
    refine g_iconst (v := 2) hk dL_law_497 (by decide) ?_
    refine g_iadd hk dL_law_498 ?_
    refine g_norm (v := 2) (by decide) ?_
    refine g_sld (v := xs 2) hk hX (vp_in_iff.mpr ⟨by decide, by show (2 : Int) < (L : Int); omega⟩) rfl dL_law_499 ?_
    refine g_callV hk (m161_X12_set l D zt g r (xs 1) (xs 2)) (SP.pre _ _) (fun q h => List.mem_append_right _ h) gL_law_X12_set rfl rfl rfl (by decide +kernel) ⟨Nat.le_of_ble_eq_true rfl, Nat.le_of_ble_eq_true rfl⟩ 0 rfl rfl rfl rfl (Nat.le_of_ble_eq_true rfl) ⟨Nat.le_of_ble_eq_true rfl, Nat.le_of_ble_eq_true rfl⟩ dL_law_500 (fun v ty' w' hp hk' => ?_)
    rcases hp with ⟨c1483, rfl, rfl⟩ | ⟨c1484, c1485, rfl, rfl⟩ | ⟨c1486, c1487, c1488, c1489, c1490, rfl, rfl⟩ | ⟨c1491, c1492, c1493, c1494, c1495, c1496, rfl, rfl⟩ | ⟨y1497, c1498, c1499, c1500, c1501, c1502, c1503, rfl, rfl⟩ | ⟨c1504, c1505, c1506, c1507, rfl, rfl⟩ | ⟨c1508, c1509, c1510, c1511, c1512, c1513, rfl, rfl⟩ | ⟨c1514, c1515, c1516, c1517, c1518, c1519, c1520, rfl, rfl⟩ | ⟨y1521, c1522, c1523, c1524, c1525, c1526, c1527, c1528, rfl, rfl⟩ | ⟨c1529, c1530, c1531, c1532, c1533, rfl, rfl⟩ | ⟨c1534, c1535, c1536, c1537, c1538, c1539, c1540, rfl, rfl⟩ | ⟨c1541, c1542, c1543, c1544, c1545, c1546, c1547, c1548, rfl, rfl⟩ | ⟨y1549, c1550, c1551, c1552, c1553, c1554, c1555, c1556, c1557, rfl, rfl⟩ | ⟨c1558, c1559, c1560, c1561, c1562, c1563, rfl, rfl⟩ | ⟨c1564, c1565, c1566, c1567, c1568, c1569, c1570, c1571, rfl, rfl⟩ | ⟨c1572, c1573, c1574, c1575, c1576, c1577, c1578, c1579, c1580, rfl, rfl⟩ | ⟨y1581, c1582, c1583, c1584, c1585, c1586, c1587, c1588, c1589, c1590, rfl, rfl⟩ | ⟨c1591, c1592, c1593, c1594, c1595, c1596, c1597, rfl, rfl⟩
    · show GW κ 4 82 21282 (wX q d (upd (upd iX0 20 1) 21 1) (up3 (up3 (up3 (up3 aX0 10 0 (xs 1)) 11 0 3) 12 0 (xs 1)) 13 0 2) ++ wM r g iM1 aM1 lM1) 503 [(3, .int 0), (2, .ref (r 0)), (1, .ref (q 0)), (0, .ref b)] [.int 0, .int 1]
      exfalso; omega
    · show GW κ 4 82 21282 (wX q d (upd (upd iX0 20 1) 21 1) (up3 (up3 (up3 (up3 aX0 10 0 (xs 1)) 11 0 3) 12 0 (xs 1)) 13 0 2) ++ wM r g iM1 aM1 lM1) 503 [(3, .int 0), (2, .ref (r 0)), (1, .ref (q 0)), (0, .ref b)] [.int 0, .int 1]
      exfalso; omega
    · show GW κ 4 82 21282 (wX q d (upd (upd iX0 20 1) 21 1) (up3 (up3 (up3 (up3 aX0 10 0 (xs 1)) 11 0 3) 12 0 (xs 1)) 13 0 2) ++ wM r g iM1 aM1 lM1) 503 [(3, .int 0), (2, .ref (r 0)), (1, .ref (q 0)), (0, .ref b)] [.int 0, .int 1]
      exfalso; omega
    · show GW κ 4 82 21282 (wX q d (upd (upd iX0 20 1) 21 1) (up3 (up3 (up3 (up3 aX0 10 0 (xs 1)) 11 0 3) 12 0 (xs 1)) 13 0 2) ++ wM r g iM1 aM1 lM1) 503 [(3, .int 0), (2, .ref (r 0)), (1, .ref (q 0)), (0, .ref b)] [.int 0, .int 1]
      exfalso; omega
    · show GW κ 4 82 21282 (wX q d (upd (upd iX0 20 1) 21 1) (up3 (up3 (up3 (up3 aX0 10 0 (xs 1)) 11 0 3) 12 0 (xs 1)) 13 0 2) ++ wM r g (upd iM1 22 1) (up2 (up2 (up3 (up2 aM1 18 (cp (aM1 17) (aM1 18) 165)) 18 161 (xs 2)) 22 y1497) 17 (cp ((up2 (up3 (up2 aM1 18 (cp (aM1 17) (aM1 18) 165)) 18 161 (xs 2)) 22 y1497) 18) ((up2 (up3 (up2 aM1 18 (cp (aM1 17) (aM1 18) 165)) 18 161 (xs 2)) 22 y1497) 17) 165)) lM1) 503 [(3, .int 0), (2, .ref (r 0)), (1, .ref (q 0)), (0, .ref b)] [.int 1, .int 1]
      refine g_icmp_eq (tgt := 1465) (a := 1) (b := 1) hk dL_law_503 (by decide) rfl rfl (fun _ => ?_) (fun z9 => absurd (show 1 = 1 from by decide) z9)
      exact tail _
    · show GW κ 4 82 21282 (wX q d (upd (upd iX0 20 1) 21 1) (up3 (up3 (up3 (up3 aX0 10 0 (xs 1)) 11 0 3) 12 0 (xs 1)) 13 0 2) ++ wM r g iM1 aM1 lM1) 503 [(3, .int 0), (2, .ref (r 0)), (1, .ref (q 0)), (0, .ref b)] [.int 0, .int 1]
      exfalso; omega
    · show GW κ 4 82 21282 (wX q d (upd (upd iX0 20 1) 21 1) (up3 (up3 (up3 (up3 aX0 10 0 (xs 1)) 11 0 3) 12 0 (xs 1)) 13 0 2) ++ wM r g iM1 aM1 lM1) 503 [(3, .int 0), (2, .ref (r 0)), (1, .ref (q 0)), (0, .ref b)] [.int 0, .int 1]
      exfalso; omega
    · show GW κ 4 82 21282 (wX q d (upd (upd iX0 20 1) 21 1) (up3 (up3 (up3 (up3 aX0 10 0 (xs 1)) 11 0 3) 12 0 (xs 1)) 13 0 2) ++ wM r g iM1 aM1 lM1) 503 [(3, .int 0), (2, .ref (r 0)), (1, .ref (q 0)), (0, .ref b)] [.int 0, .int 1]
      exfalso; omega
    · show GW κ 4 82 21282 (wX q d (upd (upd iX0 20 1) 21 1) (up3 (up3 (up3 (up3 aX0 10 0 (xs 1)) 11 0 3) 12 0 (xs 1)) 13 0 2) ++ wM r g (upd iM1 22 1) (up2 (up2 (up3 (up2 aM1 18 (cp (aM1 17) (aM1 18) 165)) 18 162 (xs 2)) 22 y1521) 17 (cp ((up2 (up3 (up2 aM1 18 (cp (aM1 17) (aM1 18) 165)) 18 162 (xs 2)) 22 y1521) 18) ((up2 (up3 (up2 aM1 18 (cp (aM1 17) (aM1 18) 165)) 18 162 (xs 2)) 22 y1521) 17) 165)) lM1) 503 [(3, .int 0), (2, .ref (r 0)), (1, .ref (q 0)), (0, .ref b)] [.int 1, .int 1]
      exfalso; omega
    · show GW κ 4 82 21282 (wX q d (upd (upd iX0 20 1) 21 1) (up3 (up3 (up3 (up3 aX0 10 0 (xs 1)) 11 0 3) 12 0 (xs 1)) 13 0 2) ++ wM r g iM1 aM1 lM1) 503 [(3, .int 0), (2, .ref (r 0)), (1, .ref (q 0)), (0, .ref b)] [.int 0, .int 1]
      exfalso; omega
    · show GW κ 4 82 21282 (wX q d (upd (upd iX0 20 1) 21 1) (up3 (up3 (up3 (up3 aX0 10 0 (xs 1)) 11 0 3) 12 0 (xs 1)) 13 0 2) ++ wM r g iM1 aM1 lM1) 503 [(3, .int 0), (2, .ref (r 0)), (1, .ref (q 0)), (0, .ref b)] [.int 0, .int 1]
      exfalso; omega
    · show GW κ 4 82 21282 (wX q d (upd (upd iX0 20 1) 21 1) (up3 (up3 (up3 (up3 aX0 10 0 (xs 1)) 11 0 3) 12 0 (xs 1)) 13 0 2) ++ wM r g iM1 aM1 lM1) 503 [(3, .int 0), (2, .ref (r 0)), (1, .ref (q 0)), (0, .ref b)] [.int 0, .int 1]
      exfalso; omega
    · show GW κ 4 82 21282 (wX q d (upd (upd iX0 20 1) 21 1) (up3 (up3 (up3 (up3 aX0 10 0 (xs 1)) 11 0 3) 12 0 (xs 1)) 13 0 2) ++ wM r g (upd iM1 22 1) (up2 (up2 (up3 (up2 aM1 18 (cp (aM1 17) (aM1 18) 165)) 18 163 (xs 2)) 22 y1549) 17 (cp ((up2 (up3 (up2 aM1 18 (cp (aM1 17) (aM1 18) 165)) 18 163 (xs 2)) 22 y1549) 18) ((up2 (up3 (up2 aM1 18 (cp (aM1 17) (aM1 18) 165)) 18 163 (xs 2)) 22 y1549) 17) 165)) lM1) 503 [(3, .int 0), (2, .ref (r 0)), (1, .ref (q 0)), (0, .ref b)] [.int 1, .int 1]
      exfalso; omega
    · show GW κ 4 82 21282 (wX q d (upd (upd iX0 20 1) 21 1) (up3 (up3 (up3 (up3 aX0 10 0 (xs 1)) 11 0 3) 12 0 (xs 1)) 13 0 2) ++ wM r g iM1 aM1 lM1) 503 [(3, .int 0), (2, .ref (r 0)), (1, .ref (q 0)), (0, .ref b)] [.int 0, .int 1]
      exfalso; omega
    · show GW κ 4 82 21282 (wX q d (upd (upd iX0 20 1) 21 1) (up3 (up3 (up3 (up3 aX0 10 0 (xs 1)) 11 0 3) 12 0 (xs 1)) 13 0 2) ++ wM r g iM1 aM1 lM1) 503 [(3, .int 0), (2, .ref (r 0)), (1, .ref (q 0)), (0, .ref b)] [.int 0, .int 1]
      exfalso; omega
    · show GW κ 4 82 21282 (wX q d (upd (upd iX0 20 1) 21 1) (up3 (up3 (up3 (up3 aX0 10 0 (xs 1)) 11 0 3) 12 0 (xs 1)) 13 0 2) ++ wM r g iM1 aM1 lM1) 503 [(3, .int 0), (2, .ref (r 0)), (1, .ref (q 0)), (0, .ref b)] [.int 0, .int 1]
      exfalso; omega
    · show GW κ 4 82 21282 (wX q d (upd (upd iX0 20 1) 21 1) (up3 (up3 (up3 (up3 aX0 10 0 (xs 1)) 11 0 3) 12 0 (xs 1)) 13 0 2) ++ wM r g (upd iM1 22 1) (up2 (up2 (up3 (up2 aM1 18 (cp (aM1 17) (aM1 18) 165)) 18 164 (xs 2)) 22 y1581) 17 (cp ((up2 (up3 (up2 aM1 18 (cp (aM1 17) (aM1 18) 165)) 18 164 (xs 2)) 22 y1581) 18) ((up2 (up3 (up2 aM1 18 (cp (aM1 17) (aM1 18) 165)) 18 164 (xs 2)) 22 y1581) 17) 165)) lM1) 503 [(3, .int 0), (2, .ref (r 0)), (1, .ref (q 0)), (0, .ref b)] [.int 1, .int 1]
      exfalso; omega
    · show GW κ 4 82 21282 (wX q d (upd (upd iX0 20 1) 21 1) (up3 (up3 (up3 (up3 aX0 10 0 (xs 1)) 11 0 3) 12 0 (xs 1)) 13 0 2) ++ wM r g iM1 aM1 lM1) 503 [(3, .int 0), (2, .ref (r 0)), (1, .ref (q 0)), (0, .ref b)] [.int 0, .int 1]
      exfalso; omega
  · show GW κ 4 82 21282 (wM r g iM1 aM1 lM1 ++ wX q d iX0 aX0) 489 [(3, .int 0), (2, .ref (r 0)), (1, .ref (q 0)), (0, .ref b)] [.int 0]
    refine g_aload_n hk dL_law_489 rfl ?_
    refine g_aload_n hk dL_law_490 rfl ?_
    refine g_iload_n hk dL_law_491 rfl ?_
    refine g_iconst (v := 1) hk dL_law_492 (by decide) ?_
    refine g_iadd hk dL_law_493 ?_
    refine g_norm (v := 1) (by decide) ?_
    refine g_sld (v := xs 1) hk hX (vp_in_iff.mpr ⟨by decide, by show (1 : Int) < (L : Int); omega⟩) rfl dL_law_494 ?_
    refine g_aload_n hk dL_law_495 rfl ?_
    refine g_iload_n hk dL_law_496 rfl ?_
    refine g_iconst (v := 2) hk dL_law_497 (by decide) ?_
    refine g_iadd hk dL_law_498 ?_
    refine g_norm (v := 2) (by decide) ?_
    refine g_sld (v := xs 2) hk hX (vp_in_iff.mpr ⟨by decide, by show (2 : Int) < (L : Int); omega⟩) rfl dL_law_499 ?_
    refine g_callV hk (m161_X12_set l D zt g r (xs 1) (xs 2)) (SP.pre _ _) (fun q h => List.mem_append_right _ h) gL_law_X12_set rfl rfl rfl (by decide +kernel) ⟨Nat.le_of_ble_eq_true rfl, Nat.le_of_ble_eq_true rfl⟩ 0 rfl rfl rfl rfl (Nat.le_of_ble_eq_true rfl) ⟨Nat.le_of_ble_eq_true rfl, Nat.le_of_ble_eq_true rfl⟩ dL_law_500 (fun v ty' w' hp hk' => ?_)
    rcases hp with ⟨c1598, rfl, rfl⟩ | ⟨c1599, c1600, rfl, rfl⟩ | ⟨c1601, c1602, c1603, c1604, c1605, rfl, rfl⟩ | ⟨c1606, c1607, c1608, c1609, c1610, c1611, rfl, rfl⟩ | ⟨y1612, c1613, c1614, c1615, c1616, c1617, c1618, rfl, rfl⟩ | ⟨c1619, c1620, c1621, c1622, rfl, rfl⟩ | ⟨c1623, c1624, c1625, c1626, c1627, c1628, rfl, rfl⟩ | ⟨c1629, c1630, c1631, c1632, c1633, c1634, c1635, rfl, rfl⟩ | ⟨y1636, c1637, c1638, c1639, c1640, c1641, c1642, c1643, rfl, rfl⟩ | ⟨c1644, c1645, c1646, c1647, c1648, rfl, rfl⟩ | ⟨c1649, c1650, c1651, c1652, c1653, c1654, c1655, rfl, rfl⟩ | ⟨c1656, c1657, c1658, c1659, c1660, c1661, c1662, c1663, rfl, rfl⟩ | ⟨y1664, c1665, c1666, c1667, c1668, c1669, c1670, c1671, c1672, rfl, rfl⟩ | ⟨c1673, c1674, c1675, c1676, c1677, c1678, rfl, rfl⟩ | ⟨c1679, c1680, c1681, c1682, c1683, c1684, c1685, c1686, rfl, rfl⟩ | ⟨c1687, c1688, c1689, c1690, c1691, c1692, c1693, c1694, c1695, rfl, rfl⟩ | ⟨y1696, c1697, c1698, c1699, c1700, c1701, c1702, c1703, c1704, c1705, rfl, rfl⟩ | ⟨c1706, c1707, c1708, c1709, c1710, c1711, c1712, rfl, rfl⟩
    · show GW κ 4 82 21282 (wX q d iX0 aX0 ++ wM r g iM1 aM1 lM1) 503 [(3, .int 0), (2, .ref (r 0)), (1, .ref (q 0)), (0, .ref b)] [.int 0, .int 0]
      exfalso; omega
    · show GW κ 4 82 21282 (wX q d iX0 aX0 ++ wM r g iM1 aM1 lM1) 503 [(3, .int 0), (2, .ref (r 0)), (1, .ref (q 0)), (0, .ref b)] [.int 0, .int 0]
      exfalso; omega
    · show GW κ 4 82 21282 (wX q d iX0 aX0 ++ wM r g iM1 aM1 lM1) 503 [(3, .int 0), (2, .ref (r 0)), (1, .ref (q 0)), (0, .ref b)] [.int 0, .int 0]
      exfalso; omega
    · show GW κ 4 82 21282 (wX q d iX0 aX0 ++ wM r g iM1 aM1 lM1) 503 [(3, .int 0), (2, .ref (r 0)), (1, .ref (q 0)), (0, .ref b)] [.int 0, .int 0]
      exfalso; omega
    · show GW κ 4 82 21282 (wX q d iX0 aX0 ++ wM r g (upd iM1 22 1) (up2 (up2 (up3 (up2 aM1 18 (cp (aM1 17) (aM1 18) 165)) 18 161 (xs 2)) 22 y1612) 17 (cp ((up2 (up3 (up2 aM1 18 (cp (aM1 17) (aM1 18) 165)) 18 161 (xs 2)) 22 y1612) 18) ((up2 (up3 (up2 aM1 18 (cp (aM1 17) (aM1 18) 165)) 18 161 (xs 2)) 22 y1612) 17) 165)) lM1) 503 [(3, .int 0), (2, .ref (r 0)), (1, .ref (q 0)), (0, .ref b)] [.int 1, .int 0]
      exfalso; omega
    · show GW κ 4 82 21282 (wX q d iX0 aX0 ++ wM r g iM1 aM1 lM1) 503 [(3, .int 0), (2, .ref (r 0)), (1, .ref (q 0)), (0, .ref b)] [.int 0, .int 0]
      refine g_icmp_eq (tgt := 1465) (a := 0) (b := 0) hk dL_law_503 (by decide) rfl rfl (fun _ => ?_) (fun z9 => absurd (show 0 = 0 from by decide) z9)
      exact tail _
    · show GW κ 4 82 21282 (wX q d iX0 aX0 ++ wM r g iM1 aM1 lM1) 503 [(3, .int 0), (2, .ref (r 0)), (1, .ref (q 0)), (0, .ref b)] [.int 0, .int 0]
      exfalso; omega
    · show GW κ 4 82 21282 (wX q d iX0 aX0 ++ wM r g iM1 aM1 lM1) 503 [(3, .int 0), (2, .ref (r 0)), (1, .ref (q 0)), (0, .ref b)] [.int 0, .int 0]
      exfalso; omega
    · show GW κ 4 82 21282 (wX q d iX0 aX0 ++ wM r g (upd iM1 22 1) (up2 (up2 (up3 (up2 aM1 18 (cp (aM1 17) (aM1 18) 165)) 18 162 (xs 2)) 22 y1636) 17 (cp ((up2 (up3 (up2 aM1 18 (cp (aM1 17) (aM1 18) 165)) 18 162 (xs 2)) 22 y1636) 18) ((up2 (up3 (up2 aM1 18 (cp (aM1 17) (aM1 18) 165)) 18 162 (xs 2)) 22 y1636) 17) 165)) lM1) 503 [(3, .int 0), (2, .ref (r 0)), (1, .ref (q 0)), (0, .ref b)] [.int 1, .int 0]
      exfalso; omega
    · show GW κ 4 82 21282 (wX q d iX0 aX0 ++ wM r g iM1 aM1 lM1) 503 [(3, .int 0), (2, .ref (r 0)), (1, .ref (q 0)), (0, .ref b)] [.int 0, .int 0]
      exfalso; omega
    · show GW κ 4 82 21282 (wX q d iX0 aX0 ++ wM r g iM1 aM1 lM1) 503 [(3, .int 0), (2, .ref (r 0)), (1, .ref (q 0)), (0, .ref b)] [.int 0, .int 0]
      exfalso; omega
    · show GW κ 4 82 21282 (wX q d iX0 aX0 ++ wM r g iM1 aM1 lM1) 503 [(3, .int 0), (2, .ref (r 0)), (1, .ref (q 0)), (0, .ref b)] [.int 0, .int 0]
      exfalso; omega
    · show GW κ 4 82 21282 (wX q d iX0 aX0 ++ wM r g (upd iM1 22 1) (up2 (up2 (up3 (up2 aM1 18 (cp (aM1 17) (aM1 18) 165)) 18 163 (xs 2)) 22 y1664) 17 (cp ((up2 (up3 (up2 aM1 18 (cp (aM1 17) (aM1 18) 165)) 18 163 (xs 2)) 22 y1664) 18) ((up2 (up3 (up2 aM1 18 (cp (aM1 17) (aM1 18) 165)) 18 163 (xs 2)) 22 y1664) 17) 165)) lM1) 503 [(3, .int 0), (2, .ref (r 0)), (1, .ref (q 0)), (0, .ref b)] [.int 1, .int 0]
      exfalso; omega
    · show GW κ 4 82 21282 (wX q d iX0 aX0 ++ wM r g iM1 aM1 lM1) 503 [(3, .int 0), (2, .ref (r 0)), (1, .ref (q 0)), (0, .ref b)] [.int 0, .int 0]
      exfalso; omega
    · show GW κ 4 82 21282 (wX q d iX0 aX0 ++ wM r g iM1 aM1 lM1) 503 [(3, .int 0), (2, .ref (r 0)), (1, .ref (q 0)), (0, .ref b)] [.int 0, .int 0]
      exfalso; omega
    · show GW κ 4 82 21282 (wX q d iX0 aX0 ++ wM r g iM1 aM1 lM1) 503 [(3, .int 0), (2, .ref (r 0)), (1, .ref (q 0)), (0, .ref b)] [.int 0, .int 0]
      exfalso; omega
    · show GW κ 4 82 21282 (wX q d iX0 aX0 ++ wM r g (upd iM1 22 1) (up2 (up2 (up3 (up2 aM1 18 (cp (aM1 17) (aM1 18) 165)) 18 164 (xs 2)) 22 y1696) 17 (cp ((up2 (up3 (up2 aM1 18 (cp (aM1 17) (aM1 18) 165)) 18 164 (xs 2)) 22 y1696) 18) ((up2 (up3 (up2 aM1 18 (cp (aM1 17) (aM1 18) 165)) 18 164 (xs 2)) 22 y1696) 17) 165)) lM1) 503 [(3, .int 0), (2, .ref (r 0)), (1, .ref (q 0)), (0, .ref b)] [.int 1, .int 0]
      exfalso; omega
    · show GW κ 4 82 21282 (wX q d iX0 aX0 ++ wM r g iM1 aM1 lM1) 503 [(3, .int 0), (2, .ref (r 0)), (1, .ref (q 0)), (0, .ref b)] [.int 0, .int 0]
      exfalso; omega
  · show GW κ 4 82 21282 (wM r g iM1 aM1 lM1 ++ wX q d iX0 aX0) 489 [(3, .int 0), (2, .ref (r 0)), (1, .ref (q 0)), (0, .ref b)] [.int 0]
    refine g_aload_n hk dL_law_489 rfl ?_
    refine g_aload_n hk dL_law_490 rfl ?_
    refine g_iload_n hk dL_law_491 rfl ?_
    refine g_iconst (v := 1) hk dL_law_492 (by decide) ?_
    refine g_iadd hk dL_law_493 ?_
    refine g_norm (v := 1) (by decide) ?_
    refine g_sld (v := xs 1) hk hX (vp_in_iff.mpr ⟨by decide, by show (1 : Int) < (L : Int); omega⟩) rfl dL_law_494 ?_
    refine g_aload_n hk dL_law_495 rfl ?_
    refine g_iload_n hk dL_law_496 rfl ?_
    refine g_iconst (v := 2) hk dL_law_497 (by decide) ?_
    refine g_iadd hk dL_law_498 ?_
    refine g_norm (v := 2) (by decide) ?_
    refine g_sld (v := xs 2) hk hX (vp_in_iff.mpr ⟨by decide, by show (2 : Int) < (L : Int); omega⟩) rfl dL_law_499 ?_
    refine g_callV hk (m161_X12_set l D zt g r (xs 1) (xs 2)) (SP.pre _ _) (fun q h => List.mem_append_right _ h) gL_law_X12_set rfl rfl rfl (by decide +kernel) ⟨Nat.le_of_ble_eq_true rfl, Nat.le_of_ble_eq_true rfl⟩ 0 rfl rfl rfl rfl (Nat.le_of_ble_eq_true rfl) ⟨Nat.le_of_ble_eq_true rfl, Nat.le_of_ble_eq_true rfl⟩ dL_law_500 (fun v ty' w' hp hk' => ?_)
    rcases hp with ⟨c1713, rfl, rfl⟩ | ⟨c1714, c1715, rfl, rfl⟩ | ⟨c1716, c1717, c1718, c1719, c1720, rfl, rfl⟩ | ⟨c1721, c1722, c1723, c1724, c1725, c1726, rfl, rfl⟩ | ⟨y1727, c1728, c1729, c1730, c1731, c1732, c1733, rfl, rfl⟩ | ⟨c1734, c1735, c1736, c1737, rfl, rfl⟩ | ⟨c1738, c1739, c1740, c1741, c1742, c1743, rfl, rfl⟩ | ⟨c1744, c1745, c1746, c1747, c1748, c1749, c1750, rfl, rfl⟩ | ⟨y1751, c1752, c1753, c1754, c1755, c1756, c1757, c1758, rfl, rfl⟩ | ⟨c1759, c1760, c1761, c1762, c1763, rfl, rfl⟩ | ⟨c1764, c1765, c1766, c1767, c1768, c1769, c1770, rfl, rfl⟩ | ⟨c1771, c1772, c1773, c1774, c1775, c1776, c1777, c1778, rfl, rfl⟩ | ⟨y1779, c1780, c1781, c1782, c1783, c1784, c1785, c1786, c1787, rfl, rfl⟩ | ⟨c1788, c1789, c1790, c1791, c1792, c1793, rfl, rfl⟩ | ⟨c1794, c1795, c1796, c1797, c1798, c1799, c1800, c1801, rfl, rfl⟩ | ⟨c1802, c1803, c1804, c1805, c1806, c1807, c1808, c1809, c1810, rfl, rfl⟩ | ⟨y1811, c1812, c1813, c1814, c1815, c1816, c1817, c1818, c1819, c1820, rfl, rfl⟩ | ⟨c1821, c1822, c1823, c1824, c1825, c1826, c1827, rfl, rfl⟩
    · show GW κ 4 82 21282 (wX q d iX0 aX0 ++ wM r g iM1 aM1 lM1) 503 [(3, .int 0), (2, .ref (r 0)), (1, .ref (q 0)), (0, .ref b)] [.int 0, .int 0]
      exfalso; omega
    · show GW κ 4 82 21282 (wX q d iX0 aX0 ++ wM r g iM1 aM1 lM1) 503 [(3, .int 0), (2, .ref (r 0)), (1, .ref (q 0)), (0, .ref b)] [.int 0, .int 0]
      exfalso; omega
    · show GW κ 4 82 21282 (wX q d iX0 aX0 ++ wM r g iM1 aM1 lM1) 503 [(3, .int 0), (2, .ref (r 0)), (1, .ref (q 0)), (0, .ref b)] [.int 0, .int 0]
      exfalso; omega
    · show GW κ 4 82 21282 (wX q d iX0 aX0 ++ wM r g iM1 aM1 lM1) 503 [(3, .int 0), (2, .ref (r 0)), (1, .ref (q 0)), (0, .ref b)] [.int 0, .int 0]
      exfalso; omega
    · show GW κ 4 82 21282 (wX q d iX0 aX0 ++ wM r g (upd iM1 22 1) (up2 (up2 (up3 (up2 aM1 18 (cp (aM1 17) (aM1 18) 165)) 18 161 (xs 2)) 22 y1727) 17 (cp ((up2 (up3 (up2 aM1 18 (cp (aM1 17) (aM1 18) 165)) 18 161 (xs 2)) 22 y1727) 18) ((up2 (up3 (up2 aM1 18 (cp (aM1 17) (aM1 18) 165)) 18 161 (xs 2)) 22 y1727) 17) 165)) lM1) 503 [(3, .int 0), (2, .ref (r 0)), (1, .ref (q 0)), (0, .ref b)] [.int 1, .int 0]
      exfalso; omega
    · show GW κ 4 82 21282 (wX q d iX0 aX0 ++ wM r g iM1 aM1 lM1) 503 [(3, .int 0), (2, .ref (r 0)), (1, .ref (q 0)), (0, .ref b)] [.int 0, .int 0]
      exfalso; omega
    · show GW κ 4 82 21282 (wX q d iX0 aX0 ++ wM r g iM1 aM1 lM1) 503 [(3, .int 0), (2, .ref (r 0)), (1, .ref (q 0)), (0, .ref b)] [.int 0, .int 0]
      refine g_icmp_eq (tgt := 1465) (a := 0) (b := 0) hk dL_law_503 (by decide) rfl rfl (fun _ => ?_) (fun z9 => absurd (show 0 = 0 from by decide) z9)
      exact tail _
    · show GW κ 4 82 21282 (wX q d iX0 aX0 ++ wM r g iM1 aM1 lM1) 503 [(3, .int 0), (2, .ref (r 0)), (1, .ref (q 0)), (0, .ref b)] [.int 0, .int 0]
      exfalso; omega
    · show GW κ 4 82 21282 (wX q d iX0 aX0 ++ wM r g (upd iM1 22 1) (up2 (up2 (up3 (up2 aM1 18 (cp (aM1 17) (aM1 18) 165)) 18 162 (xs 2)) 22 y1751) 17 (cp ((up2 (up3 (up2 aM1 18 (cp (aM1 17) (aM1 18) 165)) 18 162 (xs 2)) 22 y1751) 18) ((up2 (up3 (up2 aM1 18 (cp (aM1 17) (aM1 18) 165)) 18 162 (xs 2)) 22 y1751) 17) 165)) lM1) 503 [(3, .int 0), (2, .ref (r 0)), (1, .ref (q 0)), (0, .ref b)] [.int 1, .int 0]
      exfalso; omega
    · show GW κ 4 82 21282 (wX q d iX0 aX0 ++ wM r g iM1 aM1 lM1) 503 [(3, .int 0), (2, .ref (r 0)), (1, .ref (q 0)), (0, .ref b)] [.int 0, .int 0]
      exfalso; omega
    · show GW κ 4 82 21282 (wX q d iX0 aX0 ++ wM r g iM1 aM1 lM1) 503 [(3, .int 0), (2, .ref (r 0)), (1, .ref (q 0)), (0, .ref b)] [.int 0, .int 0]
      exfalso; omega
    · show GW κ 4 82 21282 (wX q d iX0 aX0 ++ wM r g iM1 aM1 lM1) 503 [(3, .int 0), (2, .ref (r 0)), (1, .ref (q 0)), (0, .ref b)] [.int 0, .int 0]
      exfalso; omega
    · show GW κ 4 82 21282 (wX q d iX0 aX0 ++ wM r g (upd iM1 22 1) (up2 (up2 (up3 (up2 aM1 18 (cp (aM1 17) (aM1 18) 165)) 18 163 (xs 2)) 22 y1779) 17 (cp ((up2 (up3 (up2 aM1 18 (cp (aM1 17) (aM1 18) 165)) 18 163 (xs 2)) 22 y1779) 18) ((up2 (up3 (up2 aM1 18 (cp (aM1 17) (aM1 18) 165)) 18 163 (xs 2)) 22 y1779) 17) 165)) lM1) 503 [(3, .int 0), (2, .ref (r 0)), (1, .ref (q 0)), (0, .ref b)] [.int 1, .int 0]
      exfalso; omega
    · show GW κ 4 82 21282 (wX q d iX0 aX0 ++ wM r g iM1 aM1 lM1) 503 [(3, .int 0), (2, .ref (r 0)), (1, .ref (q 0)), (0, .ref b)] [.int 0, .int 0]
      exfalso; omega
    · show GW κ 4 82 21282 (wX q d iX0 aX0 ++ wM r g iM1 aM1 lM1) 503 [(3, .int 0), (2, .ref (r 0)), (1, .ref (q 0)), (0, .ref b)] [.int 0, .int 0]
      exfalso; omega
    · show GW κ 4 82 21282 (wX q d iX0 aX0 ++ wM r g iM1 aM1 lM1) 503 [(3, .int 0), (2, .ref (r 0)), (1, .ref (q 0)), (0, .ref b)] [.int 0, .int 0]
      exfalso; omega
    · show GW κ 4 82 21282 (wX q d iX0 aX0 ++ wM r g (upd iM1 22 1) (up2 (up2 (up3 (up2 aM1 18 (cp (aM1 17) (aM1 18) 165)) 18 164 (xs 2)) 22 y1811) 17 (cp ((up2 (up3 (up2 aM1 18 (cp (aM1 17) (aM1 18) 165)) 18 164 (xs 2)) 22 y1811) 18) ((up2 (up3 (up2 aM1 18 (cp (aM1 17) (aM1 18) 165)) 18 164 (xs 2)) 22 y1811) 17) 165)) lM1) 503 [(3, .int 0), (2, .ref (r 0)), (1, .ref (q 0)), (0, .ref b)] [.int 1, .int 0]
      exfalso; omega
    · show GW κ 4 82 21282 (wX q d iX0 aX0 ++ wM r g iM1 aM1 lM1) 503 [(3, .int 0), (2, .ref (r 0)), (1, .ref (q 0)), (0, .ref b)] [.int 0, .int 0]
      exfalso; omega
  · show GW κ 4 82 21282 (wM r g iM1 aM1 lM1 ++ wX q d iX0 aX0) 489 [(3, .int 0), (2, .ref (r 0)), (1, .ref (q 0)), (0, .ref b)] [.int 0]
    refine g_aload_n hk dL_law_489 rfl ?_
    refine g_aload_n hk dL_law_490 rfl ?_
    refine g_iload_n hk dL_law_491 rfl ?_
    refine g_iconst (v := 1) hk dL_law_492 (by decide) ?_
    refine g_iadd hk dL_law_493 ?_
    refine g_norm (v := 1) (by decide) ?_
    refine g_sld (v := xs 1) hk hX (vp_in_iff.mpr ⟨by decide, by show (1 : Int) < (L : Int); omega⟩) rfl dL_law_494 ?_
    refine g_aload_n hk dL_law_495 rfl ?_
    refine g_iload_n hk dL_law_496 rfl ?_
    refine g_iconst (v := 2) hk dL_law_497 (by decide) ?_
    refine g_iadd hk dL_law_498 ?_
    refine g_norm (v := 2) (by decide) ?_
    refine g_sld (v := xs 2) hk hX (vp_in_iff.mpr ⟨by decide, by show (2 : Int) < (L : Int); omega⟩) rfl dL_law_499 ?_
    refine g_callV hk (m161_X12_set l D zt g r (xs 1) (xs 2)) (SP.pre _ _) (fun q h => List.mem_append_right _ h) gL_law_X12_set rfl rfl rfl (by decide +kernel) ⟨Nat.le_of_ble_eq_true rfl, Nat.le_of_ble_eq_true rfl⟩ 0 rfl rfl rfl rfl (Nat.le_of_ble_eq_true rfl) ⟨Nat.le_of_ble_eq_true rfl, Nat.le_of_ble_eq_true rfl⟩ dL_law_500 (fun v ty' w' hp hk' => ?_)
    rcases hp with ⟨c1828, rfl, rfl⟩ | ⟨c1829, c1830, rfl, rfl⟩ | ⟨c1831, c1832, c1833, c1834, c1835, rfl, rfl⟩ | ⟨c1836, c1837, c1838, c1839, c1840, c1841, rfl, rfl⟩ | ⟨y1842, c1843, c1844, c1845, c1846, c1847, c1848, rfl, rfl⟩ | ⟨c1849, c1850, c1851, c1852, rfl, rfl⟩ | ⟨c1853, c1854, c1855, c1856, c1857, c1858, rfl, rfl⟩ | ⟨c1859, c1860, c1861, c1862, c1863, c1864, c1865, rfl, rfl⟩ | ⟨y1866, c1867, c1868, c1869, c1870, c1871, c1872, c1873, rfl, rfl⟩ | ⟨c1874, c1875, c1876, c1877, c1878, rfl, rfl⟩ | ⟨c1879, c1880, c1881, c1882, c1883, c1884, c1885, rfl, rfl⟩ | ⟨c1886, c1887, c1888, c1889, c1890, c1891, c1892, c1893, rfl, rfl⟩ | ⟨y1894, c1895, c1896, c1897, c1898, c1899, c1900, c1901, c1902, rfl, rfl⟩ | ⟨c1903, c1904, c1905, c1906, c1907, c1908, rfl, rfl⟩ | ⟨c1909, c1910, c1911, c1912, c1913, c1914, c1915, c1916, rfl, rfl⟩ | ⟨c1917, c1918, c1919, c1920, c1921, c1922, c1923, c1924, c1925, rfl, rfl⟩ | ⟨y1926, c1927, c1928, c1929, c1930, c1931, c1932, c1933, c1934, c1935, rfl, rfl⟩ | ⟨c1936, c1937, c1938, c1939, c1940, c1941, c1942, rfl, rfl⟩
    · show GW κ 4 82 21282 (wX q d iX0 aX0 ++ wM r g iM1 aM1 lM1) 503 [(3, .int 0), (2, .ref (r 0)), (1, .ref (q 0)), (0, .ref b)] [.int 0, .int 0]
      exfalso; omega
    · show GW κ 4 82 21282 (wX q d iX0 aX0 ++ wM r g iM1 aM1 lM1) 503 [(3, .int 0), (2, .ref (r 0)), (1, .ref (q 0)), (0, .ref b)] [.int 0, .int 0]
      exfalso; omega
    · show GW κ 4 82 21282 (wX q d iX0 aX0 ++ wM r g iM1 aM1 lM1) 503 [(3, .int 0), (2, .ref (r 0)), (1, .ref (q 0)), (0, .ref b)] [.int 0, .int 0]
      exfalso; omega
    · show GW κ 4 82 21282 (wX q d iX0 aX0 ++ wM r g iM1 aM1 lM1) 503 [(3, .int 0), (2, .ref (r 0)), (1, .ref (q 0)), (0, .ref b)] [.int 0, .int 0]
      exfalso; omega
    · show GW κ 4 82 21282 (wX q d iX0 aX0 ++ wM r g (upd iM1 22 1) (up2 (up2 (up3 (up2 aM1 18 (cp (aM1 17) (aM1 18) 165)) 18 161 (xs 2)) 22 y1842) 17 (cp ((up2 (up3 (up2 aM1 18 (cp (aM1 17) (aM1 18) 165)) 18 161 (xs 2)) 22 y1842) 18) ((up2 (up3 (up2 aM1 18 (cp (aM1 17) (aM1 18) 165)) 18 161 (xs 2)) 22 y1842) 17) 165)) lM1) 503 [(3, .int 0), (2, .ref (r 0)), (1, .ref (q 0)), (0, .ref b)] [.int 1, .int 0]
      exfalso; omega
    · show GW κ 4 82 21282 (wX q d iX0 aX0 ++ wM r g iM1 aM1 lM1) 503 [(3, .int 0), (2, .ref (r 0)), (1, .ref (q 0)), (0, .ref b)] [.int 0, .int 0]
      exfalso; omega
    · show GW κ 4 82 21282 (wX q d iX0 aX0 ++ wM r g iM1 aM1 lM1) 503 [(3, .int 0), (2, .ref (r 0)), (1, .ref (q 0)), (0, .ref b)] [.int 0, .int 0]
      exfalso; omega
    · show GW κ 4 82 21282 (wX q d iX0 aX0 ++ wM r g iM1 aM1 lM1) 503 [(3, .int 0), (2, .ref (r 0)), (1, .ref (q 0)), (0, .ref b)] [.int 0, .int 0]
      refine g_icmp_eq (tgt := 1465) (a := 0) (b := 0) hk dL_law_503 (by decide) rfl rfl (fun _ => ?_) (fun z9 => absurd (show 0 = 0 from by decide) z9)
      exact tail _
    · show GW κ 4 82 21282 (wX q d iX0 aX0 ++ wM r g (upd iM1 22 1) (up2 (up2 (up3 (up2 aM1 18 (cp (aM1 17) (aM1 18) 165)) 18 162 (xs 2)) 22 y1866) 17 (cp ((up2 (up3 (up2 aM1 18 (cp (aM1 17) (aM1 18) 165)) 18 162 (xs 2)) 22 y1866) 18) ((up2 (up3 (up2 aM1 18 (cp (aM1 17) (aM1 18) 165)) 18 162 (xs 2)) 22 y1866) 17) 165)) lM1) 503 [(3, .int 0), (2, .ref (r 0)), (1, .ref (q 0)), (0, .ref b)] [.int 1, .int 0]
      exfalso; omega
    · show GW κ 4 82 21282 (wX q d iX0 aX0 ++ wM r g iM1 aM1 lM1) 503 [(3, .int 0), (2, .ref (r 0)), (1, .ref (q 0)), (0, .ref b)] [.int 0, .int 0]
      exfalso; omega
    · show GW κ 4 82 21282 (wX q d iX0 aX0 ++ wM r g iM1 aM1 lM1) 503 [(3, .int 0), (2, .ref (r 0)), (1, .ref (q 0)), (0, .ref b)] [.int 0, .int 0]
      exfalso; omega
    · show GW κ 4 82 21282 (wX q d iX0 aX0 ++ wM r g iM1 aM1 lM1) 503 [(3, .int 0), (2, .ref (r 0)), (1, .ref (q 0)), (0, .ref b)] [.int 0, .int 0]
      exfalso; omega
    · show GW κ 4 82 21282 (wX q d iX0 aX0 ++ wM r g (upd iM1 22 1) (up2 (up2 (up3 (up2 aM1 18 (cp (aM1 17) (aM1 18) 165)) 18 163 (xs 2)) 22 y1894) 17 (cp ((up2 (up3 (up2 aM1 18 (cp (aM1 17) (aM1 18) 165)) 18 163 (xs 2)) 22 y1894) 18) ((up2 (up3 (up2 aM1 18 (cp (aM1 17) (aM1 18) 165)) 18 163 (xs 2)) 22 y1894) 17) 165)) lM1) 503 [(3, .int 0), (2, .ref (r 0)), (1, .ref (q 0)), (0, .ref b)] [.int 1, .int 0]
      exfalso; omega
    · show GW κ 4 82 21282 (wX q d iX0 aX0 ++ wM r g iM1 aM1 lM1) 503 [(3, .int 0), (2, .ref (r 0)), (1, .ref (q 0)), (0, .ref b)] [.int 0, .int 0]
      exfalso; omega
    · show GW κ 4 82 21282 (wX q d iX0 aX0 ++ wM r g iM1 aM1 lM1) 503 [(3, .int 0), (2, .ref (r 0)), (1, .ref (q 0)), (0, .ref b)] [.int 0, .int 0]
      exfalso; omega
    · show GW κ 4 82 21282 (wX q d iX0 aX0 ++ wM r g iM1 aM1 lM1) 503 [(3, .int 0), (2, .ref (r 0)), (1, .ref (q 0)), (0, .ref b)] [.int 0, .int 0]
      exfalso; omega
    · show GW κ 4 82 21282 (wX q d iX0 aX0 ++ wM r g (upd iM1 22 1) (up2 (up2 (up3 (up2 aM1 18 (cp (aM1 17) (aM1 18) 165)) 18 164 (xs 2)) 22 y1926) 17 (cp ((up2 (up3 (up2 aM1 18 (cp (aM1 17) (aM1 18) 165)) 18 164 (xs 2)) 22 y1926) 18) ((up2 (up3 (up2 aM1 18 (cp (aM1 17) (aM1 18) 165)) 18 164 (xs 2)) 22 y1926) 17) 165)) lM1) 503 [(3, .int 0), (2, .ref (r 0)), (1, .ref (q 0)), (0, .ref b)] [.int 1, .int 0]
      exfalso; omega
    · show GW κ 4 82 21282 (wX q d iX0 aX0 ++ wM r g iM1 aM1 lM1) 503 [(3, .int 0), (2, .ref (r 0)), (1, .ref (q 0)), (0, .ref b)] [.int 0, .int 0]
      exfalso; omega
  · show GW κ 4 82 21282 (wM r g iM1 aM1 lM1 ++ wX q d (upd (upd iX0 20 1) 21 1) (up3 (up3 (up3 aX0 10 1 (xs 1)) 11 0 3) 12 0 (xs 1))) 489 [(3, .int 0), (2, .ref (r 0)), (1, .ref (q 0)), (0, .ref b)] [.int 1]
    refine g_aload_n hk dL_law_489 rfl ?_
    refine g_aload_n hk dL_law_490 rfl ?_
    refine g_iload_n hk dL_law_491 rfl ?_
    refine g_iconst (v := 1) hk dL_law_492 (by decide) ?_
    refine g_iadd hk dL_law_493 ?_
    refine g_norm (v := 1) (by decide) ?_
    refine g_sld (v := xs 1) hk hX (vp_in_iff.mpr ⟨by decide, by show (1 : Int) < (L : Int); omega⟩) rfl dL_law_494 ?_
    refine g_aload_n hk dL_law_495 rfl ?_
    refine g_iload_n hk dL_law_496 rfl ?_
    refine g_iconst (v := 2) hk dL_law_497 (by decide) ?_
    refine g_iadd hk dL_law_498 ?_
    refine g_norm (v := 2) (by decide) ?_
    refine g_sld (v := xs 2) hk hX (vp_in_iff.mpr ⟨by decide, by show (2 : Int) < (L : Int); omega⟩) rfl dL_law_499 ?_
    refine g_callV hk (m161_X12_set l D zt g r (xs 1) (xs 2)) (SP.pre _ _) (fun q h => List.mem_append_right _ h) gL_law_X12_set rfl rfl rfl (by decide +kernel) ⟨Nat.le_of_ble_eq_true rfl, Nat.le_of_ble_eq_true rfl⟩ 0 rfl rfl rfl rfl (Nat.le_of_ble_eq_true rfl) ⟨Nat.le_of_ble_eq_true rfl, Nat.le_of_ble_eq_true rfl⟩ dL_law_500 (fun v ty' w' hp hk' => ?_)
    rcases hp with ⟨c1943, rfl, rfl⟩ | ⟨c1944, c1945, rfl, rfl⟩ | ⟨c1946, c1947, c1948, c1949, c1950, rfl, rfl⟩ | ⟨c1951, c1952, c1953, c1954, c1955, c1956, rfl, rfl⟩ | ⟨y1957, c1958, c1959, c1960, c1961, c1962, c1963, rfl, rfl⟩ | ⟨c1964, c1965, c1966, c1967, rfl, rfl⟩ | ⟨c1968, c1969, c1970, c1971, c1972, c1973, rfl, rfl⟩ | ⟨c1974, c1975, c1976, c1977, c1978, c1979, c1980, rfl, rfl⟩ | ⟨y1981, c1982, c1983, c1984, c1985, c1986, c1987, c1988, rfl, rfl⟩ | ⟨c1989, c1990, c1991, c1992, c1993, rfl, rfl⟩ | ⟨c1994, c1995, c1996, c1997, c1998, c1999, c2000, rfl, rfl⟩ | ⟨c2001, c2002, c2003, c2004, c2005, c2006, c2007, c2008, rfl, rfl⟩ | ⟨y2009, c2010, c2011, c2012, c2013, c2014, c2015, c2016, c2017, rfl, rfl⟩ | ⟨c2018, c2019, c2020, c2021, c2022, c2023, rfl, rfl⟩ | ⟨c2024, c2025, c2026, c2027, c2028, c2029, c2030, c2031, rfl, rfl⟩ | ⟨c2032, c2033, c2034, c2035, c2036, c2037, c2038, c2039, c2040, rfl, rfl⟩ | ⟨y2041, c2042, c2043, c2044, c2045, c2046, c2047, c2048, c2049, c2050, rfl, rfl⟩ | ⟨c2051, c2052, c2053, c2054, c2055, c2056, c2057, rfl, rfl⟩
    · show GW κ 4 82 21282 (wX q d (upd (upd iX0 20 1) 21 1) (up3 (up3 (up3 aX0 10 1 (xs 1)) 11 0 3) 12 0 (xs 1)) ++ wM r g iM1 aM1 lM1) 503 [(3, .int 0), (2, .ref (r 0)), (1, .ref (q 0)), (0, .ref b)] [.int 0, .int 1]
      exfalso; omega
    · show GW κ 4 82 21282 (wX q d (upd (upd iX0 20 1) 21 1) (up3 (up3 (up3 aX0 10 1 (xs 1)) 11 0 3) 12 0 (xs 1)) ++ wM r g iM1 aM1 lM1) 503 [(3, .int 0), (2, .ref (r 0)), (1, .ref (q 0)), (0, .ref b)] [.int 0, .int 1]
      exfalso; omega
    · show GW κ 4 82 21282 (wX q d (upd (upd iX0 20 1) 21 1) (up3 (up3 (up3 aX0 10 1 (xs 1)) 11 0 3) 12 0 (xs 1)) ++ wM r g iM1 aM1 lM1) 503 [(3, .int 0), (2, .ref (r 0)), (1, .ref (q 0)), (0, .ref b)] [.int 0, .int 1]
      exfalso; omega
    · show GW κ 4 82 21282 (wX q d (upd (upd iX0 20 1) 21 1) (up3 (up3 (up3 aX0 10 1 (xs 1)) 11 0 3) 12 0 (xs 1)) ++ wM r g iM1 aM1 lM1) 503 [(3, .int 0), (2, .ref (r 0)), (1, .ref (q 0)), (0, .ref b)] [.int 0, .int 1]
      exfalso; omega
    · show GW κ 4 82 21282 (wX q d (upd (upd iX0 20 1) 21 1) (up3 (up3 (up3 aX0 10 1 (xs 1)) 11 0 3) 12 0 (xs 1)) ++ wM r g (upd iM1 22 1) (up2 (up2 (up3 (up2 aM1 18 (cp (aM1 17) (aM1 18) 165)) 18 161 (xs 2)) 22 y1957) 17 (cp ((up2 (up3 (up2 aM1 18 (cp (aM1 17) (aM1 18) 165)) 18 161 (xs 2)) 22 y1957) 18) ((up2 (up3 (up2 aM1 18 (cp (aM1 17) (aM1 18) 165)) 18 161 (xs 2)) 22 y1957) 17) 165)) lM1) 503 [(3, .int 0), (2, .ref (r 0)), (1, .ref (q 0)), (0, .ref b)] [.int 1, .int 1]
      exfalso; omega
    · show GW κ 4 82 21282 (wX q d (upd (upd iX0 20 1) 21 1) (up3 (up3 (up3 aX0 10 1 (xs 1)) 11 0 3) 12 0 (xs 1)) ++ wM r g iM1 aM1 lM1) 503 [(3, .int 0), (2, .ref (r 0)), (1, .ref (q 0)), (0, .ref b)] [.int 0, .int 1]
      exfalso; omega
    · show GW κ 4 82 21282 (wX q d (upd (upd iX0 20 1) 21 1) (up3 (up3 (up3 aX0 10 1 (xs 1)) 11 0 3) 12 0 (xs 1)) ++ wM r g iM1 aM1 lM1) 503 [(3, .int 0), (2, .ref (r 0)), (1, .ref (q 0)), (0, .ref b)] [.int 0, .int 1]
      exfalso; omega
    · show GW κ 4 82 21282 (wX q d (upd (upd iX0 20 1) 21 1) (up3 (up3 (up3 aX0 10 1 (xs 1)) 11 0 3) 12 0 (xs 1)) ++ wM r g iM1 aM1 lM1) 503 [(3, .int 0), (2, .ref (r 0)), (1, .ref (q 0)), (0, .ref b)] [.int 0, .int 1]
      exfalso; omega
    · show GW κ 4 82 21282 (wX q d (upd (upd iX0 20 1) 21 1) (up3 (up3 (up3 aX0 10 1 (xs 1)) 11 0 3) 12 0 (xs 1)) ++ wM r g (upd iM1 22 1) (up2 (up2 (up3 (up2 aM1 18 (cp (aM1 17) (aM1 18) 165)) 18 162 (xs 2)) 22 y1981) 17 (cp ((up2 (up3 (up2 aM1 18 (cp (aM1 17) (aM1 18) 165)) 18 162 (xs 2)) 22 y1981) 18) ((up2 (up3 (up2 aM1 18 (cp (aM1 17) (aM1 18) 165)) 18 162 (xs 2)) 22 y1981) 17) 165)) lM1) 503 [(3, .int 0), (2, .ref (r 0)), (1, .ref (q 0)), (0, .ref b)] [.int 1, .int 1]
      refine g_icmp_eq (tgt := 1465) (a := 1) (b := 1) hk dL_law_503 (by decide) rfl rfl (fun _ => ?_) (fun z9 => absurd (show 1 = 1 from by decide) z9)
      exact tail _
    · show GW κ 4 82 21282 (wX q d (upd (upd iX0 20 1) 21 1) (up3 (up3 (up3 aX0 10 1 (xs 1)) 11 0 3) 12 0 (xs 1)) ++ wM r g iM1 aM1 lM1) 503 [(3, .int 0), (2, .ref (r 0)), (1, .ref (q 0)), (0, .ref b)] [.int 0, .int 1]
      exfalso; omega
    · show GW κ 4 82 21282 (wX q d (upd (upd iX0 20 1) 21 1) (up3 (up3 (up3 aX0 10 1 (xs 1)) 11 0 3) 12 0 (xs 1)) ++ wM r g iM1 aM1 lM1) 503 [(3, .int 0), (2, .ref (r 0)), (1, .ref (q 0)), (0, .ref b)] [.int 0, .int 1]
      exfalso; omega
    · show GW κ 4 82 21282 (wX q d (upd (upd iX0 20 1) 21 1) (up3 (up3 (up3 aX0 10 1 (xs 1)) 11 0 3) 12 0 (xs 1)) ++ wM r g iM1 aM1 lM1) 503 [(3, .int 0), (2, .ref (r 0)), (1, .ref (q 0)), (0, .ref b)] [.int 0, .int 1]
      exfalso; omega
    · show GW κ 4 82 21282 (wX q d (upd (upd iX0 20 1) 21 1) (up3 (up3 (up3 aX0 10 1 (xs 1)) 11 0 3) 12 0 (xs 1)) ++ wM r g (upd iM1 22 1) (up2 (up2 (up3 (up2 aM1 18 (cp (aM1 17) (aM1 18) 165)) 18 163 (xs 2)) 22 y2009) 17 (cp ((up2 (up3 (up2 aM1 18 (cp (aM1 17) (aM1 18) 165)) 18 163 (xs 2)) 22 y2009) 18) ((up2 (up3 (up2 aM1 18 (cp (aM1 17) (aM1 18) 165)) 18 163 (xs 2)) 22 y2009) 17) 165)) lM1) 503 [(3, .int 0), (2, .ref (r 0)), (1, .ref (q 0)), (0, .ref b)] [.int 1, .int 1]
      exfalso; omega
    · show GW κ 4 82 21282 (wX q d (upd (upd iX0 20 1) 21 1) (up3 (up3 (up3 aX0 10 1 (xs 1)) 11 0 3) 12 0 (xs 1)) ++ wM r g iM1 aM1 lM1) 503 [(3, .int 0), (2, .ref (r 0)), (1, .ref (q 0)), (0, .ref b)] [.int 0, .int 1]
      exfalso; omega
    · show GW κ 4 82 21282 (wX q d (upd (upd iX0 20 1) 21 1) (up3 (up3 (up3 aX0 10 1 (xs 1)) 11 0 3) 12 0 (xs 1)) ++ wM r g iM1 aM1 lM1) 503 [(3, .int 0), (2, .ref (r 0)), (1, .ref (q 0)), (0, .ref b)] [.int 0, .int 1]
      exfalso; omega
    · show GW κ 4 82 21282 (wX q d (upd (upd iX0 20 1) 21 1) (up3 (up3 (up3 aX0 10 1 (xs 1)) 11 0 3) 12 0 (xs 1)) ++ wM r g iM1 aM1 lM1) 503 [(3, .int 0), (2, .ref (r 0)), (1, .ref (q 0)), (0, .ref b)] [.int 0, .int 1]
      exfalso; omega
    · show GW κ 4 82 21282 (wX q d (upd (upd iX0 20 1) 21 1) (up3 (up3 (up3 aX0 10 1 (xs 1)) 11 0 3) 12 0 (xs 1)) ++ wM r g (upd iM1 22 1) (up2 (up2 (up3 (up2 aM1 18 (cp (aM1 17) (aM1 18) 165)) 18 164 (xs 2)) 22 y2041) 17 (cp ((up2 (up3 (up2 aM1 18 (cp (aM1 17) (aM1 18) 165)) 18 164 (xs 2)) 22 y2041) 18) ((up2 (up3 (up2 aM1 18 (cp (aM1 17) (aM1 18) 165)) 18 164 (xs 2)) 22 y2041) 17) 165)) lM1) 503 [(3, .int 0), (2, .ref (r 0)), (1, .ref (q 0)), (0, .ref b)] [.int 1, .int 1]
      exfalso; omega
    · show GW κ 4 82 21282 (wX q d (upd (upd iX0 20 1) 21 1) (up3 (up3 (up3 aX0 10 1 (xs 1)) 11 0 3) 12 0 (xs 1)) ++ wM r g iM1 aM1 lM1) 503 [(3, .int 0), (2, .ref (r 0)), (1, .ref (q 0)), (0, .ref b)] [.int 0, .int 1]
      exfalso; omega
  · show GW κ 4 82 21282 (wM r g iM1 aM1 lM1 ++ wX q d iX0 aX0) 489 [(3, .int 0), (2, .ref (r 0)), (1, .ref (q 0)), (0, .ref b)] [.int 0]
    refine g_aload_n hk dL_law_489 rfl ?_
    refine g_aload_n hk dL_law_490 rfl ?_
    refine g_iload_n hk dL_law_491 rfl ?_
    refine g_iconst (v := 1) hk dL_law_492 (by decide) ?_
    refine g_iadd hk dL_law_493 ?_
    refine g_norm (v := 1) (by decide) ?_
    refine g_sld (v := xs 1) hk hX (vp_in_iff.mpr ⟨by decide, by show (1 : Int) < (L : Int); omega⟩) rfl dL_law_494 ?_
    refine g_aload_n hk dL_law_495 rfl ?_
    refine g_iload_n hk dL_law_496 rfl ?_
    refine g_iconst (v := 2) hk dL_law_497 (by decide) ?_
    refine g_iadd hk dL_law_498 ?_
    refine g_norm (v := 2) (by decide) ?_
    refine g_sld (v := xs 2) hk hX (vp_in_iff.mpr ⟨by decide, by show (2 : Int) < (L : Int); omega⟩) rfl dL_law_499 ?_
    refine g_callV hk (m161_X12_set l D zt g r (xs 1) (xs 2)) (SP.pre _ _) (fun q h => List.mem_append_right _ h) gL_law_X12_set rfl rfl rfl (by decide +kernel) ⟨Nat.le_of_ble_eq_true rfl, Nat.le_of_ble_eq_true rfl⟩ 0 rfl rfl rfl rfl (Nat.le_of_ble_eq_true rfl) ⟨Nat.le_of_ble_eq_true rfl, Nat.le_of_ble_eq_true rfl⟩ dL_law_500 (fun v ty' w' hp hk' => ?_)
    rcases hp with ⟨c2058, rfl, rfl⟩ | ⟨c2059, c2060, rfl, rfl⟩ | ⟨c2061, c2062, c2063, c2064, c2065, rfl, rfl⟩ | ⟨c2066, c2067, c2068, c2069, c2070, c2071, rfl, rfl⟩ | ⟨y2072, c2073, c2074, c2075, c2076, c2077, c2078, rfl, rfl⟩ | ⟨c2079, c2080, c2081, c2082, rfl, rfl⟩ | ⟨c2083, c2084, c2085, c2086, c2087, c2088, rfl, rfl⟩ | ⟨c2089, c2090, c2091, c2092, c2093, c2094, c2095, rfl, rfl⟩ | ⟨y2096, c2097, c2098, c2099, c2100, c2101, c2102, c2103, rfl, rfl⟩ | ⟨c2104, c2105, c2106, c2107, c2108, rfl, rfl⟩ | ⟨c2109, c2110, c2111, c2112, c2113, c2114, c2115, rfl, rfl⟩ | ⟨c2116, c2117, c2118, c2119, c2120, c2121, c2122, c2123, rfl, rfl⟩ | ⟨y2124, c2125, c2126, c2127, c2128, c2129, c2130, c2131, c2132, rfl, rfl⟩ | ⟨c2133, c2134, c2135, c2136, c2137, c2138, rfl, rfl⟩ | ⟨c2139, c2140, c2141, c2142, c2143, c2144, c2145, c2146, rfl, rfl⟩ | ⟨c2147, c2148, c2149, c2150, c2151, c2152, c2153, c2154, c2155, rfl, rfl⟩ | ⟨y2156, c2157, c2158, c2159, c2160, c2161, c2162, c2163, c2164, c2165, rfl, rfl⟩ | ⟨c2166, c2167, c2168, c2169, c2170, c2171, c2172, rfl, rfl⟩
    · show GW κ 4 82 21282 (wX q d iX0 aX0 ++ wM r g iM1 aM1 lM1) 503 [(3, .int 0), (2, .ref (r 0)), (1, .ref (q 0)), (0, .ref b)] [.int 0, .int 0]
      exfalso; omega
    · show GW κ 4 82 21282 (wX q d iX0 aX0 ++ wM r g iM1 aM1 lM1) 503 [(3, .int 0), (2, .ref (r 0)), (1, .ref (q 0)), (0, .ref b)] [.int 0, .int 0]
      exfalso; omega
    · show GW κ 4 82 21282 (wX q d iX0 aX0 ++ wM r g iM1 aM1 lM1) 503 [(3, .int 0), (2, .ref (r 0)), (1, .ref (q 0)), (0, .ref b)] [.int 0, .int 0]
      exfalso; omega
    · show GW κ 4 82 21282 (wX q d iX0 aX0 ++ wM r g iM1 aM1 lM1) 503 [(3, .int 0), (2, .ref (r 0)), (1, .ref (q 0)), (0, .ref b)] [.int 0, .int 0]
      exfalso; omega
    · show GW κ 4 82 21282 (wX q d iX0 aX0 ++ wM r g (upd iM1 22 1) (up2 (up2 (up3 (up2 aM1 18 (cp (aM1 17) (aM1 18) 165)) 18 161 (xs 2)) 22 y2072) 17 (cp ((up2 (up3 (up2 aM1 18 (cp (aM1 17) (aM1 18) 165)) 18 161 (xs 2)) 22 y2072) 18) ((up2 (up3 (up2 aM1 18 (cp (aM1 17) (aM1 18) 165)) 18 161 (xs 2)) 22 y2072) 17) 165)) lM1) 503 [(3, .int 0), (2, .ref (r 0)), (1, .ref (q 0)), (0, .ref b)] [.int 1, .int 0]
      exfalso; omega
    · show GW κ 4 82 21282 (wX q d iX0 aX0 ++ wM r g iM1 aM1 lM1) 503 [(3, .int 0), (2, .ref (r 0)), (1, .ref (q 0)), (0, .ref b)] [.int 0, .int 0]
      exfalso; omega
    · show GW κ 4 82 21282 (wX q d iX0 aX0 ++ wM r g iM1 aM1 lM1) 503 [(3, .int 0), (2, .ref (r 0)), (1, .ref (q 0)), (0, .ref b)] [.int 0, .int 0]
      exfalso; omega
    · show GW κ 4 82 21282 (wX q d iX0 aX0 ++ wM r g iM1 aM1 lM1) 503 [(3, .int 0), (2, .ref (r 0)), (1, .ref (q 0)), (0, .ref b)] [.int 0, .int 0]
      exfalso; omega
    · show GW κ 4 82 21282 (wX q d iX0 aX0 ++ wM r g (upd iM1 22 1) (up2 (up2 (up3 (up2 aM1 18 (cp (aM1 17) (aM1 18) 165)) 18 162 (xs 2)) 22 y2096) 17 (cp ((up2 (up3 (up2 aM1 18 (cp (aM1 17) (aM1 18) 165)) 18 162 (xs 2)) 22 y2096) 18) ((up2 (up3 (up2 aM1 18 (cp (aM1 17) (aM1 18) 165)) 18 162 (xs 2)) 22 y2096) 17) 165)) lM1) 503 [(3, .int 0), (2, .ref (r 0)), (1, .ref (q 0)), (0, .ref b)] [.int 1, .int 0]
      exfalso; omega
    · show GW κ 4 82 21282 (wX q d iX0 aX0 ++ wM r g iM1 aM1 lM1) 503 [(3, .int 0), (2, .ref (r 0)), (1, .ref (q 0)), (0, .ref b)] [.int 0, .int 0]
      refine g_icmp_eq (tgt := 1465) (a := 0) (b := 0) hk dL_law_503 (by decide) rfl rfl (fun _ => ?_) (fun z9 => absurd (show 0 = 0 from by decide) z9)
      exact tail _
    · show GW κ 4 82 21282 (wX q d iX0 aX0 ++ wM r g iM1 aM1 lM1) 503 [(3, .int 0), (2, .ref (r 0)), (1, .ref (q 0)), (0, .ref b)] [.int 0, .int 0]
      exfalso; omega
    · show GW κ 4 82 21282 (wX q d iX0 aX0 ++ wM r g iM1 aM1 lM1) 503 [(3, .int 0), (2, .ref (r 0)), (1, .ref (q 0)), (0, .ref b)] [.int 0, .int 0]
      exfalso; omega
    · show GW κ 4 82 21282 (wX q d iX0 aX0 ++ wM r g (upd iM1 22 1) (up2 (up2 (up3 (up2 aM1 18 (cp (aM1 17) (aM1 18) 165)) 18 163 (xs 2)) 22 y2124) 17 (cp ((up2 (up3 (up2 aM1 18 (cp (aM1 17) (aM1 18) 165)) 18 163 (xs 2)) 22 y2124) 18) ((up2 (up3 (up2 aM1 18 (cp (aM1 17) (aM1 18) 165)) 18 163 (xs 2)) 22 y2124) 17) 165)) lM1) 503 [(3, .int 0), (2, .ref (r 0)), (1, .ref (q 0)), (0, .ref b)] [.int 1, .int 0]
      exfalso; omega
    · show GW κ 4 82 21282 (wX q d iX0 aX0 ++ wM r g iM1 aM1 lM1) 503 [(3, .int 0), (2, .ref (r 0)), (1, .ref (q 0)), (0, .ref b)] [.int 0, .int 0]
      exfalso; omega
    · show GW κ 4 82 21282 (wX q d iX0 aX0 ++ wM r g iM1 aM1 lM1) 503 [(3, .int 0), (2, .ref (r 0)), (1, .ref (q 0)), (0, .ref b)] [.int 0, .int 0]
      exfalso; omega
    · show GW κ 4 82 21282 (wX q d iX0 aX0 ++ wM r g iM1 aM1 lM1) 503 [(3, .int 0), (2, .ref (r 0)), (1, .ref (q 0)), (0, .ref b)] [.int 0, .int 0]
      exfalso; omega
    · show GW κ 4 82 21282 (wX q d iX0 aX0 ++ wM r g (upd iM1 22 1) (up2 (up2 (up3 (up2 aM1 18 (cp (aM1 17) (aM1 18) 165)) 18 164 (xs 2)) 22 y2156) 17 (cp ((up2 (up3 (up2 aM1 18 (cp (aM1 17) (aM1 18) 165)) 18 164 (xs 2)) 22 y2156) 18) ((up2 (up3 (up2 aM1 18 (cp (aM1 17) (aM1 18) 165)) 18 164 (xs 2)) 22 y2156) 17) 165)) lM1) 503 [(3, .int 0), (2, .ref (r 0)), (1, .ref (q 0)), (0, .ref b)] [.int 1, .int 0]
      exfalso; omega
    · show GW κ 4 82 21282 (wX q d iX0 aX0 ++ wM r g iM1 aM1 lM1) 503 [(3, .int 0), (2, .ref (r 0)), (1, .ref (q 0)), (0, .ref b)] [.int 0, .int 0]
      exfalso; omega
  · show GW κ 4 82 21282 (wM r g iM1 aM1 lM1 ++ wX q d iX0 aX0) 489 [(3, .int 0), (2, .ref (r 0)), (1, .ref (q 0)), (0, .ref b)] [.int 0]
    refine g_aload_n hk dL_law_489 rfl ?_
    refine g_aload_n hk dL_law_490 rfl ?_
    refine g_iload_n hk dL_law_491 rfl ?_
    refine g_iconst (v := 1) hk dL_law_492 (by decide) ?_
    refine g_iadd hk dL_law_493 ?_
    refine g_norm (v := 1) (by decide) ?_
    refine g_sld (v := xs 1) hk hX (vp_in_iff.mpr ⟨by decide, by show (1 : Int) < (L : Int); omega⟩) rfl dL_law_494 ?_
    refine g_aload_n hk dL_law_495 rfl ?_
    refine g_iload_n hk dL_law_496 rfl ?_
    refine g_iconst (v := 2) hk dL_law_497 (by decide) ?_
    refine g_iadd hk dL_law_498 ?_
    refine g_norm (v := 2) (by decide) ?_
    refine g_sld (v := xs 2) hk hX (vp_in_iff.mpr ⟨by decide, by show (2 : Int) < (L : Int); omega⟩) rfl dL_law_499 ?_
    refine g_callV hk (m161_X12_set l D zt g r (xs 1) (xs 2)) (SP.pre _ _) (fun q h => List.mem_append_right _ h) gL_law_X12_set rfl rfl rfl (by decide +kernel) ⟨Nat.le_of_ble_eq_true rfl, Nat.le_of_ble_eq_true rfl⟩ 0 rfl rfl rfl rfl (Nat.le_of_ble_eq_true rfl) ⟨Nat.le_of_ble_eq_true rfl, Nat.le_of_ble_eq_true rfl⟩ dL_law_500 (fun v ty' w' hp hk' => ?_)
    rcases hp with ⟨c2173, rfl, rfl⟩ | ⟨c2174, c2175, rfl, rfl⟩ | ⟨c2176, c2177, c2178, c2179, c2180, rfl, rfl⟩ | ⟨c2181, c2182, c2183, c2184, c2185, c2186, rfl, rfl⟩ | ⟨y2187, c2188, c2189, c2190, c2191, c2192, c2193, rfl, rfl⟩ | ⟨c2194, c2195, c2196, c2197, rfl, rfl⟩ | ⟨c2198, c2199, c2200, c2201, c2202, c2203, rfl, rfl⟩ | ⟨c2204, c2205, c2206, c2207, c2208, c2209, c2210, rfl, rfl⟩ | ⟨y2211, c2212, c2213, c2214, c2215, c2216, c2217, c2218, rfl, rfl⟩ | ⟨c2219, c2220, c2221, c2222, c2223, rfl, rfl⟩ | ⟨c2224, c2225, c2226, c2227, c2228, c2229, c2230, rfl, rfl⟩ | ⟨c2231, c2232, c2233, c2234, c2235, c2236, c2237, c2238, rfl, rfl⟩ | ⟨y2239, c2240, c2241, c2242, c2243, c2244, c2245, c2246, c2247, rfl, rfl⟩ | ⟨c2248, c2249, c2250, c2251, c2252, c2253, rfl, rfl⟩ | ⟨c2254, c2255, c2256, c2257, c2258, c2259, c2260, c2261, rfl, rfl⟩ | ⟨c2262, c2263, c2264, c2265, c2266, c2267, c2268, c2269, c2270, rfl, rfl⟩ | ⟨y2271, c2272, c2273, c2274, c2275, c2276, c2277, c2278, c2279, c2280, rfl, rfl⟩ | ⟨c2281, c2282, c2283, c2284, c2285, c2286, c2287, rfl, rfl⟩
    · show GW κ 4 82 21282 (wX q d iX0 aX0 ++ wM r g iM1 aM1 lM1) 503 [(3, .int 0), (2, .ref (r 0)), (1, .ref (q 0)), (0, .ref b)] [.int 0, .int 0]
      exfalso; omega
    · show GW κ 4 82 21282 (wX q d iX0 aX0 ++ wM r g iM1 aM1 lM1) 503 [(3, .int 0), (2, .ref (r 0)), (1, .ref (q 0)), (0, .ref b)] [.int 0, .int 0]
      exfalso; omega
    · show GW κ 4 82 21282 (wX q d iX0 aX0 ++ wM r g iM1 aM1 lM1) 503 [(3, .int 0), (2, .ref (r 0)), (1, .ref (q 0)), (0, .ref b)] [.int 0, .int 0]
      exfalso; omega
    · show GW κ 4 82 21282 (wX q d iX0 aX0 ++ wM r g iM1 aM1 lM1) 503 [(3, .int 0), (2, .ref (r 0)), (1, .ref (q 0)), (0, .ref b)] [.int 0, .int 0]
      exfalso; omega
    · show GW κ 4 82 21282 (wX q d iX0 aX0 ++ wM r g (upd iM1 22 1) (up2 (up2 (up3 (up2 aM1 18 (cp (aM1 17) (aM1 18) 165)) 18 161 (xs 2)) 22 y2187) 17 (cp ((up2 (up3 (up2 aM1 18 (cp (aM1 17) (aM1 18) 165)) 18 161 (xs 2)) 22 y2187) 18) ((up2 (up3 (up2 aM1 18 (cp (aM1 17) (aM1 18) 165)) 18 161 (xs 2)) 22 y2187) 17) 165)) lM1) 503 [(3, .int 0), (2, .ref (r 0)), (1, .ref (q 0)), (0, .ref b)] [.int 1, .int 0]
      exfalso; omega
    · show GW κ 4 82 21282 (wX q d iX0 aX0 ++ wM r g iM1 aM1 lM1) 503 [(3, .int 0), (2, .ref (r 0)), (1, .ref (q 0)), (0, .ref b)] [.int 0, .int 0]
      exfalso; omega
    · show GW κ 4 82 21282 (wX q d iX0 aX0 ++ wM r g iM1 aM1 lM1) 503 [(3, .int 0), (2, .ref (r 0)), (1, .ref (q 0)), (0, .ref b)] [.int 0, .int 0]
      exfalso; omega
    · show GW κ 4 82 21282 (wX q d iX0 aX0 ++ wM r g iM1 aM1 lM1) 503 [(3, .int 0), (2, .ref (r 0)), (1, .ref (q 0)), (0, .ref b)] [.int 0, .int 0]
      exfalso; omega
    · show GW κ 4 82 21282 (wX q d iX0 aX0 ++ wM r g (upd iM1 22 1) (up2 (up2 (up3 (up2 aM1 18 (cp (aM1 17) (aM1 18) 165)) 18 162 (xs 2)) 22 y2211) 17 (cp ((up2 (up3 (up2 aM1 18 (cp (aM1 17) (aM1 18) 165)) 18 162 (xs 2)) 22 y2211) 18) ((up2 (up3 (up2 aM1 18 (cp (aM1 17) (aM1 18) 165)) 18 162 (xs 2)) 22 y2211) 17) 165)) lM1) 503 [(3, .int 0), (2, .ref (r 0)), (1, .ref (q 0)), (0, .ref b)] [.int 1, .int 0]
      exfalso; omega
    · show GW κ 4 82 21282 (wX q d iX0 aX0 ++ wM r g iM1 aM1 lM1) 503 [(3, .int 0), (2, .ref (r 0)), (1, .ref (q 0)), (0, .ref b)] [.int 0, .int 0]
      exfalso; omega
    · show GW κ 4 82 21282 (wX q d iX0 aX0 ++ wM r g iM1 aM1 lM1) 503 [(3, .int 0), (2, .ref (r 0)), (1, .ref (q 0)), (0, .ref b)] [.int 0, .int 0]
      refine g_icmp_eq (tgt := 1465) (a := 0) (b := 0) hk dL_law_503 (by decide) rfl rfl (fun _ => ?_) (fun z9 => absurd (show 0 = 0 from by decide) z9)
      exact tail _
    · show GW κ 4 82 21282 (wX q d iX0 aX0 ++ wM r g iM1 aM1 lM1) 503 [(3, .int 0), (2, .ref (r 0)), (1, .ref (q 0)), (0, .ref b)] [.int 0, .int 0]
      exfalso; omega
    · show GW κ 4 82 21282 (wX q d iX0 aX0 ++ wM r g (upd iM1 22 1) (up2 (up2 (up3 (up2 aM1 18 (cp (aM1 17) (aM1 18) 165)) 18 163 (xs 2)) 22 y2239) 17 (cp ((up2 (up3 (up2 aM1 18 (cp (aM1 17) (aM1 18) 165)) 18 163 (xs 2)) 22 y2239) 18) ((up2 (up3 (up2 aM1 18 (cp (aM1 17) (aM1 18) 165)) 18 163 (xs 2)) 22 y2239) 17) 165)) lM1) 503 [(3, .int 0), (2, .ref (r 0)), (1, .ref (q 0)), (0, .ref b)] [.int 1, .int 0]
      exfalso; omega
    · show GW κ 4 82 21282 (wX q d iX0 aX0 ++ wM r g iM1 aM1 lM1) 503 [(3, .int 0), (2, .ref (r 0)), (1, .ref (q 0)), (0, .ref b)] [.int 0, .int 0]
      exfalso; omega
    · show GW κ 4 82 21282 (wX q d iX0 aX0 ++ wM r g iM1 aM1 lM1) 503 [(3, .int 0), (2, .ref (r 0)), (1, .ref (q 0)), (0, .ref b)] [.int 0, .int 0]
      exfalso; omega
    · show GW κ 4 82 21282 (wX q d iX0 aX0 ++ wM r g iM1 aM1 lM1) 503 [(3, .int 0), (2, .ref (r 0)), (1, .ref (q 0)), (0, .ref b)] [.int 0, .int 0]
      exfalso; omega
    · show GW κ 4 82 21282 (wX q d iX0 aX0 ++ wM r g (upd iM1 22 1) (up2 (up2 (up3 (up2 aM1 18 (cp (aM1 17) (aM1 18) 165)) 18 164 (xs 2)) 22 y2271) 17 (cp ((up2 (up3 (up2 aM1 18 (cp (aM1 17) (aM1 18) 165)) 18 164 (xs 2)) 22 y2271) 18) ((up2 (up3 (up2 aM1 18 (cp (aM1 17) (aM1 18) 165)) 18 164 (xs 2)) 22 y2271) 17) 165)) lM1) 503 [(3, .int 0), (2, .ref (r 0)), (1, .ref (q 0)), (0, .ref b)] [.int 1, .int 0]
      exfalso; omega
    · show GW κ 4 82 21282 (wX q d iX0 aX0 ++ wM r g iM1 aM1 lM1) 503 [(3, .int 0), (2, .ref (r 0)), (1, .ref (q 0)), (0, .ref b)] [.int 0, .int 0]
      exfalso; omega
  · show GW κ 4 82 21282 (wM r g iM1 aM1 lM1 ++ wX q d iX0 aX0) 489 [(3, .int 0), (2, .ref (r 0)), (1, .ref (q 0)), (0, .ref b)] [.int 0]
    refine g_aload_n hk dL_law_489 rfl ?_
    refine g_aload_n hk dL_law_490 rfl ?_
    refine g_iload_n hk dL_law_491 rfl ?_
    refine g_iconst (v := 1) hk dL_law_492 (by decide) ?_
    refine g_iadd hk dL_law_493 ?_
    refine g_norm (v := 1) (by decide) ?_
    refine g_sld (v := xs 1) hk hX (vp_in_iff.mpr ⟨by decide, by show (1 : Int) < (L : Int); omega⟩) rfl dL_law_494 ?_
    refine g_aload_n hk dL_law_495 rfl ?_
    refine g_iload_n hk dL_law_496 rfl ?_
    refine g_iconst (v := 2) hk dL_law_497 (by decide) ?_
    refine g_iadd hk dL_law_498 ?_
    refine g_norm (v := 2) (by decide) ?_
    refine g_sld (v := xs 2) hk hX (vp_in_iff.mpr ⟨by decide, by show (2 : Int) < (L : Int); omega⟩) rfl dL_law_499 ?_
    refine g_callV hk (m161_X12_set l D zt g r (xs 1) (xs 2)) (SP.pre _ _) (fun q h => List.mem_append_right _ h) gL_law_X12_set rfl rfl rfl (by decide +kernel) ⟨Nat.le_of_ble_eq_true rfl, Nat.le_of_ble_eq_true rfl⟩ 0 rfl rfl rfl rfl (Nat.le_of_ble_eq_true rfl) ⟨Nat.le_of_ble_eq_true rfl, Nat.le_of_ble_eq_true rfl⟩ dL_law_500 (fun v ty' w' hp hk' => ?_)
    rcases hp with ⟨c2288, rfl, rfl⟩ | ⟨c2289, c2290, rfl, rfl⟩ | ⟨c2291, c2292, c2293, c2294, c2295, rfl, rfl⟩ | ⟨c2296, c2297, c2298, c2299, c2300, c2301, rfl, rfl⟩ | ⟨y2302, c2303, c2304, c2305, c2306, c2307, c2308, rfl, rfl⟩ | ⟨c2309, c2310, c2311, c2312, rfl, rfl⟩ | ⟨c2313, c2314, c2315, c2316, c2317, c2318, rfl, rfl⟩ | ⟨c2319, c2320, c2321, c2322, c2323, c2324, c2325, rfl, rfl⟩ | ⟨y2326, c2327, c2328, c2329, c2330, c2331, c2332, c2333, rfl, rfl⟩ | ⟨c2334, c2335, c2336, c2337, c2338, rfl, rfl⟩ | ⟨c2339, c2340, c2341, c2342, c2343, c2344, c2345, rfl, rfl⟩ | ⟨c2346, c2347, c2348, c2349, c2350, c2351, c2352, c2353, rfl, rfl⟩ | ⟨y2354, c2355, c2356, c2357, c2358, c2359, c2360, c2361, c2362, rfl, rfl⟩ | ⟨c2363, c2364, c2365, c2366, c2367, c2368, rfl, rfl⟩ | ⟨c2369, c2370, c2371, c2372, c2373, c2374, c2375, c2376, rfl, rfl⟩ | ⟨c2377, c2378, c2379, c2380, c2381, c2382, c2383, c2384, c2385, rfl, rfl⟩ | ⟨y2386, c2387, c2388, c2389, c2390, c2391, c2392, c2393, c2394, c2395, rfl, rfl⟩ | ⟨c2396, c2397, c2398, c2399, c2400, c2401, c2402, rfl, rfl⟩
    · show GW κ 4 82 21282 (wX q d iX0 aX0 ++ wM r g iM1 aM1 lM1) 503 [(3, .int 0), (2, .ref (r 0)), (1, .ref (q 0)), (0, .ref b)] [.int 0, .int 0]
      exfalso; omega
    · show GW κ 4 82 21282 (wX q d iX0 aX0 ++ wM r g iM1 aM1 lM1) 503 [(3, .int 0), (2, .ref (r 0)), (1, .ref (q 0)), (0, .ref b)] [.int 0, .int 0]
      exfalso; omega
    · show GW κ 4 82 21282 (wX q d iX0 aX0 ++ wM r g iM1 aM1 lM1) 503 [(3, .int 0), (2, .ref (r 0)), (1, .ref (q 0)), (0, .ref b)] [.int 0, .int 0]
      exfalso; omega
    · show GW κ 4 82 21282 (wX q d iX0 aX0 ++ wM r g iM1 aM1 lM1) 503 [(3, .int 0), (2, .ref (r 0)), (1, .ref (q 0)), (0, .ref b)] [.int 0, .int 0]
      exfalso; omega
    · show GW κ 4 82 21282 (wX q d iX0 aX0 ++ wM r g (upd iM1 22 1) (up2 (up2 (up3 (up2 aM1 18 (cp (aM1 17) (aM1 18) 165)) 18 161 (xs 2)) 22 y2302) 17 (cp ((up2 (up3 (up2 aM1 18 (cp (aM1 17) (aM1 18) 165)) 18 161 (xs 2)) 22 y2302) 18) ((up2 (up3 (up2 aM1 18 (cp (aM1 17) (aM1 18) 165)) 18 161 (xs 2)) 22 y2302) 17) 165)) lM1) 503 [(3, .int 0), (2, .ref (r 0)), (1, .ref (q 0)), (0, .ref b)] [.int 1, .int 0]
      exfalso; omega
    · show GW κ 4 82 21282 (wX q d iX0 aX0 ++ wM r g iM1 aM1 lM1) 503 [(3, .int 0), (2, .ref (r 0)), (1, .ref (q 0)), (0, .ref b)] [.int 0, .int 0]
      exfalso; omega
    · show GW κ 4 82 21282 (wX q d iX0 aX0 ++ wM r g iM1 aM1 lM1) 503 [(3, .int 0), (2, .ref (r 0)), (1, .ref (q 0)), (0, .ref b)] [.int 0, .int 0]
      exfalso; omega
    · show GW κ 4 82 21282 (wX q d iX0 aX0 ++ wM r g iM1 aM1 lM1) 503 [(3, .int 0), (2, .ref (r 0)), (1, .ref (q 0)), (0, .ref b)] [.int 0, .int 0]
      exfalso; omega
    · show GW κ 4 82 21282 (wX q d iX0 aX0 ++ wM r g (upd iM1 22 1) (up2 (up2 (up3 (up2 aM1 18 (cp (aM1 17) (aM1 18) 165)) 18 162 (xs 2)) 22 y2326) 17 (cp ((up2 (up3 (up2 aM1 18 (cp (aM1 17) (aM1 18) 165)) 18 162 (xs 2)) 22 y2326) 18) ((up2 (up3 (up2 aM1 18 (cp (aM1 17) (aM1 18) 165)) 18 162 (xs 2)) 22 y2326) 17) 165)) lM1) 503 [(3, .int 0), (2, .ref (r 0)), (1, .ref (q 0)), (0, .ref b)] [.int 1, .int 0]
      exfalso; omega
    · show GW κ 4 82 21282 (wX q d iX0 aX0 ++ wM r g iM1 aM1 lM1) 503 [(3, .int 0), (2, .ref (r 0)), (1, .ref (q 0)), (0, .ref b)] [.int 0, .int 0]
      exfalso; omega
    · show GW κ 4 82 21282 (wX q d iX0 aX0 ++ wM r g iM1 aM1 lM1) 503 [(3, .int 0), (2, .ref (r 0)), (1, .ref (q 0)), (0, .ref b)] [.int 0, .int 0]
      exfalso; omega
    · show GW κ 4 82 21282 (wX q d iX0 aX0 ++ wM r g iM1 aM1 lM1) 503 [(3, .int 0), (2, .ref (r 0)), (1, .ref (q 0)), (0, .ref b)] [.int 0, .int 0]
      refine g_icmp_eq (tgt := 1465) (a := 0) (b := 0) hk dL_law_503 (by decide) rfl rfl (fun _ => ?_) (fun z9 => absurd (show 0 = 0 from by decide) z9)
      exact tail _
    · show GW κ 4 82 21282 (wX q d iX0 aX0 ++ wM r g (upd iM1 22 1) (up2 (up2 (up3 (up2 aM1 18 (cp (aM1 17) (aM1 18) 165)) 18 163 (xs 2)) 22 y2354) 17 (cp ((up2 (up3 (up2 aM1 18 (cp (aM1 17) (aM1 18) 165)) 18 163 (xs 2)) 22 y2354) 18) ((up2 (up3 (up2 aM1 18 (cp (aM1 17) (aM1 18) 165)) 18 163 (xs 2)) 22 y2354) 17) 165)) lM1) 503 [(3, .int 0), (2, .ref (r 0)), (1, .ref (q 0)), (0, .ref b)] [.int 1, .int 0]
      exfalso; omega
    · show GW κ 4 82 21282 (wX q d iX0 aX0 ++ wM r g iM1 aM1 lM1) 503 [(3, .int 0), (2, .ref (r 0)), (1, .ref (q 0)), (0, .ref b)] [.int 0, .int 0]
      exfalso; omega
    · show GW κ 4 82 21282 (wX q d iX0 aX0 ++ wM r g iM1 aM1 lM1) 503 [(3, .int 0), (2, .ref (r 0)), (1, .ref (q 0)), (0, .ref b)] [.int 0, .int 0]
      exfalso; omega
    · show GW κ 4 82 21282 (wX q d iX0 aX0 ++ wM r g iM1 aM1 lM1) 503 [(3, .int 0), (2, .ref (r 0)), (1, .ref (q 0)), (0, .ref b)] [.int 0, .int 0]
      exfalso; omega
    · show GW κ 4 82 21282 (wX q d iX0 aX0 ++ wM r g (upd iM1 22 1) (up2 (up2 (up3 (up2 aM1 18 (cp (aM1 17) (aM1 18) 165)) 18 164 (xs 2)) 22 y2386) 17 (cp ((up2 (up3 (up2 aM1 18 (cp (aM1 17) (aM1 18) 165)) 18 164 (xs 2)) 22 y2386) 18) ((up2 (up3 (up2 aM1 18 (cp (aM1 17) (aM1 18) 165)) 18 164 (xs 2)) 22 y2386) 17) 165)) lM1) 503 [(3, .int 0), (2, .ref (r 0)), (1, .ref (q 0)), (0, .ref b)] [.int 1, .int 0]
      exfalso; omega
    · show GW κ 4 82 21282 (wX q d iX0 aX0 ++ wM r g iM1 aM1 lM1) 503 [(3, .int 0), (2, .ref (r 0)), (1, .ref (q 0)), (0, .ref b)] [.int 0, .int 0]
      exfalso; omega
  · show GW κ 4 82 21282 (wM r g iM1 aM1 lM1 ++ wX q d (upd (upd iX0 20 1) 21 1) (up3 (up3 (up3 aX0 10 2 (xs 1)) 11 0 3) 12 0 (xs 1))) 489 [(3, .int 0), (2, .ref (r 0)), (1, .ref (q 0)), (0, .ref b)] [.int 1]
    refine g_aload_n hk dL_law_489 rfl ?_
    refine g_aload_n hk dL_law_490 rfl ?_
    refine g_iload_n hk dL_law_491 rfl ?_
    refine g_iconst (v := 1) hk dL_law_492 (by decide) ?_
    refine g_iadd hk dL_law_493 ?_
    refine g_norm (v := 1) (by decide) ?_
    refine g_sld (v := xs 1) hk hX (vp_in_iff.mpr ⟨by decide, by show (1 : Int) < (L : Int); omega⟩) rfl dL_law_494 ?_
    refine g_aload_n hk dL_law_495 rfl ?_
    refine g_iload_n hk dL_law_496 rfl ?_
    refine g_iconst (v := 2) hk dL_law_497 (by decide) ?_
    refine g_iadd hk dL_law_498 ?_
    refine g_norm (v := 2) (by decide) ?_
    refine g_sld (v := xs 2) hk hX (vp_in_iff.mpr ⟨by decide, by show (2 : Int) < (L : Int); omega⟩) rfl dL_law_499 ?_
    refine g_callV hk (m161_X12_set l D zt g r (xs 1) (xs 2)) (SP.pre _ _) (fun q h => List.mem_append_right _ h) gL_law_X12_set rfl rfl rfl (by decide +kernel) ⟨Nat.le_of_ble_eq_true rfl, Nat.le_of_ble_eq_true rfl⟩ 0 rfl rfl rfl rfl (Nat.le_of_ble_eq_true rfl) ⟨Nat.le_of_ble_eq_true rfl, Nat.le_of_ble_eq_true rfl⟩ dL_law_500 (fun v ty' w' hp hk' => ?_)
    rcases hp with ⟨c2403, rfl, rfl⟩ | ⟨c2404, c2405, rfl, rfl⟩ | ⟨c2406, c2407, c2408, c2409, c2410, rfl, rfl⟩ | ⟨c2411, c2412, c2413, c2414, c2415, c2416, rfl, rfl⟩ | ⟨y2417, c2418, c2419, c2420, c2421, c2422, c2423, rfl, rfl⟩ | ⟨c2424, c2425, c2426, c2427, rfl, rfl⟩ | ⟨c2428, c2429, c2430, c2431, c2432, c2433, rfl, rfl⟩ | ⟨c2434, c2435, c2436, c2437, c2438, c2439, c2440, rfl, rfl⟩ | ⟨y2441, c2442, c2443, c2444, c2445, c2446, c2447, c2448, rfl, rfl⟩ | ⟨c2449, c2450, c2451, c2452, c2453, rfl, rfl⟩ | ⟨c2454, c2455, c2456, c2457, c2458, c2459, c2460, rfl, rfl⟩ | ⟨c2461, c2462, c2463, c2464, c2465, c2466, c2467, c2468, rfl, rfl⟩ | ⟨y2469, c2470, c2471, c2472, c2473, c2474, c2475, c2476, c2477, rfl, rfl⟩ | ⟨c2478, c2479, c2480, c2481, c2482, c2483, rfl, rfl⟩ | ⟨c2484, c2485, c2486, c2487, c2488, c2489, c2490, c2491, rfl, rfl⟩ | ⟨c2492, c2493, c2494, c2495, c2496, c2497, c2498, c2499, c2500, rfl, rfl⟩ | ⟨y2501, c2502, c2503, c2504, c2505, c2506, c2507, c2508, c2509, c2510, rfl, rfl⟩ | ⟨c2511, c2512, c2513, c2514, c2515, c2516, c2517, rfl, rfl⟩
    · show GW κ 4 82 21282 (wX q d (upd (upd iX0 20 1) 21 1) (up3 (up3 (up3 aX0 10 2 (xs 1)) 11 0 3) 12 0 (xs 1)) ++ wM r g iM1 aM1 lM1) 503 [(3, .int 0), (2, .ref (r 0)), (1, .ref (q 0)), (0, .ref b)] [.int 0, .int 1]
      exfalso; omega
    · show GW κ 4 82 21282 (wX q d (upd (upd iX0 20 1) 21 1) (up3 (up3 (up3 aX0 10 2 (xs 1)) 11 0 3) 12 0 (xs 1)) ++ wM r g iM1 aM1 lM1) 503 [(3, .int 0), (2, .ref (r 0)), (1, .ref (q 0)), (0, .ref b)] [.int 0, .int 1]
      exfalso; omega
    · show GW κ 4 82 21282 (wX q d (upd (upd iX0 20 1) 21 1) (up3 (up3 (up3 aX0 10 2 (xs 1)) 11 0 3) 12 0 (xs 1)) ++ wM r g iM1 aM1 lM1) 503 [(3, .int 0), (2, .ref (r 0)), (1, .ref (q 0)), (0, .ref b)] [.int 0, .int 1]
      exfalso; omega
    · show GW κ 4 82 21282 (wX q d (upd (upd iX0 20 1) 21 1) (up3 (up3 (up3 aX0 10 2 (xs 1)) 11 0 3) 12 0 (xs 1)) ++ wM r g iM1 aM1 lM1) 503 [(3, .int 0), (2, .ref (r 0)), (1, .ref (q 0)), (0, .ref b)] [.int 0, .int 1]
      exfalso; omega
    · show GW κ 4 82 21282 (wX q d (upd (upd iX0 20 1) 21 1) (up3 (up3 (up3 aX0 10 2 (xs 1)) 11 0 3) 12 0 (xs 1)) ++ wM r g (upd iM1 22 1) (up2 (up2 (up3 (up2 aM1 18 (cp (aM1 17) (aM1 18) 165)) 18 161 (xs 2)) 22 y2417) 17 (cp ((up2 (up3 (up2 aM1 18 (cp (aM1 17) (aM1 18) 165)) 18 161 (xs 2)) 22 y2417) 18) ((up2 (up3 (up2 aM1 18 (cp (aM1 17) (aM1 18) 165)) 18 161 (xs 2)) 22 y2417) 17) 165)) lM1) 503 [(3, .int 0), (2, .ref (r 0)), (1, .ref (q 0)), (0, .ref b)] [.int 1, .int 1]
      exfalso; omega
    · show GW κ 4 82 21282 (wX q d (upd (upd iX0 20 1) 21 1) (up3 (up3 (up3 aX0 10 2 (xs 1)) 11 0 3) 12 0 (xs 1)) ++ wM r g iM1 aM1 lM1) 503 [(3, .int 0), (2, .ref (r 0)), (1, .ref (q 0)), (0, .ref b)] [.int 0, .int 1]
      exfalso; omega
    · show GW κ 4 82 21282 (wX q d (upd (upd iX0 20 1) 21 1) (up3 (up3 (up3 aX0 10 2 (xs 1)) 11 0 3) 12 0 (xs 1)) ++ wM r g iM1 aM1 lM1) 503 [(3, .int 0), (2, .ref (r 0)), (1, .ref (q 0)), (0, .ref b)] [.int 0, .int 1]
      exfalso; omega
    · show GW κ 4 82 21282 (wX q d (upd (upd iX0 20 1) 21 1) (up3 (up3 (up3 aX0 10 2 (xs 1)) 11 0 3) 12 0 (xs 1)) ++ wM r g iM1 aM1 lM1) 503 [(3, .int 0), (2, .ref (r 0)), (1, .ref (q 0)), (0, .ref b)] [.int 0, .int 1]
      exfalso; omega
    · show GW κ 4 82 21282 (wX q d (upd (upd iX0 20 1) 21 1) (up3 (up3 (up3 aX0 10 2 (xs 1)) 11 0 3) 12 0 (xs 1)) ++ wM r g (upd iM1 22 1) (up2 (up2 (up3 (up2 aM1 18 (cp (aM1 17) (aM1 18) 165)) 18 162 (xs 2)) 22 y2441) 17 (cp ((up2 (up3 (up2 aM1 18 (cp (aM1 17) (aM1 18) 165)) 18 162 (xs 2)) 22 y2441) 18) ((up2 (up3 (up2 aM1 18 (cp (aM1 17) (aM1 18) 165)) 18 162 (xs 2)) 22 y2441) 17) 165)) lM1) 503 [(3, .int 0), (2, .ref (r 0)), (1, .ref (q 0)), (0, .ref b)] [.int 1, .int 1]
      exfalso; omega
    · show GW κ 4 82 21282 (wX q d (upd (upd iX0 20 1) 21 1) (up3 (up3 (up3 aX0 10 2 (xs 1)) 11 0 3) 12 0 (xs 1)) ++ wM r g iM1 aM1 lM1) 503 [(3, .int 0), (2, .ref (r 0)), (1, .ref (q 0)), (0, .ref b)] [.int 0, .int 1]
      exfalso; omega
    · show GW κ 4 82 21282 (wX q d (upd (upd iX0 20 1) 21 1) (up3 (up3 (up3 aX0 10 2 (xs 1)) 11 0 3) 12 0 (xs 1)) ++ wM r g iM1 aM1 lM1) 503 [(3, .int 0), (2, .ref (r 0)), (1, .ref (q 0)), (0, .ref b)] [.int 0, .int 1]
      exfalso; omega
    · show GW κ 4 82 21282 (wX q d (upd (upd iX0 20 1) 21 1) (up3 (up3 (up3 aX0 10 2 (xs 1)) 11 0 3) 12 0 (xs 1)) ++ wM r g iM1 aM1 lM1) 503 [(3, .int 0), (2, .ref (r 0)), (1, .ref (q 0)), (0, .ref b)] [.int 0, .int 1]
      exfalso; omega
    · show GW κ 4 82 21282 (wX q d (upd (upd iX0 20 1) 21 1) (up3 (up3 (up3 aX0 10 2 (xs 1)) 11 0 3) 12 0 (xs 1)) ++ wM r g (upd iM1 22 1) (up2 (up2 (up3 (up2 aM1 18 (cp (aM1 17) (aM1 18) 165)) 18 163 (xs 2)) 22 y2469) 17 (cp ((up2 (up3 (up2 aM1 18 (cp (aM1 17) (aM1 18) 165)) 18 163 (xs 2)) 22 y2469) 18) ((up2 (up3 (up2 aM1 18 (cp (aM1 17) (aM1 18) 165)) 18 163 (xs 2)) 22 y2469) 17) 165)) lM1) 503 [(3, .int 0), (2, .ref (r 0)), (1, .ref (q 0)), (0, .ref b)] [.int 1, .int 1]
      refine g_icmp_eq (tgt := 1465) (a := 1) (b := 1) hk dL_law_503 (by decide) rfl rfl (fun _ => ?_) (fun z9 => absurd (show 1 = 1 from by decide) z9)
      exact tail _
    · show GW κ 4 82 21282 (wX q d (upd (upd iX0 20 1) 21 1) (up3 (up3 (up3 aX0 10 2 (xs 1)) 11 0 3) 12 0 (xs 1)) ++ wM r g iM1 aM1 lM1) 503 [(3, .int 0), (2, .ref (r 0)), (1, .ref (q 0)), (0, .ref b)] [.int 0, .int 1]
      exfalso; omega
    · show GW κ 4 82 21282 (wX q d (upd (upd iX0 20 1) 21 1) (up3 (up3 (up3 aX0 10 2 (xs 1)) 11 0 3) 12 0 (xs 1)) ++ wM r g iM1 aM1 lM1) 503 [(3, .int 0), (2, .ref (r 0)), (1, .ref (q 0)), (0, .ref b)] [.int 0, .int 1]
      exfalso; omega
    · show GW κ 4 82 21282 (wX q d (upd (upd iX0 20 1) 21 1) (up3 (up3 (up3 aX0 10 2 (xs 1)) 11 0 3) 12 0 (xs 1)) ++ wM r g iM1 aM1 lM1) 503 [(3, .int 0), (2, .ref (r 0)), (1, .ref (q 0)), (0, .ref b)] [.int 0, .int 1]
      exfalso; omega
    · show GW κ 4 82 21282 (wX q d (upd (upd iX0 20 1) 21 1) (up3 (up3 (up3 aX0 10 2 (xs 1)) 11 0 3) 12 0 (xs 1)) ++ wM r g (upd iM1 22 1) (up2 (up2 (up3 (up2 aM1 18 (cp (aM1 17) (aM1 18) 165)) 18 164 (xs 2)) 22 y2501) 17 (cp ((up2 (up3 (up2 aM1 18 (cp (aM1 17) (aM1 18) 165)) 18 164 (xs 2)) 22 y2501) 18) ((up2 (up3 (up2 aM1 18 (cp (aM1 17) (aM1 18) 165)) 18 164 (xs 2)) 22 y2501) 17) 165)) lM1) 503 [(3, .int 0), (2, .ref (r 0)), (1, .ref (q 0)), (0, .ref b)] [.int 1, .int 1]
      exfalso; omega
    · show GW κ 4 82 21282 (wX q d (upd (upd iX0 20 1) 21 1) (up3 (up3 (up3 aX0 10 2 (xs 1)) 11 0 3) 12 0 (xs 1)) ++ wM r g iM1 aM1 lM1) 503 [(3, .int 0), (2, .ref (r 0)), (1, .ref (q 0)), (0, .ref b)] [.int 0, .int 1]
      exfalso; omega
  · show GW κ 4 82 21282 (wM r g iM1 aM1 lM1 ++ wX q d iX0 aX0) 489 [(3, .int 0), (2, .ref (r 0)), (1, .ref (q 0)), (0, .ref b)] [.int 0]
    refine g_aload_n hk dL_law_489 rfl ?_
    refine g_aload_n hk dL_law_490 rfl ?_
    refine g_iload_n hk dL_law_491 rfl ?_
    refine g_iconst (v := 1) hk dL_law_492 (by decide) ?_
    refine g_iadd hk dL_law_493 ?_
    refine g_norm (v := 1) (by decide) ?_
    refine g_sld (v := xs 1) hk hX (vp_in_iff.mpr ⟨by decide, by show (1 : Int) < (L : Int); omega⟩) rfl dL_law_494 ?_
    refine g_aload_n hk dL_law_495 rfl ?_
    refine g_iload_n hk dL_law_496 rfl ?_
    refine g_iconst (v := 2) hk dL_law_497 (by decide) ?_
    refine g_iadd hk dL_law_498 ?_
    refine g_norm (v := 2) (by decide) ?_
    refine g_sld (v := xs 2) hk hX (vp_in_iff.mpr ⟨by decide, by show (2 : Int) < (L : Int); omega⟩) rfl dL_law_499 ?_
    refine g_callV hk (m161_X12_set l D zt g r (xs 1) (xs 2)) (SP.pre _ _) (fun q h => List.mem_append_right _ h) gL_law_X12_set rfl rfl rfl (by decide +kernel) ⟨Nat.le_of_ble_eq_true rfl, Nat.le_of_ble_eq_true rfl⟩ 0 rfl rfl rfl rfl (Nat.le_of_ble_eq_true rfl) ⟨Nat.le_of_ble_eq_true rfl, Nat.le_of_ble_eq_true rfl⟩ dL_law_500 (fun v ty' w' hp hk' => ?_)
    rcases hp with ⟨c2518, rfl, rfl⟩ | ⟨c2519, c2520, rfl, rfl⟩ | ⟨c2521, c2522, c2523, c2524, c2525, rfl, rfl⟩ | ⟨c2526, c2527, c2528, c2529, c2530, c2531, rfl, rfl⟩ | ⟨y2532, c2533, c2534, c2535, c2536, c2537, c2538, rfl, rfl⟩ | ⟨c2539, c2540, c2541, c2542, rfl, rfl⟩ | ⟨c2543, c2544, c2545, c2546, c2547, c2548, rfl, rfl⟩ | ⟨c2549, c2550, c2551, c2552, c2553, c2554, c2555, rfl, rfl⟩ | ⟨y2556, c2557, c2558, c2559, c2560, c2561, c2562, c2563, rfl, rfl⟩ | ⟨c2564, c2565, c2566, c2567, c2568, rfl, rfl⟩ | ⟨c2569, c2570, c2571, c2572, c2573, c2574, c2575, rfl, rfl⟩ | ⟨c2576, c2577, c2578, c2579, c2580, c2581, c2582, c2583, rfl, rfl⟩ | ⟨y2584, c2585, c2586, c2587, c2588, c2589, c2590, c2591, c2592, rfl, rfl⟩ | ⟨c2593, c2594, c2595, c2596, c2597, c2598, rfl, rfl⟩ | ⟨c2599, c2600, c2601, c2602, c2603, c2604, c2605, c2606, rfl, rfl⟩ | ⟨c2607, c2608, c2609, c2610, c2611, c2612, c2613, c2614, c2615, rfl, rfl⟩ | ⟨y2616, c2617, c2618, c2619, c2620, c2621, c2622, c2623, c2624, c2625, rfl, rfl⟩ | ⟨c2626, c2627, c2628, c2629, c2630, c2631, c2632, rfl, rfl⟩
    · show GW κ 4 82 21282 (wX q d iX0 aX0 ++ wM r g iM1 aM1 lM1) 503 [(3, .int 0), (2, .ref (r 0)), (1, .ref (q 0)), (0, .ref b)] [.int 0, .int 0]
      exfalso; omega
    · show GW κ 4 82 21282 (wX q d iX0 aX0 ++ wM r g iM1 aM1 lM1) 503 [(3, .int 0), (2, .ref (r 0)), (1, .ref (q 0)), (0, .ref b)] [.int 0, .int 0]
      exfalso; omega
    · show GW κ 4 82 21282 (wX q d iX0 aX0 ++ wM r g iM1 aM1 lM1) 503 [(3, .int 0), (2, .ref (r 0)), (1, .ref (q 0)), (0, .ref b)] [.int 0, .int 0]
      exfalso; omega
    · show GW κ 4 82 21282 (wX q d iX0 aX0 ++ wM r g iM1 aM1 lM1) 503 [(3, .int 0), (2, .ref (r 0)), (1, .ref (q 0)), (0, .ref b)] [.int 0, .int 0]
      exfalso; omega
    · show GW κ 4 82 21282 (wX q d iX0 aX0 ++ wM r g (upd iM1 22 1) (up2 (up2 (up3 (up2 aM1 18 (cp (aM1 17) (aM1 18) 165)) 18 161 (xs 2)) 22 y2532) 17 (cp ((up2 (up3 (up2 aM1 18 (cp (aM1 17) (aM1 18) 165)) 18 161 (xs 2)) 22 y2532) 18) ((up2 (up3 (up2 aM1 18 (cp (aM1 17) (aM1 18) 165)) 18 161 (xs 2)) 22 y2532) 17) 165)) lM1) 503 [(3, .int 0), (2, .ref (r 0)), (1, .ref (q 0)), (0, .ref b)] [.int 1, .int 0]
      exfalso; omega
    · show GW κ 4 82 21282 (wX q d iX0 aX0 ++ wM r g iM1 aM1 lM1) 503 [(3, .int 0), (2, .ref (r 0)), (1, .ref (q 0)), (0, .ref b)] [.int 0, .int 0]
      exfalso; omega
    · show GW κ 4 82 21282 (wX q d iX0 aX0 ++ wM r g iM1 aM1 lM1) 503 [(3, .int 0), (2, .ref (r 0)), (1, .ref (q 0)), (0, .ref b)] [.int 0, .int 0]
      exfalso; omega
    · show GW κ 4 82 21282 (wX q d iX0 aX0 ++ wM r g iM1 aM1 lM1) 503 [(3, .int 0), (2, .ref (r 0)), (1, .ref (q 0)), (0, .ref b)] [.int 0, .int 0]
      exfalso; omega
    · show GW κ 4 82 21282 (wX q d iX0 aX0 ++ wM r g (upd iM1 22 1) (up2 (up2 (up3 (up2 aM1 18 (cp (aM1 17) (aM1 18) 165)) 18 162 (xs 2)) 22 y2556) 17 (cp ((up2 (up3 (up2 aM1 18 (cp (aM1 17) (aM1 18) 165)) 18 162 (xs 2)) 22 y2556) 18) ((up2 (up3 (up2 aM1 18 (cp (aM1 17) (aM1 18) 165)) 18 162 (xs 2)) 22 y2556) 17) 165)) lM1) 503 [(3, .int 0), (2, .ref (r 0)), (1, .ref (q 0)), (0, .ref b)] [.int 1, .int 0]
      exfalso; omega
    · show GW κ 4 82 21282 (wX q d iX0 aX0 ++ wM r g iM1 aM1 lM1) 503 [(3, .int 0), (2, .ref (r 0)), (1, .ref (q 0)), (0, .ref b)] [.int 0, .int 0]
      exfalso; omega
    · show GW κ 4 82 21282 (wX q d iX0 aX0 ++ wM r g iM1 aM1 lM1) 503 [(3, .int 0), (2, .ref (r 0)), (1, .ref (q 0)), (0, .ref b)] [.int 0, .int 0]
      exfalso; omega
    · show GW κ 4 82 21282 (wX q d iX0 aX0 ++ wM r g iM1 aM1 lM1) 503 [(3, .int 0), (2, .ref (r 0)), (1, .ref (q 0)), (0, .ref b)] [.int 0, .int 0]
      exfalso; omega
    · show GW κ 4 82 21282 (wX q d iX0 aX0 ++ wM r g (upd iM1 22 1) (up2 (up2 (up3 (up2 aM1 18 (cp (aM1 17) (aM1 18) 165)) 18 163 (xs 2)) 22 y2584) 17 (cp ((up2 (up3 (up2 aM1 18 (cp (aM1 17) (aM1 18) 165)) 18 163 (xs 2)) 22 y2584) 18) ((up2 (up3 (up2 aM1 18 (cp (aM1 17) (aM1 18) 165)) 18 163 (xs 2)) 22 y2584) 17) 165)) lM1) 503 [(3, .int 0), (2, .ref (r 0)), (1, .ref (q 0)), (0, .ref b)] [.int 1, .int 0]
      exfalso; omega
    · show GW κ 4 82 21282 (wX q d iX0 aX0 ++ wM r g iM1 aM1 lM1) 503 [(3, .int 0), (2, .ref (r 0)), (1, .ref (q 0)), (0, .ref b)] [.int 0, .int 0]
      refine g_icmp_eq (tgt := 1465) (a := 0) (b := 0) hk dL_law_503 (by decide) rfl rfl (fun _ => ?_) (fun z9 => absurd (show 0 = 0 from by decide) z9)
      exact tail _
    · show GW κ 4 82 21282 (wX q d iX0 aX0 ++ wM r g iM1 aM1 lM1) 503 [(3, .int 0), (2, .ref (r 0)), (1, .ref (q 0)), (0, .ref b)] [.int 0, .int 0]
      exfalso; omega
    · show GW κ 4 82 21282 (wX q d iX0 aX0 ++ wM r g iM1 aM1 lM1) 503 [(3, .int 0), (2, .ref (r 0)), (1, .ref (q 0)), (0, .ref b)] [.int 0, .int 0]
      exfalso; omega
    · show GW κ 4 82 21282 (wX q d iX0 aX0 ++ wM r g (upd iM1 22 1) (up2 (up2 (up3 (up2 aM1 18 (cp (aM1 17) (aM1 18) 165)) 18 164 (xs 2)) 22 y2616) 17 (cp ((up2 (up3 (up2 aM1 18 (cp (aM1 17) (aM1 18) 165)) 18 164 (xs 2)) 22 y2616) 18) ((up2 (up3 (up2 aM1 18 (cp (aM1 17) (aM1 18) 165)) 18 164 (xs 2)) 22 y2616) 17) 165)) lM1) 503 [(3, .int 0), (2, .ref (r 0)), (1, .ref (q 0)), (0, .ref b)] [.int 1, .int 0]
      exfalso; omega
    · show GW κ 4 82 21282 (wX q d iX0 aX0 ++ wM r g iM1 aM1 lM1) 503 [(3, .int 0), (2, .ref (r 0)), (1, .ref (q 0)), (0, .ref b)] [.int 0, .int 0]
      exfalso; omega
  · show GW κ 4 82 21282 (wM r g iM1 aM1 lM1 ++ wX q d iX0 aX0) 489 [(3, .int 0), (2, .ref (r 0)), (1, .ref (q 0)), (0, .ref b)] [.int 0]
    refine g_aload_n hk dL_law_489 rfl ?_
    refine g_aload_n hk dL_law_490 rfl ?_
    refine g_iload_n hk dL_law_491 rfl ?_
    refine g_iconst (v := 1) hk dL_law_492 (by decide) ?_
    refine g_iadd hk dL_law_493 ?_
    refine g_norm (v := 1) (by decide) ?_
    refine g_sld (v := xs 1) hk hX (vp_in_iff.mpr ⟨by decide, by show (1 : Int) < (L : Int); omega⟩) rfl dL_law_494 ?_
    refine g_aload_n hk dL_law_495 rfl ?_
    refine g_iload_n hk dL_law_496 rfl ?_
    refine g_iconst (v := 2) hk dL_law_497 (by decide) ?_
    refine g_iadd hk dL_law_498 ?_
    refine g_norm (v := 2) (by decide) ?_
    refine g_sld (v := xs 2) hk hX (vp_in_iff.mpr ⟨by decide, by show (2 : Int) < (L : Int); omega⟩) rfl dL_law_499 ?_
    refine g_callV hk (m161_X12_set l D zt g r (xs 1) (xs 2)) (SP.pre _ _) (fun q h => List.mem_append_right _ h) gL_law_X12_set rfl rfl rfl (by decide +kernel) ⟨Nat.le_of_ble_eq_true rfl, Nat.le_of_ble_eq_true rfl⟩ 0 rfl rfl rfl rfl (Nat.le_of_ble_eq_true rfl) ⟨Nat.le_of_ble_eq_true rfl, Nat.le_of_ble_eq_true rfl⟩ dL_law_500 (fun v ty' w' hp hk' => ?_)
    rcases hp with ⟨c2633, rfl, rfl⟩ | ⟨c2634, c2635, rfl, rfl⟩ | ⟨c2636, c2637, c2638, c2639, c2640, rfl, rfl⟩ | ⟨c2641, c2642, c2643, c2644, c2645, c2646, rfl, rfl⟩ | ⟨y2647, c2648, c2649, c2650, c2651, c2652, c2653, rfl, rfl⟩ | ⟨c2654, c2655, c2656, c2657, rfl, rfl⟩ | ⟨c2658, c2659, c2660, c2661, c2662, c2663, rfl, rfl⟩ | ⟨c2664, c2665, c2666, c2667, c2668, c2669, c2670, rfl, rfl⟩ | ⟨y2671, c2672, c2673, c2674, c2675, c2676, c2677, c2678, rfl, rfl⟩ | ⟨c2679, c2680, c2681, c2682, c2683, rfl, rfl⟩ | ⟨c2684, c2685, c2686, c2687, c2688, c2689, c2690, rfl, rfl⟩ | ⟨c2691, c2692, c2693, c2694, c2695, c2696, c2697, c2698, rfl, rfl⟩ | ⟨y2699, c2700, c2701, c2702, c2703, c2704, c2705, c2706, c2707, rfl, rfl⟩ | ⟨c2708, c2709, c2710, c2711, c2712, c2713, rfl, rfl⟩ | ⟨c2714, c2715, c2716, c2717, c2718, c2719, c2720, c2721, rfl, rfl⟩ | ⟨c2722, c2723, c2724, c2725, c2726, c2727, c2728, c2729, c2730, rfl, rfl⟩ | ⟨y2731, c2732, c2733, c2734, c2735, c2736, c2737, c2738, c2739, c2740, rfl, rfl⟩ | ⟨c2741, c2742, c2743, c2744, c2745, c2746, c2747, rfl, rfl⟩
    · show GW κ 4 82 21282 (wX q d iX0 aX0 ++ wM r g iM1 aM1 lM1) 503 [(3, .int 0), (2, .ref (r 0)), (1, .ref (q 0)), (0, .ref b)] [.int 0, .int 0]
      exfalso; omega
    · show GW κ 4 82 21282 (wX q d iX0 aX0 ++ wM r g iM1 aM1 lM1) 503 [(3, .int 0), (2, .ref (r 0)), (1, .ref (q 0)), (0, .ref b)] [.int 0, .int 0]
      exfalso; omega
    · show GW κ 4 82 21282 (wX q d iX0 aX0 ++ wM r g iM1 aM1 lM1) 503 [(3, .int 0), (2, .ref (r 0)), (1, .ref (q 0)), (0, .ref b)] [.int 0, .int 0]
      exfalso; omega
    · show GW κ 4 82 21282 (wX q d iX0 aX0 ++ wM r g iM1 aM1 lM1) 503 [(3, .int 0), (2, .ref (r 0)), (1, .ref (q 0)), (0, .ref b)] [.int 0, .int 0]
      exfalso; omega
    · show GW κ 4 82 21282 (wX q d iX0 aX0 ++ wM r g (upd iM1 22 1) (up2 (up2 (up3 (up2 aM1 18 (cp (aM1 17) (aM1 18) 165)) 18 161 (xs 2)) 22 y2647) 17 (cp ((up2 (up3 (up2 aM1 18 (cp (aM1 17) (aM1 18) 165)) 18 161 (xs 2)) 22 y2647) 18) ((up2 (up3 (up2 aM1 18 (cp (aM1 17) (aM1 18) 165)) 18 161 (xs 2)) 22 y2647) 17) 165)) lM1) 503 [(3, .int 0), (2, .ref (r 0)), (1, .ref (q 0)), (0, .ref b)] [.int 1, .int 0]
      exfalso; omega
    · show GW κ 4 82 21282 (wX q d iX0 aX0 ++ wM r g iM1 aM1 lM1) 503 [(3, .int 0), (2, .ref (r 0)), (1, .ref (q 0)), (0, .ref b)] [.int 0, .int 0]
      exfalso; omega
    · show GW κ 4 82 21282 (wX q d iX0 aX0 ++ wM r g iM1 aM1 lM1) 503 [(3, .int 0), (2, .ref (r 0)), (1, .ref (q 0)), (0, .ref b)] [.int 0, .int 0]
      exfalso; omega
    · show GW κ 4 82 21282 (wX q d iX0 aX0 ++ wM r g iM1 aM1 lM1) 503 [(3, .int 0), (2, .ref (r 0)), (1, .ref (q 0)), (0, .ref b)] [.int 0, .int 0]
      exfalso; omega
    · show GW κ 4 82 21282 (wX q d iX0 aX0 ++ wM r g (upd iM1 22 1) (up2 (up2 (up3 (up2 aM1 18 (cp (aM1 17) (aM1 18) 165)) 18 162 (xs 2)) 22 y2671) 17 (cp ((up2 (up3 (up2 aM1 18 (cp (aM1 17) (aM1 18) 165)) 18 162 (xs 2)) 22 y2671) 18) ((up2 (up3 (up2 aM1 18 (cp (aM1 17) (aM1 18) 165)) 18 162 (xs 2)) 22 y2671) 17) 165)) lM1) 503 [(3, .int 0), (2, .ref (r 0)), (1, .ref (q 0)), (0, .ref b)] [.int 1, .int 0]
      exfalso; omega
    · show GW κ 4 82 21282 (wX q d iX0 aX0 ++ wM r g iM1 aM1 lM1) 503 [(3, .int 0), (2, .ref (r 0)), (1, .ref (q 0)), (0, .ref b)] [.int 0, .int 0]
      exfalso; omega
    · show GW κ 4 82 21282 (wX q d iX0 aX0 ++ wM r g iM1 aM1 lM1) 503 [(3, .int 0), (2, .ref (r 0)), (1, .ref (q 0)), (0, .ref b)] [.int 0, .int 0]
      exfalso; omega
    · show GW κ 4 82 21282 (wX q d iX0 aX0 ++ wM r g iM1 aM1 lM1) 503 [(3, .int 0), (2, .ref (r 0)), (1, .ref (q 0)), (0, .ref b)] [.int 0, .int 0]
      exfalso; omega
    · show GW κ 4 82 21282 (wX q d iX0 aX0 ++ wM r g (upd iM1 22 1) (up2 (up2 (up3 (up2 aM1 18 (cp (aM1 17) (aM1 18) 165)) 18 163 (xs 2)) 22 y2699) 17 (cp ((up2 (up3 (up2 aM1 18 (cp (aM1 17) (aM1 18) 165)) 18 163 (xs 2)) 22 y2699) 18) ((up2 (up3 (up2 aM1 18 (cp (aM1 17) (aM1 18) 165)) 18 163 (xs 2)) 22 y2699) 17) 165)) lM1) 503 [(3, .int 0), (2, .ref (r 0)), (1, .ref (q 0)), (0, .ref b)] [.int 1, .int 0]
      exfalso; omega
    · show GW κ 4 82 21282 (wX q d iX0 aX0 ++ wM r g iM1 aM1 lM1) 503 [(3, .int 0), (2, .ref (r 0)), (1, .ref (q 0)), (0, .ref b)] [.int 0, .int 0]
      exfalso; omega
    · show GW κ 4 82 21282 (wX q d iX0 aX0 ++ wM r g iM1 aM1 lM1) 503 [(3, .int 0), (2, .ref (r 0)), (1, .ref (q 0)), (0, .ref b)] [.int 0, .int 0]
      refine g_icmp_eq (tgt := 1465) (a := 0) (b := 0) hk dL_law_503 (by decide) rfl rfl (fun _ => ?_) (fun z9 => absurd (show 0 = 0 from by decide) z9)
      exact tail _
    · show GW κ 4 82 21282 (wX q d iX0 aX0 ++ wM r g iM1 aM1 lM1) 503 [(3, .int 0), (2, .ref (r 0)), (1, .ref (q 0)), (0, .ref b)] [.int 0, .int 0]
      exfalso; omega
    · show GW κ 4 82 21282 (wX q d iX0 aX0 ++ wM r g (upd iM1 22 1) (up2 (up2 (up3 (up2 aM1 18 (cp (aM1 17) (aM1 18) 165)) 18 164 (xs 2)) 22 y2731) 17 (cp ((up2 (up3 (up2 aM1 18 (cp (aM1 17) (aM1 18) 165)) 18 164 (xs 2)) 22 y2731) 18) ((up2 (up3 (up2 aM1 18 (cp (aM1 17) (aM1 18) 165)) 18 164 (xs 2)) 22 y2731) 17) 165)) lM1) 503 [(3, .int 0), (2, .ref (r 0)), (1, .ref (q 0)), (0, .ref b)] [.int 1, .int 0]
      exfalso; omega
    · show GW κ 4 82 21282 (wX q d iX0 aX0 ++ wM r g iM1 aM1 lM1) 503 [(3, .int 0), (2, .ref (r 0)), (1, .ref (q 0)), (0, .ref b)] [.int 0, .int 0]
      exfalso; omega
  · show GW κ 4 82 21282 (wM r g iM1 aM1 lM1 ++ wX q d iX0 aX0) 489 [(3, .int 0), (2, .ref (r 0)), (1, .ref (q 0)), (0, .ref b)] [.int 0]
    refine g_aload_n hk dL_law_489 rfl ?_
    refine g_aload_n hk dL_law_490 rfl ?_
    refine g_iload_n hk dL_law_491 rfl ?_
    refine g_iconst (v := 1) hk dL_law_492 (by decide) ?_
    refine g_iadd hk dL_law_493 ?_
    refine g_norm (v := 1) (by decide) ?_
    refine g_sld (v := xs 1) hk hX (vp_in_iff.mpr ⟨by decide, by show (1 : Int) < (L : Int); omega⟩) rfl dL_law_494 ?_
    refine g_aload_n hk dL_law_495 rfl ?_
    refine g_iload_n hk dL_law_496 rfl ?_
    refine g_iconst (v := 2) hk dL_law_497 (by decide) ?_
    refine g_iadd hk dL_law_498 ?_
    refine g_norm (v := 2) (by decide) ?_
    refine g_sld (v := xs 2) hk hX (vp_in_iff.mpr ⟨by decide, by show (2 : Int) < (L : Int); omega⟩) rfl dL_law_499 ?_
    refine g_callV hk (m161_X12_set l D zt g r (xs 1) (xs 2)) (SP.pre _ _) (fun q h => List.mem_append_right _ h) gL_law_X12_set rfl rfl rfl (by decide +kernel) ⟨Nat.le_of_ble_eq_true rfl, Nat.le_of_ble_eq_true rfl⟩ 0 rfl rfl rfl rfl (Nat.le_of_ble_eq_true rfl) ⟨Nat.le_of_ble_eq_true rfl, Nat.le_of_ble_eq_true rfl⟩ dL_law_500 (fun v ty' w' hp hk' => ?_)
    rcases hp with ⟨c2748, rfl, rfl⟩ | ⟨c2749, c2750, rfl, rfl⟩ | ⟨c2751, c2752, c2753, c2754, c2755, rfl, rfl⟩ | ⟨c2756, c2757, c2758, c2759, c2760, c2761, rfl, rfl⟩ | ⟨y2762, c2763, c2764, c2765, c2766, c2767, c2768, rfl, rfl⟩ | ⟨c2769, c2770, c2771, c2772, rfl, rfl⟩ | ⟨c2773, c2774, c2775, c2776, c2777, c2778, rfl, rfl⟩ | ⟨c2779, c2780, c2781, c2782, c2783, c2784, c2785, rfl, rfl⟩ | ⟨y2786, c2787, c2788, c2789, c2790, c2791, c2792, c2793, rfl, rfl⟩ | ⟨c2794, c2795, c2796, c2797, c2798, rfl, rfl⟩ | ⟨c2799, c2800, c2801, c2802, c2803, c2804, c2805, rfl, rfl⟩ | ⟨c2806, c2807, c2808, c2809, c2810, c2811, c2812, c2813, rfl, rfl⟩ | ⟨y2814, c2815, c2816, c2817, c2818, c2819, c2820, c2821, c2822, rfl, rfl⟩ | ⟨c2823, c2824, c2825, c2826, c2827, c2828, rfl, rfl⟩ | ⟨c2829, c2830, c2831, c2832, c2833, c2834, c2835, c2836, rfl, rfl⟩ | ⟨c2837, c2838, c2839, c2840, c2841, c2842, c2843, c2844, c2845, rfl, rfl⟩ | ⟨y2846, c2847, c2848, c2849, c2850, c2851, c2852, c2853, c2854, c2855, rfl, rfl⟩ | ⟨c2856, c2857, c2858, c2859, c2860, c2861, c2862, rfl, rfl⟩
    · show GW κ 4 82 21282 (wX q d iX0 aX0 ++ wM r g iM1 aM1 lM1) 503 [(3, .int 0), (2, .ref (r 0)), (1, .ref (q 0)), (0, .ref b)] [.int 0, .int 0]
      exfalso; omega
    · show GW κ 4 82 21282 (wX q d iX0 aX0 ++ wM r g iM1 aM1 lM1) 503 [(3, .int 0), (2, .ref (r 0)), (1, .ref (q 0)), (0, .ref b)] [.int 0, .int 0]
      exfalso; omega
    · show GW κ 4 82 21282 (wX q d iX0 aX0 ++ wM r g iM1 aM1 lM1) 503 [(3, .int 0), (2, .ref (r 0)), (1, .ref (q 0)), (0, .ref b)] [.int 0, .int 0]
      exfalso; omega
    · show GW κ 4 82 21282 (wX q d iX0 aX0 ++ wM r g iM1 aM1 lM1) 503 [(3, .int 0), (2, .ref (r 0)), (1, .ref (q 0)), (0, .ref b)] [.int 0, .int 0]
      exfalso; omega
    · show GW κ 4 82 21282 (wX q d iX0 aX0 ++ wM r g (upd iM1 22 1) (up2 (up2 (up3 (up2 aM1 18 (cp (aM1 17) (aM1 18) 165)) 18 161 (xs 2)) 22 y2762) 17 (cp ((up2 (up3 (up2 aM1 18 (cp (aM1 17) (aM1 18) 165)) 18 161 (xs 2)) 22 y2762) 18) ((up2 (up3 (up2 aM1 18 (cp (aM1 17) (aM1 18) 165)) 18 161 (xs 2)) 22 y2762) 17) 165)) lM1) 503 [(3, .int 0), (2, .ref (r 0)), (1, .ref (q 0)), (0, .ref b)] [.int 1, .int 0]
      exfalso; omega
    · show GW κ 4 82 21282 (wX q d iX0 aX0 ++ wM r g iM1 aM1 lM1) 503 [(3, .int 0), (2, .ref (r 0)), (1, .ref (q 0)), (0, .ref b)] [.int 0, .int 0]
      exfalso; omega
    · show GW κ 4 82 21282 (wX q d iX0 aX0 ++ wM r g iM1 aM1 lM1) 503 [(3, .int 0), (2, .ref (r 0)), (1, .ref (q 0)), (0, .ref b)] [.int 0, .int 0]
      exfalso; omega
    · show GW κ 4 82 21282 (wX q d iX0 aX0 ++ wM r g iM1 aM1 lM1) 503 [(3, .int 0), (2, .ref (r 0)), (1, .ref (q 0)), (0, .ref b)] [.int 0, .int 0]
      exfalso; omega
    · show GW κ 4 82 21282 (wX q d iX0 aX0 ++ wM r g (upd iM1 22 1) (up2 (up2 (up3 (up2 aM1 18 (cp (aM1 17) (aM1 18) 165)) 18 162 (xs 2)) 22 y2786) 17 (cp ((up2 (up3 (up2 aM1 18 (cp (aM1 17) (aM1 18) 165)) 18 162 (xs 2)) 22 y2786) 18) ((up2 (up3 (up2 aM1 18 (cp (aM1 17) (aM1 18) 165)) 18 162 (xs 2)) 22 y2786) 17) 165)) lM1) 503 [(3, .int 0), (2, .ref (r 0)), (1, .ref (q 0)), (0, .ref b)] [.int 1, .int 0]
      exfalso; omega
    · show GW κ 4 82 21282 (wX q d iX0 aX0 ++ wM r g iM1 aM1 lM1) 503 [(3, .int 0), (2, .ref (r 0)), (1, .ref (q 0)), (0, .ref b)] [.int 0, .int 0]
      exfalso; omega
    · show GW κ 4 82 21282 (wX q d iX0 aX0 ++ wM r g iM1 aM1 lM1) 503 [(3, .int 0), (2, .ref (r 0)), (1, .ref (q 0)), (0, .ref b)] [.int 0, .int 0]
      exfalso; omega
    · show GW κ 4 82 21282 (wX q d iX0 aX0 ++ wM r g iM1 aM1 lM1) 503 [(3, .int 0), (2, .ref (r 0)), (1, .ref (q 0)), (0, .ref b)] [.int 0, .int 0]
      exfalso; omega
    · show GW κ 4 82 21282 (wX q d iX0 aX0 ++ wM r g (upd iM1 22 1) (up2 (up2 (up3 (up2 aM1 18 (cp (aM1 17) (aM1 18) 165)) 18 163 (xs 2)) 22 y2814) 17 (cp ((up2 (up3 (up2 aM1 18 (cp (aM1 17) (aM1 18) 165)) 18 163 (xs 2)) 22 y2814) 18) ((up2 (up3 (up2 aM1 18 (cp (aM1 17) (aM1 18) 165)) 18 163 (xs 2)) 22 y2814) 17) 165)) lM1) 503 [(3, .int 0), (2, .ref (r 0)), (1, .ref (q 0)), (0, .ref b)] [.int 1, .int 0]
      exfalso; omega
    · show GW κ 4 82 21282 (wX q d iX0 aX0 ++ wM r g iM1 aM1 lM1) 503 [(3, .int 0), (2, .ref (r 0)), (1, .ref (q 0)), (0, .ref b)] [.int 0, .int 0]
      exfalso; omega
    · show GW κ 4 82 21282 (wX q d iX0 aX0 ++ wM r g iM1 aM1 lM1) 503 [(3, .int 0), (2, .ref (r 0)), (1, .ref (q 0)), (0, .ref b)] [.int 0, .int 0]
      exfalso; omega
    · show GW κ 4 82 21282 (wX q d iX0 aX0 ++ wM r g iM1 aM1 lM1) 503 [(3, .int 0), (2, .ref (r 0)), (1, .ref (q 0)), (0, .ref b)] [.int 0, .int 0]
      refine g_icmp_eq (tgt := 1465) (a := 0) (b := 0) hk dL_law_503 (by decide) rfl rfl (fun _ => ?_) (fun z9 => absurd (show 0 = 0 from by decide) z9)
      exact tail _
    · show GW κ 4 82 21282 (wX q d iX0 aX0 ++ wM r g (upd iM1 22 1) (up2 (up2 (up3 (up2 aM1 18 (cp (aM1 17) (aM1 18) 165)) 18 164 (xs 2)) 22 y2846) 17 (cp ((up2 (up3 (up2 aM1 18 (cp (aM1 17) (aM1 18) 165)) 18 164 (xs 2)) 22 y2846) 18) ((up2 (up3 (up2 aM1 18 (cp (aM1 17) (aM1 18) 165)) 18 164 (xs 2)) 22 y2846) 17) 165)) lM1) 503 [(3, .int 0), (2, .ref (r 0)), (1, .ref (q 0)), (0, .ref b)] [.int 1, .int 0]
      exfalso; omega
    · show GW κ 4 82 21282 (wX q d iX0 aX0 ++ wM r g iM1 aM1 lM1) 503 [(3, .int 0), (2, .ref (r 0)), (1, .ref (q 0)), (0, .ref b)] [.int 0, .int 0]
      exfalso; omega
  · show GW κ 4 82 21282 (wM r g iM1 aM1 lM1 ++ wX q d (upd (upd iX0 20 1) 21 1) (up3 (up3 (up3 (up3 aX0 10 3 (xs 1)) 11 0 3) 12 0 (xs 1)) 13 0 8)) 489 [(3, .int 0), (2, .ref (r 0)), (1, .ref (q 0)), (0, .ref b)] [.int 1]
    refine g_aload_n hk dL_law_489 rfl ?_
    refine g_aload_n hk dL_law_490 rfl ?_
    refine g_iload_n hk dL_law_491 rfl ?_
    refine g_iconst (v := 1) hk dL_law_492 (by decide) ?_
    refine g_iadd hk dL_law_493 ?_
    refine g_norm (v := 1) (by decide) ?_
    refine g_sld (v := xs 1) hk hX (vp_in_iff.mpr ⟨by decide, by show (1 : Int) < (L : Int); omega⟩) rfl dL_law_494 ?_
    refine g_aload_n hk dL_law_495 rfl ?_
    refine g_iload_n hk dL_law_496 rfl ?_
    refine g_iconst (v := 2) hk dL_law_497 (by decide) ?_
    refine g_iadd hk dL_law_498 ?_
    refine g_norm (v := 2) (by decide) ?_
    refine g_sld (v := xs 2) hk hX (vp_in_iff.mpr ⟨by decide, by show (2 : Int) < (L : Int); omega⟩) rfl dL_law_499 ?_
    refine g_callV hk (m161_X12_set l D zt g r (xs 1) (xs 2)) (SP.pre _ _) (fun q h => List.mem_append_right _ h) gL_law_X12_set rfl rfl rfl (by decide +kernel) ⟨Nat.le_of_ble_eq_true rfl, Nat.le_of_ble_eq_true rfl⟩ 0 rfl rfl rfl rfl (Nat.le_of_ble_eq_true rfl) ⟨Nat.le_of_ble_eq_true rfl, Nat.le_of_ble_eq_true rfl⟩ dL_law_500 (fun v ty' w' hp hk' => ?_)
    rcases hp with ⟨c2863, rfl, rfl⟩ | ⟨c2864, c2865, rfl, rfl⟩ | ⟨c2866, c2867, c2868, c2869, c2870, rfl, rfl⟩ | ⟨c2871, c2872, c2873, c2874, c2875, c2876, rfl, rfl⟩ | ⟨y2877, c2878, c2879, c2880, c2881, c2882, c2883, rfl, rfl⟩ | ⟨c2884, c2885, c2886, c2887, rfl, rfl⟩ | ⟨c2888, c2889, c2890, c2891, c2892, c2893, rfl, rfl⟩ | ⟨c2894, c2895, c2896, c2897, c2898, c2899, c2900, rfl, rfl⟩ | ⟨y2901, c2902, c2903, c2904, c2905, c2906, c2907, c2908, rfl, rfl⟩ | ⟨c2909, c2910, c2911, c2912, c2913, rfl, rfl⟩ | ⟨c2914, c2915, c2916, c2917, c2918, c2919, c2920, rfl, rfl⟩ | ⟨c2921, c2922, c2923, c2924, c2925, c2926, c2927, c2928, rfl, rfl⟩ | ⟨y2929, c2930, c2931, c2932, c2933, c2934, c2935, c2936, c2937, rfl, rfl⟩ | ⟨c2938, c2939, c2940, c2941, c2942, c2943, rfl, rfl⟩ | ⟨c2944, c2945, c2946, c2947, c2948, c2949, c2950, c2951, rfl, rfl⟩ | ⟨c2952, c2953, c2954, c2955, c2956, c2957, c2958, c2959, c2960, rfl, rfl⟩ | ⟨y2961, c2962, c2963, c2964, c2965, c2966, c2967, c2968, c2969, c2970, rfl, rfl⟩ | ⟨c2971, c2972, c2973, c2974, c2975, c2976, c2977, rfl, rfl⟩
    · show GW κ 4 82 21282 (wX q d (upd (upd iX0 20 1) 21 1) (up3 (up3 (up3 (up3 aX0 10 3 (xs 1)) 11 0 3) 12 0 (xs 1)) 13 0 8) ++ wM r g iM1 aM1 lM1) 503 [(3, .int 0), (2, .ref (r 0)), (1, .ref (q 0)), (0, .ref b)] [.int 0, .int 1]
      exfalso; omega
    · show GW κ 4 82 21282 (wX q d (upd (upd iX0 20 1) 21 1) (up3 (up3 (up3 (up3 aX0 10 3 (xs 1)) 11 0 3) 12 0 (xs 1)) 13 0 8) ++ wM r g iM1 aM1 lM1) 503 [(3, .int 0), (2, .ref (r 0)), (1, .ref (q 0)), (0, .ref b)] [.int 0, .int 1]
      exfalso; omega
    · show GW κ 4 82 21282 (wX q d (upd (upd iX0 20 1) 21 1) (up3 (up3 (up3 (up3 aX0 10 3 (xs 1)) 11 0 3) 12 0 (xs 1)) 13 0 8) ++ wM r g iM1 aM1 lM1) 503 [(3, .int 0), (2, .ref (r 0)), (1, .ref (q 0)), (0, .ref b)] [.int 0, .int 1]
      exfalso; omega
    · show GW κ 4 82 21282 (wX q d (upd (upd iX0 20 1) 21 1) (up3 (up3 (up3 (up3 aX0 10 3 (xs 1)) 11 0 3) 12 0 (xs 1)) 13 0 8) ++ wM r g iM1 aM1 lM1) 503 [(3, .int 0), (2, .ref (r 0)), (1, .ref (q 0)), (0, .ref b)] [.int 0, .int 1]
      exfalso; omega
    · show GW κ 4 82 21282 (wX q d (upd (upd iX0 20 1) 21 1) (up3 (up3 (up3 (up3 aX0 10 3 (xs 1)) 11 0 3) 12 0 (xs 1)) 13 0 8) ++ wM r g (upd iM1 22 1) (up2 (up2 (up3 (up2 aM1 18 (cp (aM1 17) (aM1 18) 165)) 18 161 (xs 2)) 22 y2877) 17 (cp ((up2 (up3 (up2 aM1 18 (cp (aM1 17) (aM1 18) 165)) 18 161 (xs 2)) 22 y2877) 18) ((up2 (up3 (up2 aM1 18 (cp (aM1 17) (aM1 18) 165)) 18 161 (xs 2)) 22 y2877) 17) 165)) lM1) 503 [(3, .int 0), (2, .ref (r 0)), (1, .ref (q 0)), (0, .ref b)] [.int 1, .int 1]
      exfalso; omega
    · show GW κ 4 82 21282 (wX q d (upd (upd iX0 20 1) 21 1) (up3 (up3 (up3 (up3 aX0 10 3 (xs 1)) 11 0 3) 12 0 (xs 1)) 13 0 8) ++ wM r g iM1 aM1 lM1) 503 [(3, .int 0), (2, .ref (r 0)), (1, .ref (q 0)), (0, .ref b)] [.int 0, .int 1]
      exfalso; omega
    · show GW κ 4 82 21282 (wX q d (upd (upd iX0 20 1) 21 1) (up3 (up3 (up3 (up3 aX0 10 3 (xs 1)) 11 0 3) 12 0 (xs 1)) 13 0 8) ++ wM r g iM1 aM1 lM1) 503 [(3, .int 0), (2, .ref (r 0)), (1, .ref (q 0)), (0, .ref b)] [.int 0, .int 1]
      exfalso; omega
    · show GW κ 4 82 21282 (wX q d (upd (upd iX0 20 1) 21 1) (up3 (up3 (up3 (up3 aX0 10 3 (xs 1)) 11 0 3) 12 0 (xs 1)) 13 0 8) ++ wM r g iM1 aM1 lM1) 503 [(3, .int 0), (2, .ref (r 0)), (1, .ref (q 0)), (0, .ref b)] [.int 0, .int 1]
      exfalso; omega
    · show GW κ 4 82 21282 (wX q d (upd (upd iX0 20 1) 21 1) (up3 (up3 (up3 (up3 aX0 10 3 (xs 1)) 11 0 3) 12 0 (xs 1)) 13 0 8) ++ wM r g (upd iM1 22 1) (up2 (up2 (up3 (up2 aM1 18 (cp (aM1 17) (aM1 18) 165)) 18 162 (xs 2)) 22 y2901) 17 (cp ((up2 (up3 (up2 aM1 18 (cp (aM1 17) (aM1 18) 165)) 18 162 (xs 2)) 22 y2901) 18) ((up2 (up3 (up2 aM1 18 (cp (aM1 17) (aM1 18) 165)) 18 162 (xs 2)) 22 y2901) 17) 165)) lM1) 503 [(3, .int 0), (2, .ref (r 0)), (1, .ref (q 0)), (0, .ref b)] [.int 1, .int 1]
      exfalso; omega
    · show GW κ 4 82 21282 (wX q d (upd (upd iX0 20 1) 21 1) (up3 (up3 (up3 (up3 aX0 10 3 (xs 1)) 11 0 3) 12 0 (xs 1)) 13 0 8) ++ wM r g iM1 aM1 lM1) 503 [(3, .int 0), (2, .ref (r 0)), (1, .ref (q 0)), (0, .ref b)] [.int 0, .int 1]
      exfalso; omega
    · show GW κ 4 82 21282 (wX q d (upd (upd iX0 20 1) 21 1) (up3 (up3 (up3 (up3 aX0 10 3 (xs 1)) 11 0 3) 12 0 (xs 1)) 13 0 8) ++ wM r g iM1 aM1 lM1) 503 [(3, .int 0), (2, .ref (r 0)), (1, .ref (q 0)), (0, .ref b)] [.int 0, .int 1]
      exfalso; omega
    · show GW κ 4 82 21282 (wX q d (upd (upd iX0 20 1) 21 1) (up3 (up3 (up3 (up3 aX0 10 3 (xs 1)) 11 0 3) 12 0 (xs 1)) 13 0 8) ++ wM r g iM1 aM1 lM1) 503 [(3, .int 0), (2, .ref (r 0)), (1, .ref (q 0)), (0, .ref b)] [.int 0, .int 1]
      exfalso; omega
    · show GW κ 4 82 21282 (wX q d (upd (upd iX0 20 1) 21 1) (up3 (up3 (up3 (up3 aX0 10 3 (xs 1)) 11 0 3) 12 0 (xs 1)) 13 0 8) ++ wM r g (upd iM1 22 1) (up2 (up2 (up3 (up2 aM1 18 (cp (aM1 17) (aM1 18) 165)) 18 163 (xs 2)) 22 y2929) 17 (cp ((up2 (up3 (up2 aM1 18 (cp (aM1 17) (aM1 18) 165)) 18 163 (xs 2)) 22 y2929) 18) ((up2 (up3 (up2 aM1 18 (cp (aM1 17) (aM1 18) 165)) 18 163 (xs 2)) 22 y2929) 17) 165)) lM1) 503 [(3, .int 0), (2, .ref (r 0)), (1, .ref (q 0)), (0, .ref b)] [.int 1, .int 1]
      exfalso; omega
    · show GW κ 4 82 21282 (wX q d (upd (upd iX0 20 1) 21 1) (up3 (up3 (up3 (up3 aX0 10 3 (xs 1)) 11 0 3) 12 0 (xs 1)) 13 0 8) ++ wM r g iM1 aM1 lM1) 503 [(3, .int 0), (2, .ref (r 0)), (1, .ref (q 0)), (0, .ref b)] [.int 0, .int 1]
      exfalso; omega
    · show GW κ 4 82 21282 (wX q d (upd (upd iX0 20 1) 21 1) (up3 (up3 (up3 (up3 aX0 10 3 (xs 1)) 11 0 3) 12 0 (xs 1)) 13 0 8) ++ wM r g iM1 aM1 lM1) 503 [(3, .int 0), (2, .ref (r 0)), (1, .ref (q 0)), (0, .ref b)] [.int 0, .int 1]
      exfalso; omega
    · show GW κ 4 82 21282 (wX q d (upd (upd iX0 20 1) 21 1) (up3 (up3 (up3 (up3 aX0 10 3 (xs 1)) 11 0 3) 12 0 (xs 1)) 13 0 8) ++ wM r g iM1 aM1 lM1) 503 [(3, .int 0), (2, .ref (r 0)), (1, .ref (q 0)), (0, .ref b)] [.int 0, .int 1]
      exfalso; omega
    · show GW κ 4 82 21282 (wX q d (upd (upd iX0 20 1) 21 1) (up3 (up3 (up3 (up3 aX0 10 3 (xs 1)) 11 0 3) 12 0 (xs 1)) 13 0 8) ++ wM r g (upd iM1 22 1) (up2 (up2 (up3 (up2 aM1 18 (cp (aM1 17) (aM1 18) 165)) 18 164 (xs 2)) 22 y2961) 17 (cp ((up2 (up3 (up2 aM1 18 (cp (aM1 17) (aM1 18) 165)) 18 164 (xs 2)) 22 y2961) 18) ((up2 (up3 (up2 aM1 18 (cp (aM1 17) (aM1 18) 165)) 18 164 (xs 2)) 22 y2961) 17) 165)) lM1) 503 [(3, .int 0), (2, .ref (r 0)), (1, .ref (q 0)), (0, .ref b)] [.int 1, .int 1]
      refine g_icmp_eq (tgt := 1465) (a := 1) (b := 1) hk dL_law_503 (by decide) rfl rfl (fun _ => ?_) (fun z9 => absurd (show 1 = 1 from by decide) z9)
      exact tail _
    · show GW κ 4 82 21282 (wX q d (upd (upd iX0 20 1) 21 1) (up3 (up3 (up3 (up3 aX0 10 3 (xs 1)) 11 0 3) 12 0 (xs 1)) 13 0 8) ++ wM r g iM1 aM1 lM1) 503 [(3, .int 0), (2, .ref (r 0)), (1, .ref (q 0)), (0, .ref b)] [.int 0, .int 1]
      exfalso; omega
  · show GW κ 4 82 21282 (wM r g iM1 aM1 lM1 ++ wX q d iX0 aX0) 489 [(3, .int 0), (2, .ref (r 0)), (1, .ref (q 0)), (0, .ref b)] [.int 0]
    refine g_aload_n hk dL_law_489 rfl ?_
    refine g_aload_n hk dL_law_490 rfl ?_
    refine g_iload_n hk dL_law_491 rfl ?_
    refine g_iconst (v := 1) hk dL_law_492 (by decide) ?_
    refine g_iadd hk dL_law_493 ?_
    refine g_norm (v := 1) (by decide) ?_
    refine g_sld (v := xs 1) hk hX (vp_in_iff.mpr ⟨by decide, by show (1 : Int) < (L : Int); omega⟩) rfl dL_law_494 ?_
    refine g_aload_n hk dL_law_495 rfl ?_
    refine g_iload_n hk dL_law_496 rfl ?_
    refine g_iconst (v := 2) hk dL_law_497 (by decide) ?_
    refine g_iadd hk dL_law_498 ?_
    refine g_norm (v := 2) (by decide) ?_
    refine g_sld (v := xs 2) hk hX (vp_in_iff.mpr ⟨by decide, by show (2 : Int) < (L : Int); omega⟩) rfl dL_law_499 ?_
    refine g_callV hk (m161_X12_set l D zt g r (xs 1) (xs 2)) (SP.pre _ _) (fun q h => List.mem_append_right _ h) gL_law_X12_set rfl rfl rfl (by decide +kernel) ⟨Nat.le_of_ble_eq_true rfl, Nat.le_of_ble_eq_true rfl⟩ 0 rfl rfl rfl rfl (Nat.le_of_ble_eq_true rfl) ⟨Nat.le_of_ble_eq_true rfl, Nat.le_of_ble_eq_true rfl⟩ dL_law_500 (fun v ty' w' hp hk' => ?_)
    rcases hp with ⟨c2978, rfl, rfl⟩ | ⟨c2979, c2980, rfl, rfl⟩ | ⟨c2981, c2982, c2983, c2984, c2985, rfl, rfl⟩ | ⟨c2986, c2987, c2988, c2989, c2990, c2991, rfl, rfl⟩ | ⟨y2992, c2993, c2994, c2995, c2996, c2997, c2998, rfl, rfl⟩ | ⟨c2999, c3000, c3001, c3002, rfl, rfl⟩ | ⟨c3003, c3004, c3005, c3006, c3007, c3008, rfl, rfl⟩ | ⟨c3009, c3010, c3011, c3012, c3013, c3014, c3015, rfl, rfl⟩ | ⟨y3016, c3017, c3018, c3019, c3020, c3021, c3022, c3023, rfl, rfl⟩ | ⟨c3024, c3025, c3026, c3027, c3028, rfl, rfl⟩ | ⟨c3029, c3030, c3031, c3032, c3033, c3034, c3035, rfl, rfl⟩ | ⟨c3036, c3037, c3038, c3039, c3040, c3041, c3042, c3043, rfl, rfl⟩ | ⟨y3044, c3045, c3046, c3047, c3048, c3049, c3050, c3051, c3052, rfl, rfl⟩ | ⟨c3053, c3054, c3055, c3056, c3057, c3058, rfl, rfl⟩ | ⟨c3059, c3060, c3061, c3062, c3063, c3064, c3065, c3066, rfl, rfl⟩ | ⟨c3067, c3068, c3069, c3070, c3071, c3072, c3073, c3074, c3075, rfl, rfl⟩ | ⟨y3076, c3077, c3078, c3079, c3080, c3081, c3082, c3083, c3084, c3085, rfl, rfl⟩ | ⟨c3086, c3087, c3088, c3089, c3090, c3091, c3092, rfl, rfl⟩
    · show GW κ 4 82 21282 (wX q d iX0 aX0 ++ wM r g iM1 aM1 lM1) 503 [(3, .int 0), (2, .ref (r 0)), (1, .ref (q 0)), (0, .ref b)] [.int 0, .int 0]
      exfalso; omega
    · show GW κ 4 82 21282 (wX q d iX0 aX0 ++ wM r g iM1 aM1 lM1) 503 [(3, .int 0), (2, .ref (r 0)), (1, .ref (q 0)), (0, .ref b)] [.int 0, .int 0]
      exfalso; omega
    · show GW κ 4 82 21282 (wX q d iX0 aX0 ++ wM r g iM1 aM1 lM1) 503 [(3, .int 0), (2, .ref (r 0)), (1, .ref (q 0)), (0, .ref b)] [.int 0, .int 0]
      exfalso; omega
    · show GW κ 4 82 21282 (wX q d iX0 aX0 ++ wM r g iM1 aM1 lM1) 503 [(3, .int 0), (2, .ref (r 0)), (1, .ref (q 0)), (0, .ref b)] [.int 0, .int 0]
      exfalso; omega
    · show GW κ 4 82 21282 (wX q d iX0 aX0 ++ wM r g (upd iM1 22 1) (up2 (up2 (up3 (up2 aM1 18 (cp (aM1 17) (aM1 18) 165)) 18 161 (xs 2)) 22 y2992) 17 (cp ((up2 (up3 (up2 aM1 18 (cp (aM1 17) (aM1 18) 165)) 18 161 (xs 2)) 22 y2992) 18) ((up2 (up3 (up2 aM1 18 (cp (aM1 17) (aM1 18) 165)) 18 161 (xs 2)) 22 y2992) 17) 165)) lM1) 503 [(3, .int 0), (2, .ref (r 0)), (1, .ref (q 0)), (0, .ref b)] [.int 1, .int 0]
      exfalso; omega
    · show GW κ 4 82 21282 (wX q d iX0 aX0 ++ wM r g iM1 aM1 lM1) 503 [(3, .int 0), (2, .ref (r 0)), (1, .ref (q 0)), (0, .ref b)] [.int 0, .int 0]
      exfalso; omega
    · show GW κ 4 82 21282 (wX q d iX0 aX0 ++ wM r g iM1 aM1 lM1) 503 [(3, .int 0), (2, .ref (r 0)), (1, .ref (q 0)), (0, .ref b)] [.int 0, .int 0]
      exfalso; omega
    · show GW κ 4 82 21282 (wX q d iX0 aX0 ++ wM r g iM1 aM1 lM1) 503 [(3, .int 0), (2, .ref (r 0)), (1, .ref (q 0)), (0, .ref b)] [.int 0, .int 0]
      exfalso; omega
    · show GW κ 4 82 21282 (wX q d iX0 aX0 ++ wM r g (upd iM1 22 1) (up2 (up2 (up3 (up2 aM1 18 (cp (aM1 17) (aM1 18) 165)) 18 162 (xs 2)) 22 y3016) 17 (cp ((up2 (up3 (up2 aM1 18 (cp (aM1 17) (aM1 18) 165)) 18 162 (xs 2)) 22 y3016) 18) ((up2 (up3 (up2 aM1 18 (cp (aM1 17) (aM1 18) 165)) 18 162 (xs 2)) 22 y3016) 17) 165)) lM1) 503 [(3, .int 0), (2, .ref (r 0)), (1, .ref (q 0)), (0, .ref b)] [.int 1, .int 0]
      exfalso; omega
    · show GW κ 4 82 21282 (wX q d iX0 aX0 ++ wM r g iM1 aM1 lM1) 503 [(3, .int 0), (2, .ref (r 0)), (1, .ref (q 0)), (0, .ref b)] [.int 0, .int 0]
      exfalso; omega
    · show GW κ 4 82 21282 (wX q d iX0 aX0 ++ wM r g iM1 aM1 lM1) 503 [(3, .int 0), (2, .ref (r 0)), (1, .ref (q 0)), (0, .ref b)] [.int 0, .int 0]
      exfalso; omega
    · show GW κ 4 82 21282 (wX q d iX0 aX0 ++ wM r g iM1 aM1 lM1) 503 [(3, .int 0), (2, .ref (r 0)), (1, .ref (q 0)), (0, .ref b)] [.int 0, .int 0]
      exfalso; omega
    · show GW κ 4 82 21282 (wX q d iX0 aX0 ++ wM r g (upd iM1 22 1) (up2 (up2 (up3 (up2 aM1 18 (cp (aM1 17) (aM1 18) 165)) 18 163 (xs 2)) 22 y3044) 17 (cp ((up2 (up3 (up2 aM1 18 (cp (aM1 17) (aM1 18) 165)) 18 163 (xs 2)) 22 y3044) 18) ((up2 (up3 (up2 aM1 18 (cp (aM1 17) (aM1 18) 165)) 18 163 (xs 2)) 22 y3044) 17) 165)) lM1) 503 [(3, .int 0), (2, .ref (r 0)), (1, .ref (q 0)), (0, .ref b)] [.int 1, .int 0]
      exfalso; omega
    · show GW κ 4 82 21282 (wX q d iX0 aX0 ++ wM r g iM1 aM1 lM1) 503 [(3, .int 0), (2, .ref (r 0)), (1, .ref (q 0)), (0, .ref b)] [.int 0, .int 0]
      exfalso; omega
    · show GW κ 4 82 21282 (wX q d iX0 aX0 ++ wM r g iM1 aM1 lM1) 503 [(3, .int 0), (2, .ref (r 0)), (1, .ref (q 0)), (0, .ref b)] [.int 0, .int 0]
      exfalso; omega
    · show GW κ 4 82 21282 (wX q d iX0 aX0 ++ wM r g iM1 aM1 lM1) 503 [(3, .int 0), (2, .ref (r 0)), (1, .ref (q 0)), (0, .ref b)] [.int 0, .int 0]
      exfalso; omega
    · show GW κ 4 82 21282 (wX q d iX0 aX0 ++ wM r g (upd iM1 22 1) (up2 (up2 (up3 (up2 aM1 18 (cp (aM1 17) (aM1 18) 165)) 18 164 (xs 2)) 22 y3076) 17 (cp ((up2 (up3 (up2 aM1 18 (cp (aM1 17) (aM1 18) 165)) 18 164 (xs 2)) 22 y3076) 18) ((up2 (up3 (up2 aM1 18 (cp (aM1 17) (aM1 18) 165)) 18 164 (xs 2)) 22 y3076) 17) 165)) lM1) 503 [(3, .int 0), (2, .ref (r 0)), (1, .ref (q 0)), (0, .ref b)] [.int 1, .int 0]
      exfalso; omega
    · show GW κ 4 82 21282 (wX q d iX0 aX0 ++ wM r g iM1 aM1 lM1) 503 [(3, .int 0), (2, .ref (r 0)), (1, .ref (q 0)), (0, .ref b)] [.int 0, .int 0]
      refine g_icmp_eq (tgt := 1465) (a := 0) (b := 0) hk dL_law_503 (by decide) rfl rfl (fun _ => ?_) (fun z9 => absurd (show 0 = 0 from by decide) z9)
      exact tail _
set_option maxHeartbeats 4000000 in
set_option maxRecDepth 100000 in
theorem law_12 {κ : Cx} {l : Launch} {D : va_G} {zt : Nat × Nat × Nat} {q r : Nat → Nat} {d g : Nat → ClassId} {b L : Nat} {xs : Nat → Int32} (hk : GC κ l D zt code 4 RL wsL_law (tyX d ++ tyM g) room_1) (hX : GX κ b L xs) (hL6 : L = 6) (tail : ∀ ws, GW κ 4 82 21282 ws 1465 [(3, .int 0), (2, .ref (r 0)), (1, .ref (q 0)), (0, .ref b)] []) : GW κ 4 82 21282 (wX q d iX0 aX0 ++ wM r g iM1 aM1 lM1) 508 [(3, .int 0), (2, .ref (r 0)), (1, .ref (q 0)), (0, .ref b)] [] := by
  refine g_aload_n hk dL_law_508 rfl ?_
  refine g_callV hk (m269_X11_undo l D zt d q) (SP.pre _ _) (fun q h => List.mem_append_left _ h) gL_law_X11_undo rfl rfl rfl (by decide +kernel) ⟨Nat.le_of_ble_eq_true rfl, Nat.le_of_ble_eq_true rfl⟩ 0 rfl rfl rfl rfl (Nat.le_of_ble_eq_true rfl) ⟨Nat.le_of_ble_eq_true rfl, Nat.le_of_ble_eq_true rfl⟩ dL_law_509 (fun v ty' w' hp hk' => ?_)
  obtain ⟨rfl, rfl⟩ := hp
  show GW κ 4 82 21282 (wM r g iM1 aM1 lM1 ++ wX q d iX0 aX0) 512 [(3, .int 0), (2, .ref (r 0)), (1, .ref (q 0)), (0, .ref b)] [.int 0]
  refine g_aload_n hk dL_law_512 rfl ?_
  refine g_callV hk (m162_X12_undo l D zt g r) (SP.pre _ _) (fun q h => List.mem_append_right _ h) gL_law_X12_undo rfl rfl rfl (by decide +kernel) ⟨Nat.le_of_ble_eq_true rfl, Nat.le_of_ble_eq_true rfl⟩ 0 rfl rfl rfl rfl (Nat.le_of_ble_eq_true rfl) ⟨Nat.le_of_ble_eq_true rfl, Nat.le_of_ble_eq_true rfl⟩ dL_law_513 (fun v ty' w' hp hk' => ?_)
  obtain ⟨rfl, rfl⟩ := hp
  show GW κ 4 82 21282 (wX q d iX0 aX0 ++ wM r g iM1 aM1 lM1) 516 [(3, .int 0), (2, .ref (r 0)), (1, .ref (q 0)), (0, .ref b)] [.int 0, .int 0]
  refine g_icmp_eq (tgt := 1465) (a := 0) (b := 0) hk dL_law_516 (by decide) rfl rfl (fun _ => ?_) (fun z9 => absurd (show 0 = 0 from by decide) z9)
  exact tail _
