def wo_j114_X12_lays : List Cond := [Cond.fieldLink RX12 13 "WarpDeskModel" "tape" "[B", Cond.fieldLink RX12 124 "WarpDeskModel" "taped" "I"]
def wz_j114_X12_lays : List Cond := .code yX12_lays cX12_lays 3 none :: (wo_j114_X12_lays ++ (wsX120 ++ ([] : List Cond)))
theorem zg_j114_X12_lays : ∀ w ∈ wz_j114_X12_lays, goodWord w = true := zg_cons rfl (zg_app (by decide +kernel) (zg_app zgU_wsX120 zg_nil))
theorem zi_j114_X12_lays : ∀ w ∈ wz_j114_X12_lays, w ∈ lw_tbl := zi_cons zw_1552 (zi_app (zi_cons zw_1380 (zi_cons zw_1381 zi_nil)) (zi_app inX12 zi_nil))
set_option maxHeartbeats 4000000 in
set_option maxRecDepth 100000 in
theorem j114_X12_lays (l : Launch) (D : va_G) (zt : Nat × Nat × Nat × (Nat → Nat) × (Nat → Nat)) (r : Nat → Nat) (g : Nat → ClassId) (I : Nat → Int32) (A : Nat → Nat → Int32) (L : Nat → Nat → Int64) (z1 : Int32) (hIv : IvM I A) (hp0 : (I 1).toInt ≤ 1996) : GM l D zt (tyM g) yX12_lays wz_j114_X12_lays ({ frames := 0, cells := 0, slots := 0, locals := 0 } : Room) [.ref (r 0), .int z1] (wM r g I A L) (fun v _ w' => ∃ (I' : Nat → Int32) (A' : Nat → Nat → Int32) (L' : Nat → Nat → Int64), Md [1] I I' ∧ Md [0] A A' ∧ IvM I' A' ∧ ((I' 1).toInt = (I 1).toInt + 4) ∧ v = none ∧ w' = wM r g I' A' L') 0 0 := by
  refine GM.of (cc := cX12_lays) (maxL := 3) (ret := none) (own := RX12) (lv := [(0, .ref (r 0)), (1, .int z1)]) (by decide) rfl rfl (Nat.le_of_ble_eq_true rfl) rfl (fun κ sz hk hR hN => ?_)
  have hin12 : ∀ w ∈ u_ws RX12 TX12 55, w ∈ wz_j114_X12_lays := fun w h => (List.mem_cons_of_mem _ (List.mem_append_right _ (List.mem_append_left _ h)))
  refine g_bipush (v := 24) hk dX12_lays_0 (by decide) ?_
  refine g_istore_n (lv' := [(2, .int 24), (0, .ref (r 0)), (1, .int z1)]) hk dX12_lays_2 (by decide) rfl ?_
  have lp278 : ∀ (n279 : Nat) (x249 : Int32) (I252 : Nat → Int32) (A252 : Nat → Nat → Int32) (L252 : Nat → Nat → Int64), (Md [1] I I252) → (Md [0] A A252) → (IvM I252 A252) → ((-8) ≤ x249.toInt) → (x249.toInt ≤ 24) → (8 * (I252 1).toInt - 8 * (I 1).toInt = 24 - x249.toInt) → (x249.toInt + 1 - 0 < (n279 : Int)) → (0 < n279) → GW κ 3 0 0 (wM r g I252 A252 L252) 3 [(2, .int x249), (0, .ref (r 0)), (1, .int z1)] [] := by
    intro n279
    induction n279 with
    | zero =>
      intro x249 I252 A252 L252 hI252 hA252 hV252 h275 h276 h277 m280 m280z
      exact absurd m280z (Nat.lt_irrefl 0)
    | succ n279 ih281 =>
      intro x249 I252 A252 L252 hI252 hA252 hV252 h275 h276 h277 m280 m280z
      have f282 := IvM_f1 hV252
      refine g_iload_n hk dX12_lays_3 rfl ?_
      refine g_if_lt (tgt := 36) (a := x249.toInt) hk dX12_lays_4 (by decide) rfl (fun c283 => ?_) (fun c283 => ?_)
      · skip
        have f284 := IvM_f1 hIv
        exact g_vret hk hR ⟨I252, A252, L252, (show Md [1] I I252 from (Md.tr Md.rf hI252 rfl)), (show Md [0] A A252 from (Md.tr Md.rf hA252 rfl)), hV252, (show ((I252 1)).toInt = (I 1).toInt + 4 from by omega), rfl, rfl⟩ dX12_lays_36
      · skip
        refine g_aload_n hk dX12_lays_7 rfl ?_
        refine gM_r0_1 hk hin12 (List.mem_cons_of_mem _ (List.mem_append_left _ (List.mem_of_getElem? (i := 0) rfl))) dX12_lays_8 ?_
        refine g_aload_n hk dX12_lays_11 rfl ?_
        refine gM_i1 (v := (I252 1)) hk hin12 (List.mem_cons_of_mem _ (List.mem_append_left _ (List.mem_of_getElem? (i := 1) rfl))) dX12_lays_12 rfl ?_
        refine g_iload_n hk dX12_lays_15 rfl ?_
        refine g_iload_n hk dX12_lays_16 rfl ?_
        refine g_ishr hk dX12_lays_17 ?_
        refine g_topi (fun y285 ey285 => ?_)
        refine g_i2b hk dX12_lays_18 rfl ?_
        refine g_topi (fun y286 ey286 => ?_)
        refine sM_0 (y := (vp_nar .byte y286)) (j := (I252 1).toNatClampNeg) hk (vp_in_iff.mpr ⟨by omega, by omega⟩) rfl rfl dX12_lays_19 ?_
        refine g_aload_n hk dX12_lays_20 rfl ?_
        refine g_dup hk dX12_lays_21 rfl ?_
        refine gM_i1 (v := (I252 1)) hk hin12 (List.mem_cons_of_mem _ (List.mem_append_left _ (List.mem_of_getElem? (i := 1) rfl))) dX12_lays_22 rfl ?_
        refine g_iconst (v := 1) hk dX12_lays_25 (by decide) ?_
        refine g_iadd hk dX12_lays_26 ?_
        refine g_topi (fun y287 ey287 => ?_)
        have hy287 : y287.toInt = (I252 1).toInt + 1 := i32_add ey287 rfl rfl (by omega) (by omega)
        refine pM_i1 hk hin12 (List.mem_cons_of_mem _ (List.mem_append_left _ (List.mem_of_getElem? (i := 1) rfl))) dX12_lays_27 ?_
        obtain ⟨y288, ey288⟩ : ∃ y : Int32, y = x249 + Int32.ofInt (-8) := ⟨_, rfl⟩
        have hy288 : y288.toInt = x249.toInt + (-8) := i32_add ey288 rfl (by decide) (by omega) (by omega)
        refine g_iinc (v := y288) (lv' := [(2, .int y288), (0, .ref (r 0)), (1, .int z1)]) hk 0 dX12_lays_30 rfl ey288.symm (by decide) rfl ?_
        refine g_goto (tgt := 3) hk dX12_lays_33 (by decide) ?_
        exact g_lv (List.forall_mem_cons.mpr ⟨List.mem_of_getElem? (i := 0) rfl, (List.forall_mem_cons.mpr ⟨List.mem_of_getElem? (i := 1) rfl, (List.forall_mem_cons.mpr ⟨List.mem_of_getElem? (i := 2) rfl, (fun _ h => absurd h List.not_mem_nil)⟩)⟩)⟩) (ih281 y288 (upd I252 1 y287) (up3 A252 0 ((I252 1).toNatClampNeg) (vp_nar .byte y286)) L252 (show Md [1] I (upd I252 1 y287) from Md.tr hI252 (show Md [1] I252 (upd I252 1 y287) from (Md.up Md.rf rfl)) rfl) (show Md [0] A (up3 A252 0 ((I252 1).toNatClampNeg) (vp_nar .byte y286)) from Md.tr hA252 (show Md [0] A252 (up3 A252 0 ((I252 1).toNatClampNeg) (vp_nar .byte y286)) from (Md.up3 Md.rf rfl)) rfl) ⟨(show 0 ≤ y287.toInt ∧ y287.toInt ≤ 2000 from ⟨by omega, by omega⟩), (IvM_f2 (I := I252) (A := A252) hV252), (IvM_f3 (I := I252) (A := A252) hV252), (IvM_f4 (I := I252) (A := A252) hV252), (IvM_f6 (I := I252) (A := A252) hV252), (IvM_f8 (I := I252) (A := A252) hV252), (IvM_f15 (I := I252) (A := A252) hV252), (IvM_f16 (I := I252) (A := A252) hV252), (IvM_f17 (I := I252) (A := A252) hV252), (IvM_f18 (I := I252) (A := A252) hV252), (IvM_f22 (I := I252) (A := A252) hV252), (IvM_f23 (I := I252) (A := A252) hV252), (IvM_f24 (I := I252) (A := A252) hV252), (IvM_a11 (I := I252) (A := A252) hV252), (IvM_a26 (I := I252) (A := A252) hV252), (IvM_s8_0 (I := I252) (A := A252) hV252), (IvM_s8_1 (I := I252) (A := A252) hV252), (IvM_s10_0 (I := I252) (A := A252) hV252), (IvM_s10_1 (I := I252) (A := A252) hV252), (IvM_s17_0 (I := I252) (A := A252) hV252), (IvM_s17_164 (I := I252) (A := A252) hV252), (IvM_lv (I := I252) (A := A252) hV252), (IvM_sd (I := I252) (A := A252) hV252), (IvM_nq (I := I252) (A := A252) hV252), (IvM_hr (I := I252) (A := A252) hV252), (IvM_hh (I := I252) (A := A252) hV252), trivial⟩ (by omega) (by omega) (by first | (rw [show ((upd I252 1 y287) 1) = y287 from rfl] <;> omega) | omega) (by omega) (by omega))
  have k289 : (24 : Int32).toInt = 24 := rfl
  obtain ⟨n290, n290a, n290b⟩ : ∃ n : Nat, (24 : Int32).toInt + 1 - 0 < (n : Int) ∧ 0 < n := ⟨(((24 : Int32).toInt + 1 - 0 : Int)).toNat + 1, by omega, by omega⟩
  have f291 := IvM_f1 hIv
  exact lp278 n290 24 I A L Md.rf Md.rf hIv (by omega) (by omega) (by omega) n290a n290b
def wo_j113_X12_feed : List Cond := [Cond.fieldLink RX12 124 "WarpDeskModel" "taped" "I", Cond.methodLink RX12 127 yX12_lays, Cond.instanceMethod yX12_lays, Cond.selects RX12 yX12_lays yX12_lays, Cond.initialized RX12]
def wz_j113_X12_feed : List Cond := .code yX12_feed cX12_feed 6 (some .int) :: (wo_j113_X12_feed ++ (wsX120 ++ (wz_j114_X12_lays ++ ([] : List Cond))))
theorem zg_j113_X12_feed : ∀ w ∈ wz_j113_X12_feed, goodWord w = true := zg_cons rfl (zg_app (by decide +kernel) (zg_app zgU_wsX120 (zg_app zg_j114_X12_lays zg_nil)))
theorem zi_j113_X12_feed : ∀ w ∈ wz_j113_X12_feed, w ∈ lw_tbl := zi_cons zw_1548 (zi_app (zi_cons zw_1381 (zi_cons zw_1549 (zi_cons zw_1551 (zi_cons zw_47 (zi_cons zw_115 zi_nil))))) (zi_app inX12 (zi_app zi_j114_X12_lays zi_nil)))
set_option maxHeartbeats 4000000 in
set_option maxRecDepth 100000 in
theorem j113_X12_feed (l : Launch) (D : va_G) (zt : Nat × Nat × Nat × (Nat → Nat) × (Nat → Nat)) (r : Nat → Nat) (g : Nat → ClassId) (I : Nat → Int32) (A : Nat → Nat → Int32) (L : Nat → Nat → Int64) (z1 : Int32) (z2 : Int32) (z3 : Int32) (z4 : Int32) (z5 : Int32) (hIv : IvM I A) : GM l D zt (tyM g) yX12_feed wz_j113_X12_feed ({ frames := 1, cells := 0, slots := 0, locals := 22 } : Room) [.ref (r 0), .int z1, .int z2, .int z3, .int z4, .int z5] (wM r g I A L) (fun v _ w' => ∃ (I' : Nat → Int32) (A' : Nat → Nat → Int32) (L' : Nat → Nat → Int64), Md [1] I I' ∧ Md [0] A A' ∧ IvM I' A' ∧ ∃ y0 : Int32, ((1980 < (I 1).toInt ∧ y0.toInt = -1 ∧ (I' 1).toInt = (I 1).toInt) ∨ ((I 1).toInt ≤ 1980 ∧ y0.toInt = (I 1).toInt + 20 ∧ (I' 1).toInt = (I 1).toInt + 20)) ∧ ((-1) ≤ y0.toInt) ∧ (y0.toInt ≤ 2000) ∧ v = some (.int y0) ∧ w' = wM r g I' A' L') 0 0 := by
  refine GM.of (cc := cX12_feed) (maxL := 6) (ret := (some .int)) (own := RX12) (lv := [(0, .ref (r 0)), (1, .int z1), (2, .int z2), (3, .int z3), (4, .int z4), (5, .int z5)]) (by decide) rfl rfl (Nat.le_of_ble_eq_true rfl) rfl (fun κ sz hk hR hN => ?_)
  have hin12 : ∀ w ∈ u_ws RX12 TX12 55, w ∈ wz_j113_X12_feed := fun w h => (List.mem_cons_of_mem _ (List.mem_append_right _ (List.mem_append_left _ h)))
  refine g_aload_n hk dX12_feed_0 rfl ?_
  refine gM_i1 (v := (I 1)) hk hin12 (List.mem_cons_of_mem _ (List.mem_append_left _ (List.mem_of_getElem? (i := 0) rfl))) dX12_feed_1 rfl ?_
  have f246 := IvM_f1 hIv
  refine g_bipush (v := 20) hk dX12_feed_4 (by decide) ?_
  refine g_iadd hk dX12_feed_6 ?_
  refine g_topi (fun y247 ey247 => ?_)
  have hy247 : y247.toInt = (I 1).toInt + 20 := i32_add ey247 rfl rfl (by omega) (by omega)
  refine g_sipush (v := 2000) hk dX12_feed_7 (by decide) ?_
  refine g_icmp_le (tgt := 15) (a := y247.toInt) (b := 2000) hk dX12_feed_10 (by decide) rfl rfl (fun c248 => ?_) (fun c248 => ?_)
  · skip
    refine g_aload_n hk dX12_feed_15 rfl ?_
    refine g_iload_n hk dX12_feed_16 rfl ?_
    refine g_callV (n := 1) hk (j114_X12_lays l D zt r g I A L z1 hIv (by omega)) (SP.same _) (fun _ h => h) (gi_V (List.mem_cons_of_mem _ (List.mem_append_left _ (List.mem_of_getElem? (i := 1) rfl))) (List.mem_cons_of_mem _ (List.mem_append_left _ (List.mem_of_getElem? (i := 2) rfl))) (List.mem_cons_of_mem _ (List.mem_append_left _ (List.mem_of_getElem? (i := 3) rfl))) (List.mem_cons_of_mem _ (List.mem_append_left _ (List.mem_of_getElem? (i := 4) rfl))) (gi_sub (fun w h => (List.mem_cons_of_mem _ (List.mem_append_right _ (List.mem_append_right _ (List.mem_append_left _ h))))) zg_j114_X12_lays)) rfl rfl rfl (by decide +kernel) ⟨Nat.le_of_ble_eq_true rfl, Nat.le_of_ble_eq_true rfl⟩ 0 rfl rfl rfl rfl (Nat.le_of_ble_eq_true rfl) ⟨Nat.le_of_ble_eq_true rfl, Nat.le_of_ble_eq_true rfl⟩ dX12_feed_17 (fun v ty' w' hp hk' => ?_)
    obtain ⟨I293, A293, L293, hI293, hA293, hV293, r294, rfl, rfl⟩ := hp
    have f295 := IvM_f1 hV293
    have r294 : (I293 1).toInt = (I 1).toInt + 4 := r294
    show GW κ 6 0 0 (wM r g I293 A293 L293) 20 [(0, .ref (r 0)), (1, .int z1), (2, .int z2), (3, .int z3), (4, .int z4), (5, .int z5)] []
    refine g_aload_n hk dX12_feed_20 rfl ?_
    refine g_iload_n hk dX12_feed_21 rfl ?_
    refine g_callV (n := 1) hk (j114_X12_lays l D zt r g I293 A293 L293 z2 hV293 (by omega)) (SP.same _) (fun _ h => h) (gi_V (List.mem_cons_of_mem _ (List.mem_append_left _ (List.mem_of_getElem? (i := 1) rfl))) (List.mem_cons_of_mem _ (List.mem_append_left _ (List.mem_of_getElem? (i := 2) rfl))) (List.mem_cons_of_mem _ (List.mem_append_left _ (List.mem_of_getElem? (i := 3) rfl))) (List.mem_cons_of_mem _ (List.mem_append_left _ (List.mem_of_getElem? (i := 4) rfl))) (gi_sub (fun w h => (List.mem_cons_of_mem _ (List.mem_append_right _ (List.mem_append_right _ (List.mem_append_left _ h))))) zg_j114_X12_lays)) rfl rfl rfl (by decide +kernel) ⟨Nat.le_of_ble_eq_true rfl, Nat.le_of_ble_eq_true rfl⟩ 0 rfl rfl rfl rfl (Nat.le_of_ble_eq_true rfl) ⟨Nat.le_of_ble_eq_true rfl, Nat.le_of_ble_eq_true rfl⟩ dX12_feed_22 (fun v ty' w' hp hk' => ?_)
    obtain ⟨I297, A297, L297, hI297, hA297, hV297, r298, rfl, rfl⟩ := hp
    have f299 := IvM_f1 hV297
    have r298 : (I297 1).toInt = (I293 1).toInt + 4 := r298
    show GW κ 6 0 0 (wM r g I297 A297 L297) 25 [(0, .ref (r 0)), (1, .int z1), (2, .int z2), (3, .int z3), (4, .int z4), (5, .int z5)] []
    refine g_aload_n hk dX12_feed_25 rfl ?_
    refine g_iload_n hk dX12_feed_26 rfl ?_
    refine g_callV (n := 1) hk (j114_X12_lays l D zt r g I297 A297 L297 z3 hV297 (by omega)) (SP.same _) (fun _ h => h) (gi_V (List.mem_cons_of_mem _ (List.mem_append_left _ (List.mem_of_getElem? (i := 1) rfl))) (List.mem_cons_of_mem _ (List.mem_append_left _ (List.mem_of_getElem? (i := 2) rfl))) (List.mem_cons_of_mem _ (List.mem_append_left _ (List.mem_of_getElem? (i := 3) rfl))) (List.mem_cons_of_mem _ (List.mem_append_left _ (List.mem_of_getElem? (i := 4) rfl))) (gi_sub (fun w h => (List.mem_cons_of_mem _ (List.mem_append_right _ (List.mem_append_right _ (List.mem_append_left _ h))))) zg_j114_X12_lays)) rfl rfl rfl (by decide +kernel) ⟨Nat.le_of_ble_eq_true rfl, Nat.le_of_ble_eq_true rfl⟩ 0 rfl rfl rfl rfl (Nat.le_of_ble_eq_true rfl) ⟨Nat.le_of_ble_eq_true rfl, Nat.le_of_ble_eq_true rfl⟩ dX12_feed_27 (fun v ty' w' hp hk' => ?_)
    obtain ⟨I301, A301, L301, hI301, hA301, hV301, r302, rfl, rfl⟩ := hp
    have f303 := IvM_f1 hV301
    have r302 : (I301 1).toInt = (I297 1).toInt + 4 := r302
    show GW κ 6 0 0 (wM r g I301 A301 L301) 30 [(0, .ref (r 0)), (1, .int z1), (2, .int z2), (3, .int z3), (4, .int z4), (5, .int z5)] []
    refine g_aload_n hk dX12_feed_30 rfl ?_
    refine g_iload hk dX12_feed_31 rfl ?_
    refine g_callV (n := 1) hk (j114_X12_lays l D zt r g I301 A301 L301 z4 hV301 (by omega)) (SP.same _) (fun _ h => h) (gi_V (List.mem_cons_of_mem _ (List.mem_append_left _ (List.mem_of_getElem? (i := 1) rfl))) (List.mem_cons_of_mem _ (List.mem_append_left _ (List.mem_of_getElem? (i := 2) rfl))) (List.mem_cons_of_mem _ (List.mem_append_left _ (List.mem_of_getElem? (i := 3) rfl))) (List.mem_cons_of_mem _ (List.mem_append_left _ (List.mem_of_getElem? (i := 4) rfl))) (gi_sub (fun w h => (List.mem_cons_of_mem _ (List.mem_append_right _ (List.mem_append_right _ (List.mem_append_left _ h))))) zg_j114_X12_lays)) rfl rfl rfl (by decide +kernel) ⟨Nat.le_of_ble_eq_true rfl, Nat.le_of_ble_eq_true rfl⟩ 0 rfl rfl rfl rfl (Nat.le_of_ble_eq_true rfl) ⟨Nat.le_of_ble_eq_true rfl, Nat.le_of_ble_eq_true rfl⟩ dX12_feed_33 (fun v ty' w' hp hk' => ?_)
    obtain ⟨I305, A305, L305, hI305, hA305, hV305, r306, rfl, rfl⟩ := hp
    have f307 := IvM_f1 hV305
    have r306 : (I305 1).toInt = (I301 1).toInt + 4 := r306
    show GW κ 6 0 0 (wM r g I305 A305 L305) 36 [(0, .ref (r 0)), (1, .int z1), (2, .int z2), (3, .int z3), (4, .int z4), (5, .int z5)] []
    refine g_aload_n hk dX12_feed_36 rfl ?_
    refine g_iload hk dX12_feed_37 rfl ?_
    refine g_callV (n := 1) hk (j114_X12_lays l D zt r g I305 A305 L305 z5 hV305 (by omega)) (SP.same _) (fun _ h => h) (gi_V (List.mem_cons_of_mem _ (List.mem_append_left _ (List.mem_of_getElem? (i := 1) rfl))) (List.mem_cons_of_mem _ (List.mem_append_left _ (List.mem_of_getElem? (i := 2) rfl))) (List.mem_cons_of_mem _ (List.mem_append_left _ (List.mem_of_getElem? (i := 3) rfl))) (List.mem_cons_of_mem _ (List.mem_append_left _ (List.mem_of_getElem? (i := 4) rfl))) (gi_sub (fun w h => (List.mem_cons_of_mem _ (List.mem_append_right _ (List.mem_append_right _ (List.mem_append_left _ h))))) zg_j114_X12_lays)) rfl rfl rfl (by decide +kernel) ⟨Nat.le_of_ble_eq_true rfl, Nat.le_of_ble_eq_true rfl⟩ 0 rfl rfl rfl rfl (Nat.le_of_ble_eq_true rfl) ⟨Nat.le_of_ble_eq_true rfl, Nat.le_of_ble_eq_true rfl⟩ dX12_feed_39 (fun v ty' w' hp hk' => ?_)
    obtain ⟨I309, A309, L309, hI309, hA309, hV309, r310, rfl, rfl⟩ := hp
    have f311 := IvM_f1 hV309
    have r310 : (I309 1).toInt = (I305 1).toInt + 4 := r310
    show GW κ 6 0 0 (wM r g I309 A309 L309) 42 [(0, .ref (r 0)), (1, .int z1), (2, .int z2), (3, .int z3), (4, .int z4), (5, .int z5)] []
    refine g_aload_n hk dX12_feed_42 rfl ?_
    refine gM_i1 (v := (I309 1)) hk hin12 (List.mem_cons_of_mem _ (List.mem_append_left _ (List.mem_of_getElem? (i := 0) rfl))) dX12_feed_43 rfl ?_
    exact g_iret hk hR rfl ⟨I309, A309, L309, (show Md [1] I I309 from (Md.tr (Md.tr (Md.tr (Md.tr (Md.tr Md.rf hI293 rfl) hI297 rfl) hI301 rfl) hI305 rfl) hI309 rfl)), (show Md [0] A A309 from (Md.tr (Md.tr (Md.tr (Md.tr (Md.tr Md.rf hA293 rfl) hA297 rfl) hA301 rfl) hA305 rfl) hA309 rfl)), hV309, (I309 1), (show (1980 < (I 1).toInt ∧ (I309 1).toInt = -1 ∧ ((I309 1)).toInt = (I 1).toInt) ∨ ((I 1).toInt ≤ 1980 ∧ (I309 1).toInt = (I 1).toInt + 20 ∧ ((I309 1)).toInt = (I 1).toInt + 20) from by omega), (by omega), (by omega), rfl, rfl⟩ dX12_feed_46
  · skip
    refine g_iconst (v := (-1)) hk dX12_feed_13 (by decide) ?_
    have k312 : ((-1) : Int32).toInt = (-1) := rfl
    exact g_iret hk hR rfl ⟨I, A, L, (show Md [1] I I from Md.rf), (show Md [0] A A from Md.rf), hIv, (-1), (show (1980 < (I 1).toInt ∧ ((-1) : Int32).toInt = -1 ∧ ((I 1)).toInt = (I 1).toInt) ∨ ((I 1).toInt ≤ 1980 ∧ ((-1) : Int32).toInt = (I 1).toInt + 20 ∧ ((I 1)).toInt = (I 1).toInt + 20) from by omega), (by decide), (by decide), rfl, rfl⟩ dX12_feed_14
def wo_j115_X12_back : List Cond := [Cond.fieldLink RX12 124 "WarpDeskModel" "taped" "I"]
def wz_j115_X12_back : List Cond := .code yX12_back cX12_back 2 (some .int) :: (wo_j115_X12_back ++ (wsX120 ++ ([] : List Cond)))
theorem zg_j115_X12_back : ∀ w ∈ wz_j115_X12_back, goodWord w = true := zg_cons rfl (zg_app (by decide +kernel) (zg_app zgU_wsX120 zg_nil))
theorem zi_j115_X12_back : ∀ w ∈ wz_j115_X12_back, w ∈ lw_tbl := zi_cons zw_1556 (zi_app (zi_cons zw_1381 zi_nil) (zi_app inX12 zi_nil))
set_option maxHeartbeats 4000000 in
set_option maxRecDepth 100000 in
theorem j115_X12_back (l : Launch) (D : va_G) (zt : Nat × Nat × Nat × (Nat → Nat) × (Nat → Nat)) (r : Nat → Nat) (g : Nat → ClassId) (I : Nat → Int32) (A : Nat → Nat → Int32) (L : Nat → Nat → Int64) (z1 : Int32) (hIv : IvM I A) : GM l D zt (tyM g) yX12_back wz_j115_X12_back ({ frames := 0, cells := 0, slots := 0, locals := 0 } : Room) [.ref (r 0), .int z1] (wM r g I A L) (fun v _ w' => ∃ (I' : Nat → Int32) (A' : Nat → Nat → Int32) (L' : Nat → Nat → Int64), Md [1] I I' ∧ Md [] A A' ∧ IvM I' A' ∧ ∃ y0 : Int32, (((z1.toInt < 0 ∨ (I 1).toInt < z1.toInt) ∧ y0.toInt = -1 ∧ (I' 1).toInt = (I 1).toInt) ∨ (0 ≤ z1.toInt ∧ z1.toInt ≤ (I 1).toInt ∧ y0.toInt = (I 1).toInt - z1.toInt ∧ (I' 1).toInt = (I 1).toInt - z1.toInt)) ∧ ((-2000) ≤ y0.toInt) ∧ (y0.toInt ≤ 2000) ∧ v = some (.int y0) ∧ w' = wM r g I' A' L') 0 0 := by
  refine GM.of (cc := cX12_back) (maxL := 2) (ret := (some .int)) (own := RX12) (lv := [(0, .ref (r 0)), (1, .int z1)]) (by decide) rfl rfl (Nat.le_of_ble_eq_true rfl) rfl (fun κ sz hk hR hN => ?_)
  have hin12 : ∀ w ∈ u_ws RX12 TX12 55, w ∈ wz_j115_X12_back := fun w h => (List.mem_cons_of_mem _ (List.mem_append_right _ (List.mem_append_left _ h)))
  refine g_iload_n hk dX12_back_0 rfl ?_
  have b313l := Int32.le_toInt z1
  have b313h := Int32.toInt_lt z1
  refine g_if_lt (tgt := 12) (a := z1.toInt) hk dX12_back_1 (by decide) rfl (fun c314 => ?_) (fun c314 => ?_)
  · skip
    refine g_iconst (v := (-1)) hk dX12_back_12 (by decide) ?_
    have f315 := IvM_f1 hIv
    have k316 : ((-1) : Int32).toInt = (-1) := rfl
    exact g_iret hk hR rfl ⟨I, A, L, (show Md [1] I I from Md.rf), (show Md [] A A from Md.rf), hIv, (-1), (show ((z1.toInt < 0 ∨ (I 1).toInt < z1.toInt) ∧ ((-1) : Int32).toInt = -1 ∧ ((I 1)).toInt = (I 1).toInt) ∨ (0 ≤ z1.toInt ∧ z1.toInt ≤ (I 1).toInt ∧ ((-1) : Int32).toInt = (I 1).toInt - z1.toInt ∧ ((I 1)).toInt = (I 1).toInt - z1.toInt) from by omega), (by decide), (by decide), rfl, rfl⟩ dX12_back_13
  · skip
    refine g_iload_n hk dX12_back_4 rfl ?_
    refine g_aload_n hk dX12_back_5 rfl ?_
    refine gM_i1 (v := (I 1)) hk hin12 (List.mem_cons_of_mem _ (List.mem_append_left _ (List.mem_of_getElem? (i := 0) rfl))) dX12_back_6 rfl ?_
    have f317 := IvM_f1 hIv
    refine g_icmp_le (tgt := 14) (a := z1.toInt) (b := (I 1).toInt) hk dX12_back_9 (by decide) rfl rfl (fun c318 => ?_) (fun c318 => ?_)
    · skip
      refine g_aload_n hk dX12_back_14 rfl ?_
      refine g_dup hk dX12_back_15 rfl ?_
      refine gM_i1 (v := (I 1)) hk hin12 (List.mem_cons_of_mem _ (List.mem_append_left _ (List.mem_of_getElem? (i := 0) rfl))) dX12_back_16 rfl ?_
      refine g_iload_n hk dX12_back_19 rfl ?_
      refine g_isub hk dX12_back_20 ?_
      refine g_topi (fun y319 ey319 => ?_)
      have hy319 : y319.toInt = (I 1).toInt - z1.toInt := i32_sub ey319 rfl rfl (by omega) (by omega)
      refine pM_i1 hk hin12 (List.mem_cons_of_mem _ (List.mem_append_left _ (List.mem_of_getElem? (i := 0) rfl))) dX12_back_21 ?_
      refine g_aload_n hk dX12_back_24 rfl ?_
      refine gM_i1 (v := y319) hk hin12 (List.mem_cons_of_mem _ (List.mem_append_left _ (List.mem_of_getElem? (i := 0) rfl))) dX12_back_25 rfl ?_
      exact g_iret hk hR rfl ⟨(upd I 1 y319), A, L, (show Md [1] I (upd I 1 y319) from (Md.up Md.rf rfl)), (show Md [] A A from Md.rf), ⟨(show 0 ≤ y319.toInt ∧ y319.toInt ≤ 2000 from ⟨by omega, by omega⟩), (IvM_f2 (I := I) (A := A) hIv), (IvM_f3 (I := I) (A := A) hIv), (IvM_f4 (I := I) (A := A) hIv), (IvM_f6 (I := I) (A := A) hIv), (IvM_f8 (I := I) (A := A) hIv), (IvM_f15 (I := I) (A := A) hIv), (IvM_f16 (I := I) (A := A) hIv), (IvM_f17 (I := I) (A := A) hIv), (IvM_f18 (I := I) (A := A) hIv), (IvM_f22 (I := I) (A := A) hIv), (IvM_f23 (I := I) (A := A) hIv), (IvM_f24 (I := I) (A := A) hIv), (IvM_a11 (I := I) (A := A) hIv), (IvM_a26 (I := I) (A := A) hIv), (IvM_s8_0 (I := I) (A := A) hIv), (IvM_s8_1 (I := I) (A := A) hIv), (IvM_s10_0 (I := I) (A := A) hIv), (IvM_s10_1 (I := I) (A := A) hIv), (IvM_s17_0 (I := I) (A := A) hIv), (IvM_s17_164 (I := I) (A := A) hIv), (IvM_lv (I := I) (A := A) hIv), (IvM_sd (I := I) (A := A) hIv), (IvM_nq (I := I) (A := A) hIv), (IvM_hr (I := I) (A := A) hIv), (IvM_hh (I := I) (A := A) hIv), trivial⟩, y319, (show ((z1.toInt < 0 ∨ (I 1).toInt < z1.toInt) ∧ y319.toInt = -1 ∧ (y319).toInt = (I 1).toInt) ∨ (0 ≤ z1.toInt ∧ z1.toInt ≤ (I 1).toInt ∧ y319.toInt = (I 1).toInt - z1.toInt ∧ (y319).toInt = (I 1).toInt - z1.toInt) from by omega), (by omega), (by omega), rfl, rfl⟩ dX12_back_28
    · skip
      refine g_iconst (v := (-1)) hk dX12_back_12 (by decide) ?_
      have k320 : ((-1) : Int32).toInt = (-1) := rfl
      exact g_iret hk hR rfl ⟨I, A, L, (show Md [1] I I from Md.rf), (show Md [] A A from Md.rf), hIv, (-1), (show ((z1.toInt < 0 ∨ (I 1).toInt < z1.toInt) ∧ ((-1) : Int32).toInt = -1 ∧ ((I 1)).toInt = (I 1).toInt) ∨ (0 ≤ z1.toInt ∧ z1.toInt ≤ (I 1).toInt ∧ ((-1) : Int32).toInt = (I 1).toInt - z1.toInt ∧ ((I 1)).toInt = (I 1).toInt - z1.toInt) from by omega), (by decide), (by decide), rfl, rfl⟩ dX12_back_13
def wo_j118_X12_byteAt : List Cond := [Cond.fieldLink RX12 130 "WarpDeskModel" "size" "I", Cond.fieldLink RX12 17 "WarpDeskModel" "text" "[B"]
def wz_j118_X12_byteAt : List Cond := .code yX12_byteAt cX12_byteAt 2 (some .int) :: (wo_j118_X12_byteAt ++ (wsX120 ++ ([] : List Cond)))
theorem zg_j118_X12_byteAt : ∀ w ∈ wz_j118_X12_byteAt, goodWord w = true := zg_cons rfl (zg_app (by decide +kernel) (zg_app zgU_wsX120 zg_nil))
theorem zi_j118_X12_byteAt : ∀ w ∈ wz_j118_X12_byteAt, w ∈ lw_tbl := zi_cons zw_1568 (zi_app (zi_cons zw_1383 (zi_cons zw_1382 zi_nil)) (zi_app inX12 zi_nil))
set_option maxHeartbeats 4000000 in
set_option maxRecDepth 100000 in
theorem j118_X12_byteAt (l : Launch) (D : va_G) (zt : Nat × Nat × Nat × (Nat → Nat) × (Nat → Nat)) (r : Nat → Nat) (g : Nat → ClassId) (I : Nat → Int32) (A : Nat → Nat → Int32) (L : Nat → Nat → Int64) (z1 : Int32) (hIv : IvM I A) (hp0 : 0 ≤ z1.toInt) : GM l D zt (tyM g) yX12_byteAt wz_j118_X12_byteAt ({ frames := 0, cells := 0, slots := 0, locals := 0 } : Room) [.ref (r 0), .int z1] (wM r g I A L) (fun v _ w' => (v = some (.int 0) ∧ w' = wM r g I A L) ∨ (∃ y0 : Int32, (z1.toInt ≤ 1999) ∧ (0 ≤ y0.toInt) ∧ (y0.toInt ≤ 255) ∧ v = some (.int y0) ∧ w' = wM r g I A L)) 0 0 := by
  refine GM.of (cc := cX12_byteAt) (maxL := 2) (ret := (some .int)) (own := RX12) (lv := [(0, .ref (r 0)), (1, .int z1)]) (by decide) rfl rfl (Nat.le_of_ble_eq_true rfl) rfl (fun κ sz hk hR hN => ?_)
  have hin12 : ∀ w ∈ u_ws RX12 TX12 55, w ∈ wz_j118_X12_byteAt := fun w h => (List.mem_cons_of_mem _ (List.mem_append_right _ (List.mem_append_left _ h)))
  refine g_iload_n hk dX12_byteAt_0 rfl ?_
  refine g_aload_n hk dX12_byteAt_1 rfl ?_
  refine gM_i2 (v := (I 2)) hk hin12 (List.mem_cons_of_mem _ (List.mem_append_left _ (List.mem_of_getElem? (i := 0) rfl))) dX12_byteAt_2 rfl ?_
  have f329 := IvM_f2 hIv
  have b330l := Int32.le_toInt z1
  have b330h := Int32.toInt_lt z1
  refine g_icmp_ge (tgt := 21) (a := z1.toInt) (b := (I 2).toInt) hk dX12_byteAt_5 (by decide) rfl rfl (fun c331 => ?_) (fun c331 => ?_)
  · skip
    refine g_iconst (v := 0) hk dX12_byteAt_21 (by decide) ?_
    exact g_iret hk hR rfl (Or.inl ⟨rfl, rfl⟩) dX12_byteAt_22
  · skip
    refine g_aload_n hk dX12_byteAt_8 rfl ?_
    refine gM_r0_3 hk hin12 (List.mem_cons_of_mem _ (List.mem_append_left _ (List.mem_of_getElem? (i := 1) rfl))) dX12_byteAt_9 ?_
    refine g_iload_n hk dX12_byteAt_12 rfl ?_
    refine lM_1 (v := (A 1 z1.toNatClampNeg)) hk (vp_in_iff.mpr ⟨by omega, by omega⟩) rfl dX12_byteAt_13 ?_
    refine g_sipush (v := 255) hk dX12_byteAt_14 (by decide) ?_
    have b332l := Int32.le_toInt (A 1 z1.toNatClampNeg)
    have b332h := Int32.toInt_lt (A 1 z1.toNatClampNeg)
    refine g_iand hk dX12_byteAt_17 ?_
    refine g_topi (fun y333 ey333 => ?_)
    have hy333 : 0 ≤ y333.toInt ∧ y333.toInt ≤ 255 := i32_mask 8 ey333 (by decide) (by decide)
    refine g_goto (tgt := 22) hk dX12_byteAt_18 (by decide) ?_
    exact g_iret hk hR rfl (Or.inr (⟨y333, (by omega), (by omega), (by omega), rfl, rfl⟩)) dX12_byteAt_22
def wo_j119_X12_isLetter : List Cond := []
def wz_j119_X12_isLetter : List Cond := .code yX12_isLetter cX12_isLetter 1 (some .boolean) :: (wo_j119_X12_isLetter ++ ([] : List Cond))
theorem zg_j119_X12_isLetter : ∀ w ∈ wz_j119_X12_isLetter, goodWord w = true := zg_cons rfl (zg_app (by decide +kernel) zg_nil)
theorem zi_j119_X12_isLetter : ∀ w ∈ wz_j119_X12_isLetter, w ∈ lw_tbl := zi_cons zw_1575 (zi_app zi_nil zi_nil)
set_option maxHeartbeats 4000000 in
set_option maxRecDepth 100000 in
theorem j119_X12_isLetter (l : Launch) (D : va_G) (zt : Nat × Nat × Nat × (Nat → Nat) × (Nat → Nat)) (r : Nat → Nat) (g : Nat → ClassId) (I : Nat → Int32) (A : Nat → Nat → Int32) (L : Nat → Nat → Int64) (z0 : Int32) (hIv : IvM I A) : GM l D zt (tyM g) yX12_isLetter wz_j119_X12_isLetter ({ frames := 0, cells := 0, slots := 0, locals := 0 } : Room) [.int z0] (wM r g I A L) (fun v _ w' => (v = some (.int 0) ∧ w' = wM r g I A L) ∨ ((¬ (z0.toInt < 97)) ∧ (¬ (122 < z0.toInt)) ∧ (97 ≤ z0.toInt) ∧ (z0.toInt ≤ 122) ∧ v = some (.int 1) ∧ w' = wM r g I A L)) 0 0 := by
  refine GM.of (cc := cX12_isLetter) (maxL := 1) (ret := (some .boolean)) (own := RX12) (lv := [(0, .int z0)]) (by decide) rfl rfl (Nat.le_of_ble_eq_true rfl) rfl (fun κ sz hk hR hN => ?_)
  refine g_iload_n hk dX12_isLetter_0 rfl ?_
  refine g_bipush (v := 97) hk dX12_isLetter_1 (by decide) ?_
  have b341l := Int32.le_toInt z0
  have b341h := Int32.toInt_lt z0
  refine g_icmp_lt (tgt := 16) (a := z0.toInt) (b := 97) hk dX12_isLetter_3 (by decide) rfl rfl (fun c342 => ?_) (fun c342 => ?_)
  · skip
    refine g_iconst (v := 0) hk dX12_isLetter_16 (by decide) ?_
    exact g_iret hk hR rfl (Or.inl ⟨rfl, rfl⟩) dX12_isLetter_17
  · skip
    refine g_iload_n hk dX12_isLetter_6 rfl ?_
    refine g_bipush (v := 122) hk dX12_isLetter_7 (by decide) ?_
    refine g_icmp_gt (tgt := 16) (a := z0.toInt) (b := 122) hk dX12_isLetter_9 (by decide) rfl rfl (fun c343 => ?_) (fun c343 => ?_)
    · skip
      refine g_iconst (v := 0) hk dX12_isLetter_16 (by decide) ?_
      exact g_iret hk hR rfl (Or.inl ⟨rfl, rfl⟩) dX12_isLetter_17
    · skip
      refine g_iconst (v := 1) hk dX12_isLetter_12 (by decide) ?_
      refine g_goto (tgt := 17) hk dX12_isLetter_13 (by decide) ?_
      exact g_iret hk hR rfl (Or.inr (⟨c342, c343, (by omega), (by omega), rfl, rfl⟩)) dX12_isLetter_17
def wo_j120_X12_isDigit : List Cond := []
def wz_j120_X12_isDigit : List Cond := .code yX12_isDigit cX12_isDigit 1 (some .boolean) :: (wo_j120_X12_isDigit ++ ([] : List Cond))
theorem zg_j120_X12_isDigit : ∀ w ∈ wz_j120_X12_isDigit, goodWord w = true := zg_cons rfl (zg_app (by decide +kernel) zg_nil)
theorem zi_j120_X12_isDigit : ∀ w ∈ wz_j120_X12_isDigit, w ∈ lw_tbl := zi_cons zw_1578 (zi_app zi_nil zi_nil)
set_option maxHeartbeats 4000000 in
set_option maxRecDepth 100000 in
theorem j120_X12_isDigit (l : Launch) (D : va_G) (zt : Nat × Nat × Nat × (Nat → Nat) × (Nat → Nat)) (r : Nat → Nat) (g : Nat → ClassId) (I : Nat → Int32) (A : Nat → Nat → Int32) (L : Nat → Nat → Int64) (z0 : Int32) (hIv : IvM I A) : GM l D zt (tyM g) yX12_isDigit wz_j120_X12_isDigit ({ frames := 0, cells := 0, slots := 0, locals := 0 } : Room) [.int z0] (wM r g I A L) (fun v _ w' => (v = some (.int 0) ∧ w' = wM r g I A L) ∨ ((¬ (z0.toInt < 48)) ∧ (¬ (57 < z0.toInt)) ∧ (48 ≤ z0.toInt) ∧ (z0.toInt ≤ 57) ∧ v = some (.int 1) ∧ w' = wM r g I A L)) 0 0 := by
  refine GM.of (cc := cX12_isDigit) (maxL := 1) (ret := (some .boolean)) (own := RX12) (lv := [(0, .int z0)]) (by decide) rfl rfl (Nat.le_of_ble_eq_true rfl) rfl (fun κ sz hk hR hN => ?_)
  refine g_iload_n hk dX12_isDigit_0 rfl ?_
  refine g_bipush (v := 48) hk dX12_isDigit_1 (by decide) ?_
  have b351l := Int32.le_toInt z0
  have b351h := Int32.toInt_lt z0
  refine g_icmp_lt (tgt := 16) (a := z0.toInt) (b := 48) hk dX12_isDigit_3 (by decide) rfl rfl (fun c352 => ?_) (fun c352 => ?_)
  · skip
    refine g_iconst (v := 0) hk dX12_isDigit_16 (by decide) ?_
    exact g_iret hk hR rfl (Or.inl ⟨rfl, rfl⟩) dX12_isDigit_17
  · skip
    refine g_iload_n hk dX12_isDigit_6 rfl ?_
    refine g_bipush (v := 57) hk dX12_isDigit_7 (by decide) ?_
    refine g_icmp_gt (tgt := 16) (a := z0.toInt) (b := 57) hk dX12_isDigit_9 (by decide) rfl rfl (fun c353 => ?_) (fun c353 => ?_)
    · skip
      refine g_iconst (v := 0) hk dX12_isDigit_16 (by decide) ?_
      exact g_iret hk hR rfl (Or.inl ⟨rfl, rfl⟩) dX12_isDigit_17
    · skip
      refine g_iconst (v := 1) hk dX12_isDigit_12 (by decide) ?_
      refine g_goto (tgt := 17) hk dX12_isDigit_13 (by decide) ?_
      exact g_iret hk hR rfl (Or.inr (⟨c352, c353, (by omega), (by omega), rfl, rfl⟩)) dX12_isDigit_17
def wo_j122_X12_token : List Cond := [Cond.fieldLink RX12 20 "WarpDeskModel" "tKind" "[I", Cond.fieldLink RX12 139 "WarpDeskModel" "tokens" "I", Cond.fieldLink RX12 24 "WarpDeskModel" "tPlace" "[I", Cond.fieldLink RX12 27 "WarpDeskModel" "tValue" "[I", Cond.fieldLink RX12 30 "WarpDeskModel" "tName" "[J"]
def wz_j122_X12_token : List Cond := .code yX12_token cX12_token 6 none :: (wo_j122_X12_token ++ (wsX120 ++ ([] : List Cond)))
theorem zg_j122_X12_token : ∀ w ∈ wz_j122_X12_token, goodWord w = true := zg_cons rfl (zg_app (by decide +kernel) (zg_app zgU_wsX120 zg_nil))
theorem zi_j122_X12_token : ∀ w ∈ wz_j122_X12_token, w ∈ lw_tbl := zi_cons zw_1572 (zi_app (zi_cons zw_1384 (zi_cons zw_1389 (zi_cons zw_1385 (zi_cons zw_1386 (zi_cons zw_1387 zi_nil))))) (zi_app inX12 zi_nil))
set_option maxHeartbeats 4000000 in
set_option maxRecDepth 100000 in
theorem j122_X12_token (l : Launch) (D : va_G) (zt : Nat × Nat × Nat × (Nat → Nat) × (Nat → Nat)) (r : Nat → Nat) (g : Nat → ClassId) (I : Nat → Int32) (A : Nat → Nat → Int32) (L : Nat → Nat → Int64) (z1 : Int32) (z2 : Int32) (z3 : Int32) (z4 : Int64) (hIv : IvM I A) (hp0 : (I 3).toInt ≤ 400) : GM l D zt (tyM g) yX12_token wz_j122_X12_token ({ frames := 0, cells := 0, slots := 0, locals := 0 } : Room) [.ref (r 0), .int z1, .int z2, .int z3, .long z4] (wM r g I A L) (fun v _ w' => ∃ (I' : Nat → Int32) (A' : Nat → Nat → Int32) (L' : Nat → Nat → Int64), Md [3] I I' ∧ Md [2, 3, 4] A A' ∧ IvM I' A' ∧ ((I' 3).toInt = (I 3).toInt + 1) ∧ v = none ∧ w' = wM r g I' A' L') 0 0 := by
  refine GM.of (cc := cX12_token) (maxL := 6) (ret := none) (own := RX12) (lv := [(0, .ref (r 0)), (1, .int z1), (2, .int z2), (3, .int z3), (4, .long z4)]) (by decide) rfl rfl (Nat.le_of_ble_eq_true rfl) rfl (fun κ sz hk hR hN => ?_)
  have hin12 : ∀ w ∈ u_ws RX12 TX12 55, w ∈ wz_j122_X12_token := fun w h => (List.mem_cons_of_mem _ (List.mem_append_right _ (List.mem_append_left _ h)))
  refine g_aload_n hk dX12_token_0 rfl ?_
  refine gM_r0_5 hk hin12 (List.mem_cons_of_mem _ (List.mem_append_left _ (List.mem_of_getElem? (i := 0) rfl))) dX12_token_1 ?_
  refine g_aload_n hk dX12_token_4 rfl ?_
  refine gM_i3 (v := (I 3)) hk hin12 (List.mem_cons_of_mem _ (List.mem_append_left _ (List.mem_of_getElem? (i := 1) rfl))) dX12_token_5 rfl ?_
  have f369 := IvM_f3 hIv
  refine g_iload_n hk dX12_token_8 rfl ?_
  refine sM_2 (j := (I 3).toNatClampNeg) hk (vp_in_iff.mpr ⟨by omega, by omega⟩) rfl dX12_token_9 ?_
  refine g_aload_n hk dX12_token_10 rfl ?_
  refine gM_r0_6 hk hin12 (List.mem_cons_of_mem _ (List.mem_append_left _ (List.mem_of_getElem? (i := 2) rfl))) dX12_token_11 ?_
  refine g_aload_n hk dX12_token_14 rfl ?_
  refine gM_i3 (v := (I 3)) hk hin12 (List.mem_cons_of_mem _ (List.mem_append_left _ (List.mem_of_getElem? (i := 1) rfl))) dX12_token_15 rfl ?_
  refine g_iload_n hk dX12_token_18 rfl ?_
  refine sM_3 (j := (I 3).toNatClampNeg) hk (vp_in_iff.mpr ⟨by omega, by omega⟩) rfl dX12_token_19 ?_
  refine g_aload_n hk dX12_token_20 rfl ?_
  refine gM_r0_7 hk hin12 (List.mem_cons_of_mem _ (List.mem_append_left _ (List.mem_of_getElem? (i := 3) rfl))) dX12_token_21 ?_
  refine g_aload_n hk dX12_token_24 rfl ?_
  refine gM_i3 (v := (I 3)) hk hin12 (List.mem_cons_of_mem _ (List.mem_append_left _ (List.mem_of_getElem? (i := 1) rfl))) dX12_token_25 rfl ?_
  refine g_iload_n hk dX12_token_28 rfl ?_
  refine sM_4 (j := (I 3).toNatClampNeg) hk (vp_in_iff.mpr ⟨by omega, by omega⟩) rfl dX12_token_29 ?_
  refine g_aload_n hk dX12_token_30 rfl ?_
  refine gM_r0_8 hk hin12 (List.mem_cons_of_mem _ (List.mem_append_left _ (List.mem_of_getElem? (i := 4) rfl))) dX12_token_31 ?_
  refine g_aload_n hk dX12_token_34 rfl ?_
  refine gM_i3 (v := (I 3)) hk hin12 (List.mem_cons_of_mem _ (List.mem_append_left _ (List.mem_of_getElem? (i := 1) rfl))) dX12_token_35 rfl ?_
  refine g_lload hk dX12_token_38 rfl ?_
  refine sM_5 (j := (I 3).toNatClampNeg) hk (vp_in_iff.mpr ⟨by omega, by omega⟩) rfl dX12_token_40 ?_
  refine g_aload_n hk dX12_token_41 rfl ?_
  refine g_dup hk dX12_token_42 rfl ?_
  refine gM_i3 (v := (I 3)) hk hin12 (List.mem_cons_of_mem _ (List.mem_append_left _ (List.mem_of_getElem? (i := 1) rfl))) dX12_token_43 rfl ?_
  refine g_iconst (v := 1) hk dX12_token_46 (by decide) ?_
  refine g_iadd hk dX12_token_47 ?_
  refine g_topi (fun y370 ey370 => ?_)
  have hy370 : y370.toInt = (I 3).toInt + 1 := i32_add ey370 rfl rfl (by omega) (by omega)
  refine pM_i3 hk hin12 (List.mem_cons_of_mem _ (List.mem_append_left _ (List.mem_of_getElem? (i := 1) rfl))) dX12_token_48 ?_
  exact g_vret hk hR ⟨(upd I 3 y370), (up3 (up3 (up3 A 2 ((I 3).toNatClampNeg) z1) 3 ((I 3).toNatClampNeg) z2) 4 ((I 3).toNatClampNeg) z3), (up3L L 5 ((I 3).toNatClampNeg) z4), (show Md [3] I (upd I 3 y370) from (Md.up Md.rf rfl)), (show Md [2, 3, 4] A (up3 (up3 (up3 A 2 ((I 3).toNatClampNeg) z1) 3 ((I 3).toNatClampNeg) z2) 4 ((I 3).toNatClampNeg) z3) from (Md.up3 (Md.up3 (Md.up3 Md.rf rfl) rfl) rfl)), ⟨(IvM_f1 (I := I) (A := A) hIv), (IvM_f2 (I := I) (A := A) hIv), (show 0 ≤ y370.toInt ∧ y370.toInt ≤ 401 from ⟨by omega, by omega⟩), (IvM_f4 (I := I) (A := A) hIv), (IvM_f6 (I := I) (A := A) hIv), (IvM_f8 (I := I) (A := A) hIv), (IvM_f15 (I := I) (A := A) hIv), (IvM_f16 (I := I) (A := A) hIv), (IvM_f17 (I := I) (A := A) hIv), (IvM_f18 (I := I) (A := A) hIv), (IvM_f22 (I := I) (A := A) hIv), (IvM_f23 (I := I) (A := A) hIv), (IvM_f24 (I := I) (A := A) hIv), (IvM_a11 (I := I) (A := A) hIv), (IvM_a26 (I := I) (A := A) hIv), (IvM_s8_0 (I := I) (A := A) hIv), (IvM_s8_1 (I := I) (A := A) hIv), (IvM_s10_0 (I := I) (A := A) hIv), (IvM_s10_1 (I := I) (A := A) hIv), (IvM_s17_0 (I := I) (A := A) hIv), (IvM_s17_164 (I := I) (A := A) hIv), (IvM_lv (I := I) (A := A) hIv), (IvM_sd (I := I) (A := A) hIv), (IvM_nq (I := I) (A := A) hIv), (IvM_hr (I := I) (A := A) hIv), (IvM_hh (I := I) (A := A) hIv), trivial⟩, (by rw [show ((upd I 3 y370) 3) = y370 from rfl] <;> omega), rfl, rfl⟩ dX12_token_51
def wo_j121_X12_sign : List Cond := [Cond.methodLink RX12 146 yX12_token, Cond.instanceMethod yX12_token, Cond.selects RX12 yX12_token yX12_token, Cond.initialized RX12]
def wz_j121_X12_sign : List Cond := .code yX12_sign cX12_sign 4 (some .int) :: (wo_j121_X12_sign ++ (wz_j122_X12_token ++ ([] : List Cond)))
theorem zg_j121_X12_sign : ∀ w ∈ wz_j121_X12_sign, goodWord w = true := zg_cons rfl (zg_app (by decide +kernel) (zg_app zg_j122_X12_token zg_nil))
theorem zi_j121_X12_sign : ∀ w ∈ wz_j121_X12_sign, w ∈ lw_tbl := zi_cons zw_1582 (zi_app (zi_cons zw_1569 (zi_cons zw_1571 (zi_cons zw_50 (zi_cons zw_115 zi_nil)))) (zi_app zi_j122_X12_token zi_nil))
set_option maxHeartbeats 4000000 in
set_option maxRecDepth 100000 in
theorem j121_X12_sign (l : Launch) (D : va_G) (zt : Nat × Nat × Nat × (Nat → Nat) × (Nat → Nat)) (r : Nat → Nat) (g : Nat → ClassId) (I : Nat → Int32) (A : Nat → Nat → Int32) (L : Nat → Nat → Int64) (z1 : Int32) (z2 : Int32) (z3 : Int32) (hIv : IvM I A) (hp0 : 0 ≤ z1.toInt) (hp1 : z1.toInt ≤ 2000) (hp2 : (I 3).toInt ≤ 400) : GM l D zt (tyM g) yX12_sign wz_j121_X12_sign ({ frames := 1, cells := 0, slots := 0, locals := 25 } : Room) [.ref (r 0), .int z1, .int z2, .int z3] (wM r g I A L) (fun v _ w' => ∃ (I' : Nat → Int32) (A' : Nat → Nat → Int32) (L' : Nat → Nat → Int64), Md [3] I I' ∧ Md [2, 3, 4] A A' ∧ IvM I' A' ∧ ∃ y0 : Int32, ((I' 3).toInt = (I 3).toInt + 1) ∧ (1 ≤ y0.toInt) ∧ (y0.toInt ≤ 1) ∧ v = some (.int y0) ∧ w' = wM r g I' A' L') 0 0 := by
  refine GM.of (cc := cX12_sign) (maxL := 4) (ret := (some .int)) (own := RX12) (lv := [(0, .ref (r 0)), (1, .int z1), (2, .int z2), (3, .int z3)]) (by decide) rfl rfl (Nat.le_of_ble_eq_true rfl) rfl (fun κ sz hk hR hN => ?_)
  refine g_aload_n hk dX12_sign_0 rfl ?_
  refine g_iload_n hk dX12_sign_1 rfl ?_
  refine g_bipush (v := 59) hk dX12_sign_2 (by decide) ?_
  have b366l := Int32.le_toInt z2
  have b366h := Int32.toInt_lt z2
  refine g_icmp_ne (tgt := 11) (a := z2.toInt) (b := 59) hk dX12_sign_4 (by decide) rfl rfl (fun c367 => ?_) (fun c367 => ?_)
  · skip
    refine g_iload_n hk dX12_sign_11 rfl ?_
    refine g_bipush (v := 45) hk dX12_sign_12 (by decide) ?_
    refine g_icmp_ne (tgt := 22) (a := z2.toInt) (b := 45) hk dX12_sign_14 (by decide) rfl rfl (fun c368 => ?_) (fun c368 => ?_)
    · skip
      refine g_iconst (v := 3) hk dX12_sign_22 (by decide) ?_
      refine g_iload_n hk dX12_sign_23 rfl ?_
      refine g_iconst (v := 0) hk dX12_sign_24 (by decide) ?_
      refine g_lconst (v := 0) hk dX12_sign_25 (by decide) ?_
      have k371 : (3 : Int32).toInt = 3 := rfl
      have k372 : (0 : Int32).toInt = 0 := rfl
      have f373 := IvM_f3 hIv
      refine g_callV (n := 4) hk (j122_X12_token l D zt r g I A L 3 z1 0 0 hIv (by omega)) (SP.same _) (fun _ h => h) (gi_V (List.mem_cons_of_mem _ (List.mem_append_left _ (List.mem_of_getElem? (i := 0) rfl))) (List.mem_cons_of_mem _ (List.mem_append_left _ (List.mem_of_getElem? (i := 1) rfl))) (List.mem_cons_of_mem _ (List.mem_append_left _ (List.mem_of_getElem? (i := 2) rfl))) (List.mem_cons_of_mem _ (List.mem_append_left _ (List.mem_of_getElem? (i := 3) rfl))) (gi_sub (fun w h => (List.mem_cons_of_mem _ (List.mem_append_right _ (List.mem_append_left _ h)))) zg_j122_X12_token)) rfl rfl rfl (by decide +kernel) ⟨Nat.le_of_ble_eq_true rfl, Nat.le_of_ble_eq_true rfl⟩ 0 rfl rfl rfl rfl (Nat.le_of_ble_eq_true rfl) ⟨Nat.le_of_ble_eq_true rfl, Nat.le_of_ble_eq_true rfl⟩ dX12_sign_26 (fun v ty' w' hp hk' => ?_)
      obtain ⟨I375, A375, L375, hI375, hA375, hV375, r376, rfl, rfl⟩ := hp
      have f377 := IvM_f3 hV375
      show GW κ 4 0 0 (wM r g I375 A375 L375) 29 [(0, .ref (r 0)), (1, .int z1), (2, .int z2), (3, .int z3)] []
      refine g_iconst (v := 1) hk dX12_sign_29 (by decide) ?_
      exact g_iret hk hR rfl ⟨I375, A375, L375, (show Md [3] I I375 from (Md.tr Md.rf hI375 rfl)), (show Md [2, 3, 4] A A375 from (Md.tr Md.rf hA375 rfl)), hV375, 1, (by omega), (by decide), (by decide), rfl, rfl⟩ dX12_sign_30
    · skip
      refine g_bipush (v := 9) hk dX12_sign_17 (by decide) ?_
      refine g_goto (tgt := 23) hk dX12_sign_19 (by decide) ?_
      refine g_iload_n hk dX12_sign_23 rfl ?_
      refine g_iconst (v := 0) hk dX12_sign_24 (by decide) ?_
      refine g_lconst (v := 0) hk dX12_sign_25 (by decide) ?_
      have k378 : (9 : Int32).toInt = 9 := rfl
      have k379 : (0 : Int32).toInt = 0 := rfl
      have f380 := IvM_f3 hIv
      refine g_callV (n := 4) hk (j122_X12_token l D zt r g I A L 9 z1 0 0 hIv (by omega)) (SP.same _) (fun _ h => h) (gi_V (List.mem_cons_of_mem _ (List.mem_append_left _ (List.mem_of_getElem? (i := 0) rfl))) (List.mem_cons_of_mem _ (List.mem_append_left _ (List.mem_of_getElem? (i := 1) rfl))) (List.mem_cons_of_mem _ (List.mem_append_left _ (List.mem_of_getElem? (i := 2) rfl))) (List.mem_cons_of_mem _ (List.mem_append_left _ (List.mem_of_getElem? (i := 3) rfl))) (gi_sub (fun w h => (List.mem_cons_of_mem _ (List.mem_append_right _ (List.mem_append_left _ h)))) zg_j122_X12_token)) rfl rfl rfl (by decide +kernel) ⟨Nat.le_of_ble_eq_true rfl, Nat.le_of_ble_eq_true rfl⟩ 0 rfl rfl rfl rfl (Nat.le_of_ble_eq_true rfl) ⟨Nat.le_of_ble_eq_true rfl, Nat.le_of_ble_eq_true rfl⟩ dX12_sign_26 (fun v ty' w' hp hk' => ?_)
      obtain ⟨I382, A382, L382, hI382, hA382, hV382, r383, rfl, rfl⟩ := hp
      have f384 := IvM_f3 hV382
      show GW κ 4 0 0 (wM r g I382 A382 L382) 29 [(0, .ref (r 0)), (1, .int z1), (2, .int z2), (3, .int z3)] []
      refine g_iconst (v := 1) hk dX12_sign_29 (by decide) ?_
      exact g_iret hk hR rfl ⟨I382, A382, L382, (show Md [3] I I382 from (Md.tr Md.rf hI382 rfl)), (show Md [2, 3, 4] A A382 from (Md.tr Md.rf hA382 rfl)), hV382, 1, (by omega), (by decide), (by decide), rfl, rfl⟩ dX12_sign_30
  · skip
    refine g_iconst (v := 4) hk dX12_sign_7 (by decide) ?_
    refine g_goto (tgt := 23) hk dX12_sign_8 (by decide) ?_
    refine g_iload_n hk dX12_sign_23 rfl ?_
    refine g_iconst (v := 0) hk dX12_sign_24 (by decide) ?_
    refine g_lconst (v := 0) hk dX12_sign_25 (by decide) ?_
    have k385 : (4 : Int32).toInt = 4 := rfl
    have k386 : (0 : Int32).toInt = 0 := rfl
    have f387 := IvM_f3 hIv
    refine g_callV (n := 4) hk (j122_X12_token l D zt r g I A L 4 z1 0 0 hIv (by omega)) (SP.same _) (fun _ h => h) (gi_V (List.mem_cons_of_mem _ (List.mem_append_left _ (List.mem_of_getElem? (i := 0) rfl))) (List.mem_cons_of_mem _ (List.mem_append_left _ (List.mem_of_getElem? (i := 1) rfl))) (List.mem_cons_of_mem _ (List.mem_append_left _ (List.mem_of_getElem? (i := 2) rfl))) (List.mem_cons_of_mem _ (List.mem_append_left _ (List.mem_of_getElem? (i := 3) rfl))) (gi_sub (fun w h => (List.mem_cons_of_mem _ (List.mem_append_right _ (List.mem_append_left _ h)))) zg_j122_X12_token)) rfl rfl rfl (by decide +kernel) ⟨Nat.le_of_ble_eq_true rfl, Nat.le_of_ble_eq_true rfl⟩ 0 rfl rfl rfl rfl (Nat.le_of_ble_eq_true rfl) ⟨Nat.le_of_ble_eq_true rfl, Nat.le_of_ble_eq_true rfl⟩ dX12_sign_26 (fun v ty' w' hp hk' => ?_)
    obtain ⟨I389, A389, L389, hI389, hA389, hV389, r390, rfl, rfl⟩ := hp
    have f391 := IvM_f3 hV389
    show GW κ 4 0 0 (wM r g I389 A389 L389) 29 [(0, .ref (r 0)), (1, .int z1), (2, .int z2), (3, .int z3)] []
    refine g_iconst (v := 1) hk dX12_sign_29 (by decide) ?_
    exact g_iret hk hR rfl ⟨I389, A389, L389, (show Md [3] I I389 from (Md.tr Md.rf hI389 rfl)), (show Md [2, 3, 4] A A389 from (Md.tr Md.rf hA389 rfl)), hV389, 1, (by omega), (by decide), (by decide), rfl, rfl⟩ dX12_sign_30
def wo_j123_X12_appends : List Cond := [Cond.constantLong RX12 133 (27)]
def wz_j123_X12_appends : List Cond := .code yX12_appends cX12_appends 3 (some .long) :: (wo_j123_X12_appends ++ ([] : List Cond))
theorem zg_j123_X12_appends : ∀ w ∈ wz_j123_X12_appends, goodWord w = true := zg_cons rfl (zg_app (by decide +kernel) zg_nil)
theorem zi_j123_X12_appends : ∀ w ∈ wz_j123_X12_appends, w ∈ lw_tbl := zi_cons zw_1370 (zi_app (zi_cons zw_1371 zi_nil) zi_nil)
set_option maxHeartbeats 4000000 in
set_option maxRecDepth 100000 in
theorem j123_X12_appends (l : Launch) (D : va_G) (zt : Nat × Nat × Nat × (Nat → Nat) × (Nat → Nat)) (r : Nat → Nat) (g : Nat → ClassId) (I : Nat → Int32) (A : Nat → Nat → Int32) (L : Nat → Nat → Int64) (z0 : Int64) (z1 : Int32) (hIv : IvM I A) : GM l D zt (tyM g) yX12_appends wz_j123_X12_appends ({ frames := 0, cells := 0, slots := 0, locals := 0 } : Room) [.long z0, .int z1] (wM r g I A L) (fun v _ w' => ∃ y0 : Int64, v = some (.long y0) ∧ w' = wM r g I A L) 0 0 := by
  refine GM.of (cc := cX12_appends) (maxL := 3) (ret := (some .long)) (own := RX12) (lv := [(0, .long z0), (2, .int z1)]) (by decide) rfl rfl (Nat.le_of_ble_eq_true rfl) rfl (fun κ sz hk hR hN => ?_)
  refine g_iload_n hk dX12_appends_0 rfl ?_
  have b1348l := Int32.le_toInt z1
  have b1348h := Int32.toInt_lt z1
  refine g_if_ne (tgt := 8) (a := z1.toInt) hk dX12_appends_1 (by decide) rfl (fun c1349 => ?_) (fun c1349 => ?_)
  · skip
    refine g_ldc2 (v := 27) hk (List.mem_cons_of_mem _ (List.mem_append_left _ (List.mem_of_getElem? (i := 0) rfl))) dX12_appends_8 ?_
    refine g_lload_n hk dX12_appends_11 rfl ?_
    refine g_lmul hk dX12_appends_12 ?_
    refine g_topl (fun y1350 ey1350 => ?_)
    refine g_iload_n hk dX12_appends_13 rfl ?_
    refine g_bipush (v := 97) hk dX12_appends_14 (by decide) ?_
    refine g_isub hk dX12_appends_16 ?_
    refine g_topi (fun y1351 ey1351 => ?_)
    have hy1351 := i32_sub0 ey1351
    refine g_iconst (v := 1) hk dX12_appends_17 (by decide) ?_
    have b1352l := Int32.le_toInt y1351
    have b1352h := Int32.toInt_lt y1351
    refine g_iadd hk dX12_appends_18 ?_
    refine g_topi (fun y1353 ey1353 => ?_)
    refine g_i2l hk dX12_appends_19 rfl ?_
    refine g_topl (fun y1354 ey1354 => ?_)
    refine g_ladd hk dX12_appends_20 ?_
    refine g_topl (fun y1355 ey1355 => ?_)
    exact g_lret hk hR ⟨y1355, rfl, rfl⟩ dX12_appends_21
  · skip
    refine g_lload_n hk dX12_appends_4 rfl ?_
    refine g_goto (tgt := 21) hk dX12_appends_5 (by decide) ?_
    exact g_lret hk hR ⟨z0, rfl, rfl⟩ dX12_appends_21
def wo_j117_X12_cut : List Cond := [Cond.fieldLink RX12 139 "WarpDeskModel" "tokens" "I", Cond.methodLink RX12 142 yX12_byteAt, Cond.instanceMethod yX12_byteAt, Cond.selects RX12 yX12_byteAt yX12_byteAt, Cond.initialized RX12, Cond.fieldLink RX12 130 "WarpDeskModel" "size" "I", Cond.methodLink RX12 150 yX12_isLetter, Cond.static yX12_isLetter, Cond.methodLink RX12 154 yX12_isDigit, Cond.static yX12_isDigit, Cond.methodLink RX12 157 yX12_sign, Cond.instanceMethod yX12_sign, Cond.selects RX12 yX12_sign yX12_sign, Cond.methodLink RX12 146 yX12_token, Cond.instanceMethod yX12_token, Cond.selects RX12 yX12_token yX12_token, Cond.fieldLink RX12 34 "WarpDeskModel" "keys" "[J", Cond.methodLink RX12 135 yX12_appends, Cond.static yX12_appends]
def wz_j117_X12_cut : List Cond := .code yX12_cut cX12_cut 8 none :: (wo_j117_X12_cut ++ (wsX120 ++ (wz_j118_X12_byteAt ++ (wz_j119_X12_isLetter ++ (wz_j120_X12_isDigit ++ (wz_j121_X12_sign ++ (wz_j122_X12_token ++ (wz_j123_X12_appends ++ ([] : List Cond)))))))))
theorem zg_j117_X12_cut : ∀ w ∈ wz_j117_X12_cut, goodWord w = true := zg_cons rfl (zg_app (by decide +kernel) (zg_app zgU_wsX120 (zg_app zg_j118_X12_byteAt (zg_app zg_j119_X12_isLetter (zg_app zg_j120_X12_isDigit (zg_app zg_j121_X12_sign (zg_app zg_j122_X12_token (zg_app zg_j123_X12_appends zg_nil))))))))
theorem zi_j117_X12_cut : ∀ w ∈ wz_j117_X12_cut, w ∈ lw_tbl := zi_cons zw_1564 (zi_app (zi_cons zw_1389 (zi_cons zw_1565 (zi_cons zw_1567 (zi_cons zw_49 (zi_cons zw_115 (zi_cons zw_1383 (zi_cons zw_1573 (zi_cons zw_1574 (zi_cons zw_1576 (zi_cons zw_1577 (zi_cons zw_1579 (zi_cons zw_1581 (zi_cons zw_51 (zi_cons zw_1569 (zi_cons zw_1571 (zi_cons zw_50 (zi_cons zw_1388 (zi_cons zw_1368 (zi_cons zw_1369 zi_nil))))))))))))))))))) (zi_app inX12 (zi_app zi_j118_X12_byteAt (zi_app zi_j119_X12_isLetter (zi_app zi_j120_X12_isDigit (zi_app zi_j121_X12_sign (zi_app zi_j122_X12_token (zi_app zi_j123_X12_appends zi_nil))))))))
set_option maxHeartbeats 4000000 in
set_option maxRecDepth 100000 in
theorem j117_X12_cut (l : Launch) (D : va_G) (zt : Nat × Nat × Nat × (Nat → Nat) × (Nat → Nat)) (r : Nat → Nat) (g : Nat → ClassId) (I : Nat → Int32) (A : Nat → Nat → Int32) (L : Nat → Nat → Int64) (hIv : IvM I A) : GM l D zt (tyM g) yX12_cut wz_j117_X12_cut ({ frames := 2, cells := 0, slots := 0, locals := 48 } : Room) [.ref (r 0)] (wM r g I A L) (fun v _ w' => ∃ (I' : Nat → Int32) (A' : Nat → Nat → Int32) (L' : Nat → Nat → Int64), Md [3] I I' ∧ Md [2, 3, 4] A A' ∧ IvM I' A' ∧ v = none ∧ w' = wM r g I' A' L') 0 0 := by
  refine GM.of (cc := cX12_cut) (maxL := 8) (ret := none) (own := RX12) (lv := [(0, .ref (r 0))]) (by decide) rfl rfl (Nat.le_of_ble_eq_true rfl) rfl (fun κ sz hk hR hN => ?_)
  have hin12 : ∀ w ∈ u_ws RX12 TX12 55, w ∈ wz_j117_X12_cut := fun w h => (List.mem_cons_of_mem _ (List.mem_append_right _ (List.mem_append_left _ h)))
  refine g_aload_n hk dX12_cut_0 rfl ?_
  refine g_iconst (v := 0) hk dX12_cut_1 (by decide) ?_
  refine pM_i3 hk hin12 (List.mem_cons_of_mem _ (List.mem_append_left _ (List.mem_of_getElem? (i := 0) rfl))) dX12_cut_2 ?_
  refine g_iconst (v := 0) hk dX12_cut_5 (by decide) ?_
  refine g_istore_n (lv' := [(1, .int 0), (0, .ref (r 0))]) hk dX12_cut_6 (by decide) rfl ?_
  have lp3229 : ∀ (n3230 : Nat) (x326 : Int32) (I328 : Nat → Int32) (A328 : Nat → Nat → Int32) (L328 : Nat → Nat → Int64), (Md [3] (upd I 3 0) I328) → (Md [2, 3, 4] A A328) → (IvM I328 A328) → (0 ≤ x326.toInt) → (x326.toInt ≤ 2000) → (2001 - x326.toInt + (402 - (I328 3).toInt) < (n3230 : Int)) → (0 < n3230) → GW κ 8 0 0 (wM r g I328 A328 L328) 7 [(1, .int x326), (0, .ref (r 0))] [] := by
    intro n3230
    induction n3230 with
    | zero =>
      intro x326 I328 A328 L328 hI328 hA328 hV328 h3227 h3228 m3231 m3231z
      exact absurd m3231z (Nat.lt_irrefl 0)
    | succ n3230 ih3232 =>
      intro x326 I328 A328 L328 hI328 hA328 hV328 h3227 h3228 m3231 m3231z
      have f3233 := IvM_f3 hV328
      refine g_aload_n hk dX12_cut_7 rfl ?_
      refine gM_i3 (v := (I328 3)) hk hin12 (List.mem_cons_of_mem _ (List.mem_append_left _ (List.mem_of_getElem? (i := 0) rfl))) dX12_cut_8 rfl ?_
      refine g_sipush (v := 400) hk dX12_cut_11 (by decide) ?_
      refine g_icmp_gt (tgt := 294) (a := (I328 3).toInt) (b := 400) hk dX12_cut_14 (by decide) rfl rfl (fun c3234 => ?_) (fun c3234 => ?_)
      · skip
        exact g_vret hk hR ⟨I328, A328, L328, (show Md [3] I I328 from (Md.tr (Md.up Md.rf rfl) hI328 rfl)), (show Md [2, 3, 4] A A328 from (Md.tr Md.rf hA328 rfl)), hV328, rfl, rfl⟩ dX12_cut_294
      · skip
        refine g_aload_n hk dX12_cut_17 rfl ?_
        refine g_iload_n hk dX12_cut_18 rfl ?_
        refine g_callV (n := 1) hk (j118_X12_byteAt l D zt r g I328 A328 L328 x326 hV328 (by omega)) (SP.same _) (fun _ h => h) (gi_V (List.mem_cons_of_mem _ (List.mem_append_left _ (List.mem_of_getElem? (i := 1) rfl))) (List.mem_cons_of_mem _ (List.mem_append_left _ (List.mem_of_getElem? (i := 2) rfl))) (List.mem_cons_of_mem _ (List.mem_append_left _ (List.mem_of_getElem? (i := 3) rfl))) (List.mem_cons_of_mem _ (List.mem_append_left _ (List.mem_of_getElem? (i := 4) rfl))) (gi_sub (fun w h => (List.mem_cons_of_mem _ (List.mem_append_right _ (List.mem_append_right _ (List.mem_append_left _ h))))) zg_j118_X12_byteAt)) rfl rfl rfl (by decide +kernel) ⟨Nat.le_of_ble_eq_true rfl, Nat.le_of_ble_eq_true rfl⟩ 0 rfl rfl rfl rfl (Nat.le_of_ble_eq_true rfl) ⟨Nat.le_of_ble_eq_true rfl, Nat.le_of_ble_eq_true rfl⟩ dX12_cut_19 (fun v ty' w' hp hk' => ?_)
        rcases hp with ⟨rfl, rfl⟩ | ⟨y3237, c3236, c3238, c3239, rfl, rfl⟩
        · skip
          show GW κ 8 0 0 (wM r g I328 A328 L328) 22 [(1, .int x326), (0, .ref (r 0))] [.int 0]
          refine g_istore_n (lv' := [(2, .int 0), (1, .int x326), (0, .ref (r 0))]) hk dX12_cut_22 (by decide) rfl ?_
          refine g_iload_n hk dX12_cut_23 rfl ?_
          refine g_aload_n hk dX12_cut_24 rfl ?_
          refine gM_i2 (v := (I 2)) hk hin12 (List.mem_cons_of_mem _ (List.mem_append_left _ (List.mem_of_getElem? (i := 5) rfl))) dX12_cut_25 (hI328 2 rfl) ?_
          have f3240 := IvM_f2 hIv
          refine g_icmp_lt (tgt := 43) (a := x326.toInt) (b := (I 2).toInt) hk dX12_cut_28 (by decide) rfl rfl (fun c3241 => ?_) (fun c3241 => ?_)
          · skip
            refine g_iload_n hk dX12_cut_43 rfl ?_
            refine g_bipush (v := 9) hk dX12_cut_44 (by decide) ?_
            refine g_icmp_eq (tgt := 67) (a := 0) (b := 9) hk dX12_cut_46 (by decide) rfl rfl (fun z9 => absurd z9 (show ¬ ((0 : Int) = (9 : Int)) from by decide)) (fun _ => ?_)
            refine g_iload_n hk dX12_cut_49 rfl ?_
            refine g_bipush (v := 10) hk dX12_cut_50 (by decide) ?_
            refine g_icmp_eq (tgt := 67) (a := 0) (b := 10) hk dX12_cut_52 (by decide) rfl rfl (fun z9 => absurd z9 (show ¬ ((0 : Int) = (10 : Int)) from by decide)) (fun _ => ?_)
            refine g_iload_n hk dX12_cut_55 rfl ?_
            refine g_bipush (v := 13) hk dX12_cut_56 (by decide) ?_
            refine g_icmp_eq (tgt := 67) (a := 0) (b := 13) hk dX12_cut_58 (by decide) rfl rfl (fun z9 => absurd z9 (show ¬ ((0 : Int) = (13 : Int)) from by decide)) (fun _ => ?_)
            refine g_iload_n hk dX12_cut_61 rfl ?_
            refine g_bipush (v := 32) hk dX12_cut_62 (by decide) ?_
            refine g_icmp_ne (tgt := 73) (a := 0) (b := 32) hk dX12_cut_64 (by decide) rfl rfl (fun _ => ?_) (fun z9 => absurd (show (0 : Int) ≠ (32 : Int) from by decide) z9)
            refine g_iload_n hk dX12_cut_73 rfl ?_
            have k3242 : (0 : Int32).toInt = 0 := rfl
            refine g_callS (n := 1) hk (j119_X12_isLetter l D zt r g I328 A328 L328 0 hV328) (SP.same _) (fun _ h => h) (gi_S (List.mem_cons_of_mem _ (List.mem_append_left _ (List.mem_of_getElem? (i := 6) rfl))) (List.mem_cons_of_mem _ (List.mem_append_left _ (List.mem_of_getElem? (i := 7) rfl))) (List.mem_cons_of_mem _ (List.mem_append_left _ (List.mem_of_getElem? (i := 4) rfl))) (gi_sub (fun w h => (List.mem_cons_of_mem _ (List.mem_append_right _ (List.mem_append_right _ (List.mem_append_right _ (List.mem_append_left _ h)))))) zg_j119_X12_isLetter)) rfl rfl rfl (by decide +kernel) ⟨Nat.le_of_ble_eq_true rfl, Nat.le_of_ble_eq_true rfl⟩ rfl rfl (Nat.le_of_ble_eq_true rfl) ⟨Nat.le_of_ble_eq_true rfl, Nat.le_of_ble_eq_true rfl⟩ dX12_cut_74 (fun v ty' w' hp hk' => ?_)
            rcases hp with ⟨rfl, rfl⟩ | ⟨c3244, c3245, c3246, c3247, rfl, rfl⟩
            · skip
              show GW κ 8 0 0 (wM r g I328 A328 L328) 77 [(2, .int 0), (1, .int x326), (0, .ref (r 0))] [.int 0]
              refine g_if_eq (tgt := 196) (a := 0) hk dX12_cut_77 (by decide) rfl (fun _ => ?_) (fun z9 => absurd (show (0 : Int) = (0 : Int) from by decide) z9)
              refine g_iload_n hk dX12_cut_196 rfl ?_
              refine g_callS (n := 1) hk (j120_X12_isDigit l D zt r g I328 A328 L328 0 hV328) (SP.same _) (fun _ h => h) (gi_S (List.mem_cons_of_mem _ (List.mem_append_left _ (List.mem_of_getElem? (i := 8) rfl))) (List.mem_cons_of_mem _ (List.mem_append_left _ (List.mem_of_getElem? (i := 9) rfl))) (List.mem_cons_of_mem _ (List.mem_append_left _ (List.mem_of_getElem? (i := 4) rfl))) (gi_sub (fun w h => (List.mem_cons_of_mem _ (List.mem_append_right _ (List.mem_append_right _ (List.mem_append_right _ (List.mem_append_right _ (List.mem_append_left _ h))))))) zg_j120_X12_isDigit)) rfl rfl rfl (by decide +kernel) ⟨Nat.le_of_ble_eq_true rfl, Nat.le_of_ble_eq_true rfl⟩ rfl rfl (Nat.le_of_ble_eq_true rfl) ⟨Nat.le_of_ble_eq_true rfl, Nat.le_of_ble_eq_true rfl⟩ dX12_cut_197 (fun v ty' w' hp hk' => ?_)
              rcases hp with ⟨rfl, rfl⟩ | ⟨c3250, c3251, c3252, c3253, rfl, rfl⟩
              · skip
                show GW κ 8 0 0 (wM r g I328 A328 L328) 200 [(2, .int 0), (1, .int x326), (0, .ref (r 0))] [.int 0]
                refine g_if_eq (tgt := 275) (a := 0) hk dX12_cut_200 (by decide) rfl (fun _ => ?_) (fun z9 => absurd (show (0 : Int) = (0 : Int) from by decide) z9)
                refine g_iload_n hk dX12_cut_275 rfl ?_
                refine g_aload_n hk dX12_cut_276 rfl ?_
                refine g_iload_n hk dX12_cut_277 rfl ?_
                refine g_iload_n hk dX12_cut_278 rfl ?_
                refine g_aload_n hk dX12_cut_279 rfl ?_
                refine g_iload_n hk dX12_cut_280 rfl ?_
                refine g_iconst (v := 1) hk dX12_cut_281 (by decide) ?_
                refine g_iadd hk dX12_cut_282 ?_
                refine g_topi (fun y3255 ey3255 => ?_)
                have hy3255 : y3255.toInt = x326.toInt + 1 := i32_add ey3255 rfl rfl (by omega) (by omega)
                refine g_callV (n := 1) hk (j118_X12_byteAt l D zt r g I328 A328 L328 y3255 hV328 (by omega)) (SP.same _) (fun _ h => h) (gi_V (List.mem_cons_of_mem _ (List.mem_append_left _ (List.mem_of_getElem? (i := 1) rfl))) (List.mem_cons_of_mem _ (List.mem_append_left _ (List.mem_of_getElem? (i := 2) rfl))) (List.mem_cons_of_mem _ (List.mem_append_left _ (List.mem_of_getElem? (i := 3) rfl))) (List.mem_cons_of_mem _ (List.mem_append_left _ (List.mem_of_getElem? (i := 4) rfl))) (gi_sub (fun w h => (List.mem_cons_of_mem _ (List.mem_append_right _ (List.mem_append_right _ (List.mem_append_left _ h))))) zg_j118_X12_byteAt)) rfl rfl rfl (by decide +kernel) ⟨Nat.le_of_ble_eq_true rfl, Nat.le_of_ble_eq_true rfl⟩ 0 rfl rfl rfl rfl (Nat.le_of_ble_eq_true rfl) ⟨Nat.le_of_ble_eq_true rfl, Nat.le_of_ble_eq_true rfl⟩ dX12_cut_283 (fun v ty' w' hp hk' => ?_)
                rcases hp with ⟨rfl, rfl⟩ | ⟨y3258, c3257, c3259, c3260, rfl, rfl⟩
                · skip
                  show GW κ 8 0 0 (wM r g I328 A328 L328) 286 [(2, .int 0), (1, .int x326), (0, .ref (r 0))] [.int 0, .int 0, .int x326, .ref (r 0), .int x326]
                  refine g_callV (n := 3) hk (j121_X12_sign l D zt r g I328 A328 L328 x326 0 0 hV328 (by omega) (by omega) (by omega)) (SP.same _) (fun _ h => h) (gi_V (List.mem_cons_of_mem _ (List.mem_append_left _ (List.mem_of_getElem? (i := 10) rfl))) (List.mem_cons_of_mem _ (List.mem_append_left _ (List.mem_of_getElem? (i := 11) rfl))) (List.mem_cons_of_mem _ (List.mem_append_left _ (List.mem_of_getElem? (i := 12) rfl))) (List.mem_cons_of_mem _ (List.mem_append_left _ (List.mem_of_getElem? (i := 4) rfl))) (gi_sub (fun w h => (List.mem_cons_of_mem _ (List.mem_append_right _ (List.mem_append_right _ (List.mem_append_right _ (List.mem_append_right _ (List.mem_append_right _ (List.mem_append_left _ h)))))))) zg_j121_X12_sign)) rfl rfl rfl (by decide +kernel) ⟨Nat.le_of_ble_eq_true rfl, Nat.le_of_ble_eq_true rfl⟩ 0 rfl rfl rfl rfl (Nat.le_of_ble_eq_true rfl) ⟨Nat.le_of_ble_eq_true rfl, Nat.le_of_ble_eq_true rfl⟩ dX12_cut_286 (fun v ty' w' hp hk' => ?_)
                  obtain ⟨I3264, A3264, L3264, hI3264, hA3264, hV3264, y3261, r3265, c3262, c3263, rfl, rfl⟩ := hp
                  have f3266 := IvM_f3 hV3264
                  show GW κ 8 0 0 (wM r g I3264 A3264 L3264) 289 [(2, .int 0), (1, .int x326), (0, .ref (r 0))] [.int y3261, .int x326]
                  refine g_iadd hk dX12_cut_289 ?_
                  refine g_topi (fun y3267 ey3267 => ?_)
                  have hy3267 : y3267.toInt = x326.toInt + y3261.toInt := i32_add ey3267 rfl rfl (by omega) (by omega)
                  refine g_istore_n (lv' := [(1, .int y3267), (2, .int 0), (0, .ref (r 0))]) hk dX12_cut_290 (by decide) rfl ?_
                  refine g_goto (tgt := 7) hk dX12_cut_291 (by decide) ?_
                  exact g_lv (List.forall_mem_cons.mpr ⟨List.mem_of_getElem? (i := 0) rfl, (List.forall_mem_cons.mpr ⟨List.mem_of_getElem? (i := 2) rfl, (fun _ h => absurd h List.not_mem_nil)⟩)⟩) (ih3232 y3267 I3264 A3264 L3264 (show Md [3] (upd I 3 0) I3264 from Md.tr hI328 (show Md [3] I328 I3264 from (Md.tr Md.rf hI3264 rfl)) rfl) (show Md [2, 3, 4] A A3264 from Md.tr hA328 (show Md [2, 3, 4] A328 A3264 from (Md.tr Md.rf hA3264 rfl)) rfl) hV3264 (by omega) (by omega) (by omega) (by omega))
                · skip
                  show GW κ 8 0 0 (wM r g I328 A328 L328) 286 [(2, .int 0), (1, .int x326), (0, .ref (r 0))] [.int y3258, .int 0, .int x326, .ref (r 0), .int x326]
                  refine g_callV (n := 3) hk (j121_X12_sign l D zt r g I328 A328 L328 x326 0 y3258 hV328 (by omega) (by omega) (by omega)) (SP.same _) (fun _ h => h) (gi_V (List.mem_cons_of_mem _ (List.mem_append_left _ (List.mem_of_getElem? (i := 10) rfl))) (List.mem_cons_of_mem _ (List.mem_append_left _ (List.mem_of_getElem? (i := 11) rfl))) (List.mem_cons_of_mem _ (List.mem_append_left _ (List.mem_of_getElem? (i := 12) rfl))) (List.mem_cons_of_mem _ (List.mem_append_left _ (List.mem_of_getElem? (i := 4) rfl))) (gi_sub (fun w h => (List.mem_cons_of_mem _ (List.mem_append_right _ (List.mem_append_right _ (List.mem_append_right _ (List.mem_append_right _ (List.mem_append_right _ (List.mem_append_left _ h)))))))) zg_j121_X12_sign)) rfl rfl rfl (by decide +kernel) ⟨Nat.le_of_ble_eq_true rfl, Nat.le_of_ble_eq_true rfl⟩ 0 rfl rfl rfl rfl (Nat.le_of_ble_eq_true rfl) ⟨Nat.le_of_ble_eq_true rfl, Nat.le_of_ble_eq_true rfl⟩ dX12_cut_286 (fun v ty' w' hp hk' => ?_)
                  obtain ⟨I3271, A3271, L3271, hI3271, hA3271, hV3271, y3268, r3272, c3269, c3270, rfl, rfl⟩ := hp
                  have f3273 := IvM_f3 hV3271
                  show GW κ 8 0 0 (wM r g I3271 A3271 L3271) 289 [(2, .int 0), (1, .int x326), (0, .ref (r 0))] [.int y3268, .int x326]
                  refine g_iadd hk dX12_cut_289 ?_
                  refine g_topi (fun y3274 ey3274 => ?_)
                  have hy3274 : y3274.toInt = x326.toInt + y3268.toInt := i32_add ey3274 rfl rfl (by omega) (by omega)
                  refine g_istore_n (lv' := [(1, .int y3274), (2, .int 0), (0, .ref (r 0))]) hk dX12_cut_290 (by decide) rfl ?_
                  refine g_goto (tgt := 7) hk dX12_cut_291 (by decide) ?_
                  exact g_lv (List.forall_mem_cons.mpr ⟨List.mem_of_getElem? (i := 0) rfl, (List.forall_mem_cons.mpr ⟨List.mem_of_getElem? (i := 2) rfl, (fun _ h => absurd h List.not_mem_nil)⟩)⟩) (ih3232 y3274 I3271 A3271 L3271 (show Md [3] (upd I 3 0) I3271 from Md.tr hI328 (show Md [3] I328 I3271 from (Md.tr Md.rf hI3271 rfl)) rfl) (show Md [2, 3, 4] A A3271 from Md.tr hA328 (show Md [2, 3, 4] A328 A3271 from (Md.tr Md.rf hA3271 rfl)) rfl) hV3271 (by omega) (by omega) (by omega) (by omega))
              · skip
                show GW κ 8 0 0 (wM r g I328 A328 L328) 200 [(2, .int 0), (1, .int x326), (0, .ref (r 0))] [.int 1]
                exfalso; omega
            · skip
              show GW κ 8 0 0 (wM r g I328 A328 L328) 77 [(2, .int 0), (1, .int x326), (0, .ref (r 0))] [.int 1]
              exfalso; omega
          · skip
            refine g_aload_n hk dX12_cut_31 rfl ?_
            refine g_iconst (v := 0) hk dX12_cut_32 (by decide) ?_
            refine g_aload_n hk dX12_cut_33 rfl ?_
            refine gM_i2 (v := (I 2)) hk hin12 (List.mem_cons_of_mem _ (List.mem_append_left _ (List.mem_of_getElem? (i := 5) rfl))) dX12_cut_34 (hI328 2 rfl) ?_
            refine g_iconst (v := 0) hk dX12_cut_37 (by decide) ?_
            refine g_lconst (v := 0) hk dX12_cut_38 (by decide) ?_
            have k3275 : (0 : Int32).toInt = 0 := rfl
            refine g_callV (n := 4) hk (j122_X12_token l D zt r g I328 A328 L328 0 (I 2) 0 0 hV328 (by omega)) (SP.same _) (fun _ h => h) (gi_V (List.mem_cons_of_mem _ (List.mem_append_left _ (List.mem_of_getElem? (i := 13) rfl))) (List.mem_cons_of_mem _ (List.mem_append_left _ (List.mem_of_getElem? (i := 14) rfl))) (List.mem_cons_of_mem _ (List.mem_append_left _ (List.mem_of_getElem? (i := 15) rfl))) (List.mem_cons_of_mem _ (List.mem_append_left _ (List.mem_of_getElem? (i := 4) rfl))) (gi_sub (fun w h => (List.mem_cons_of_mem _ (List.mem_append_right _ (List.mem_append_right _ (List.mem_append_right _ (List.mem_append_right _ (List.mem_append_right _ (List.mem_append_right _ (List.mem_append_left _ h))))))))) zg_j122_X12_token)) rfl rfl rfl (by decide +kernel) ⟨Nat.le_of_ble_eq_true rfl, Nat.le_of_ble_eq_true rfl⟩ 0 rfl rfl rfl rfl (Nat.le_of_ble_eq_true rfl) ⟨Nat.le_of_ble_eq_true rfl, Nat.le_of_ble_eq_true rfl⟩ dX12_cut_39 (fun v ty' w' hp hk' => ?_)
            obtain ⟨I3277, A3277, L3277, hI3277, hA3277, hV3277, r3278, rfl, rfl⟩ := hp
            have f3279 := IvM_f3 hV3277
            show GW κ 8 0 0 (wM r g I3277 A3277 L3277) 42 [(2, .int 0), (1, .int x326), (0, .ref (r 0))] []
            exact g_vret hk hR ⟨I3277, A3277, L3277, (show Md [3] I I3277 from (Md.tr (Md.tr (Md.up Md.rf rfl) hI328 rfl) hI3277 rfl)), (show Md [2, 3, 4] A A3277 from (Md.tr (Md.tr Md.rf hA328 rfl) hA3277 rfl)), hV3277, rfl, rfl⟩ dX12_cut_42
        · skip
          show GW κ 8 0 0 (wM r g I328 A328 L328) 22 [(1, .int x326), (0, .ref (r 0))] [.int y3237]
          refine g_istore_n (lv' := [(2, .int y3237), (1, .int x326), (0, .ref (r 0))]) hk dX12_cut_22 (by decide) rfl ?_
          refine g_iload_n hk dX12_cut_23 rfl ?_
          refine g_aload_n hk dX12_cut_24 rfl ?_
          refine gM_i2 (v := (I 2)) hk hin12 (List.mem_cons_of_mem _ (List.mem_append_left _ (List.mem_of_getElem? (i := 5) rfl))) dX12_cut_25 (hI328 2 rfl) ?_
          have f3280 := IvM_f2 hIv
          refine g_icmp_lt (tgt := 43) (a := x326.toInt) (b := (I 2).toInt) hk dX12_cut_28 (by decide) rfl rfl (fun c3281 => ?_) (fun c3281 => ?_)
          · skip
            refine g_iload_n hk dX12_cut_43 rfl ?_
            refine g_bipush (v := 9) hk dX12_cut_44 (by decide) ?_
            refine g_icmp_eq (tgt := 67) (a := y3237.toInt) (b := 9) hk dX12_cut_46 (by decide) rfl rfl (fun c3282 => ?_) (fun c3282 => ?_)
            · skip
              obtain ⟨y3283, ey3283⟩ : ∃ y : Int32, y = x326 + Int32.ofInt 1 := ⟨_, rfl⟩
              have hy3283 : y3283.toInt = x326.toInt + 1 := i32_add ey3283 rfl (by decide) (by omega) (by omega)
              refine g_iinc (v := y3283) (lv' := [(1, .int y3283), (2, .int y3237), (0, .ref (r 0))]) hk 1 dX12_cut_67 rfl ey3283.symm (by decide) rfl ?_
              refine g_goto (tgt := 291) hk dX12_cut_70 (by decide) ?_
              refine g_goto (tgt := 7) hk dX12_cut_291 (by decide) ?_
              exact g_lv (List.forall_mem_cons.mpr ⟨List.mem_of_getElem? (i := 0) rfl, (List.forall_mem_cons.mpr ⟨List.mem_of_getElem? (i := 2) rfl, (fun _ h => absurd h List.not_mem_nil)⟩)⟩) (ih3232 y3283 I328 A328 L328 (show Md [3] (upd I 3 0) I328 from Md.tr hI328 (show Md [3] I328 I328 from Md.rf) rfl) (show Md [2, 3, 4] A A328 from Md.tr hA328 (show Md [2, 3, 4] A328 A328 from Md.rf) rfl) hV328 (by omega) (by omega) (by omega) (by omega))
            · skip
              refine g_iload_n hk dX12_cut_49 rfl ?_
              refine g_bipush (v := 10) hk dX12_cut_50 (by decide) ?_
              refine g_icmp_eq (tgt := 67) (a := y3237.toInt) (b := 10) hk dX12_cut_52 (by decide) rfl rfl (fun c3284 => ?_) (fun c3284 => ?_)
              · skip
                obtain ⟨y3285, ey3285⟩ : ∃ y : Int32, y = x326 + Int32.ofInt 1 := ⟨_, rfl⟩
                have hy3285 : y3285.toInt = x326.toInt + 1 := i32_add ey3285 rfl (by decide) (by omega) (by omega)
                refine g_iinc (v := y3285) (lv' := [(1, .int y3285), (2, .int y3237), (0, .ref (r 0))]) hk 1 dX12_cut_67 rfl ey3285.symm (by decide) rfl ?_
                refine g_goto (tgt := 291) hk dX12_cut_70 (by decide) ?_
                refine g_goto (tgt := 7) hk dX12_cut_291 (by decide) ?_
                exact g_lv (List.forall_mem_cons.mpr ⟨List.mem_of_getElem? (i := 0) rfl, (List.forall_mem_cons.mpr ⟨List.mem_of_getElem? (i := 2) rfl, (fun _ h => absurd h List.not_mem_nil)⟩)⟩) (ih3232 y3285 I328 A328 L328 (show Md [3] (upd I 3 0) I328 from Md.tr hI328 (show Md [3] I328 I328 from Md.rf) rfl) (show Md [2, 3, 4] A A328 from Md.tr hA328 (show Md [2, 3, 4] A328 A328 from Md.rf) rfl) hV328 (by omega) (by omega) (by omega) (by omega))
              · skip
                refine g_iload_n hk dX12_cut_55 rfl ?_
                refine g_bipush (v := 13) hk dX12_cut_56 (by decide) ?_
                refine g_icmp_eq (tgt := 67) (a := y3237.toInt) (b := 13) hk dX12_cut_58 (by decide) rfl rfl (fun c3286 => ?_) (fun c3286 => ?_)
                · skip
                  obtain ⟨y3287, ey3287⟩ : ∃ y : Int32, y = x326 + Int32.ofInt 1 := ⟨_, rfl⟩
                  have hy3287 : y3287.toInt = x326.toInt + 1 := i32_add ey3287 rfl (by decide) (by omega) (by omega)
                  refine g_iinc (v := y3287) (lv' := [(1, .int y3287), (2, .int y3237), (0, .ref (r 0))]) hk 1 dX12_cut_67 rfl ey3287.symm (by decide) rfl ?_
                  refine g_goto (tgt := 291) hk dX12_cut_70 (by decide) ?_
                  refine g_goto (tgt := 7) hk dX12_cut_291 (by decide) ?_
                  exact g_lv (List.forall_mem_cons.mpr ⟨List.mem_of_getElem? (i := 0) rfl, (List.forall_mem_cons.mpr ⟨List.mem_of_getElem? (i := 2) rfl, (fun _ h => absurd h List.not_mem_nil)⟩)⟩) (ih3232 y3287 I328 A328 L328 (show Md [3] (upd I 3 0) I328 from Md.tr hI328 (show Md [3] I328 I328 from Md.rf) rfl) (show Md [2, 3, 4] A A328 from Md.tr hA328 (show Md [2, 3, 4] A328 A328 from Md.rf) rfl) hV328 (by omega) (by omega) (by omega) (by omega))
                · skip
                  refine g_iload_n hk dX12_cut_61 rfl ?_
                  refine g_bipush (v := 32) hk dX12_cut_62 (by decide) ?_
                  refine g_icmp_ne (tgt := 73) (a := y3237.toInt) (b := 32) hk dX12_cut_64 (by decide) rfl rfl (fun c3288 => ?_) (fun c3288 => ?_)
                  · skip
                    refine g_iload_n hk dX12_cut_73 rfl ?_
                    refine g_callS (n := 1) hk (j119_X12_isLetter l D zt r g I328 A328 L328 y3237 hV328) (SP.same _) (fun _ h => h) (gi_S (List.mem_cons_of_mem _ (List.mem_append_left _ (List.mem_of_getElem? (i := 6) rfl))) (List.mem_cons_of_mem _ (List.mem_append_left _ (List.mem_of_getElem? (i := 7) rfl))) (List.mem_cons_of_mem _ (List.mem_append_left _ (List.mem_of_getElem? (i := 4) rfl))) (gi_sub (fun w h => (List.mem_cons_of_mem _ (List.mem_append_right _ (List.mem_append_right _ (List.mem_append_right _ (List.mem_append_left _ h)))))) zg_j119_X12_isLetter)) rfl rfl rfl (by decide +kernel) ⟨Nat.le_of_ble_eq_true rfl, Nat.le_of_ble_eq_true rfl⟩ rfl rfl (Nat.le_of_ble_eq_true rfl) ⟨Nat.le_of_ble_eq_true rfl, Nat.le_of_ble_eq_true rfl⟩ dX12_cut_74 (fun v ty' w' hp hk' => ?_)
                    rcases hp with ⟨rfl, rfl⟩ | ⟨c3290, c3291, c3292, c3293, rfl, rfl⟩
                    · skip
                      show GW κ 8 0 0 (wM r g I328 A328 L328) 77 [(2, .int y3237), (1, .int x326), (0, .ref (r 0))] [.int 0]
                      refine g_if_eq (tgt := 196) (a := 0) hk dX12_cut_77 (by decide) rfl (fun _ => ?_) (fun z9 => absurd (show (0 : Int) = (0 : Int) from by decide) z9)
                      refine g_iload_n hk dX12_cut_196 rfl ?_
                      refine g_callS (n := 1) hk (j120_X12_isDigit l D zt r g I328 A328 L328 y3237 hV328) (SP.same _) (fun _ h => h) (gi_S (List.mem_cons_of_mem _ (List.mem_append_left _ (List.mem_of_getElem? (i := 8) rfl))) (List.mem_cons_of_mem _ (List.mem_append_left _ (List.mem_of_getElem? (i := 9) rfl))) (List.mem_cons_of_mem _ (List.mem_append_left _ (List.mem_of_getElem? (i := 4) rfl))) (gi_sub (fun w h => (List.mem_cons_of_mem _ (List.mem_append_right _ (List.mem_append_right _ (List.mem_append_right _ (List.mem_append_right _ (List.mem_append_left _ h))))))) zg_j120_X12_isDigit)) rfl rfl rfl (by decide +kernel) ⟨Nat.le_of_ble_eq_true rfl, Nat.le_of_ble_eq_true rfl⟩ rfl rfl (Nat.le_of_ble_eq_true rfl) ⟨Nat.le_of_ble_eq_true rfl, Nat.le_of_ble_eq_true rfl⟩ dX12_cut_197 (fun v ty' w' hp hk' => ?_)
                      rcases hp with ⟨rfl, rfl⟩ | ⟨c3296, c3297, c3298, c3299, rfl, rfl⟩
                      · skip
                        show GW κ 8 0 0 (wM r g I328 A328 L328) 200 [(2, .int y3237), (1, .int x326), (0, .ref (r 0))] [.int 0]
                        refine g_if_eq (tgt := 275) (a := 0) hk dX12_cut_200 (by decide) rfl (fun _ => ?_) (fun z9 => absurd (show (0 : Int) = (0 : Int) from by decide) z9)
                        refine g_iload_n hk dX12_cut_275 rfl ?_
                        refine g_aload_n hk dX12_cut_276 rfl ?_
                        refine g_iload_n hk dX12_cut_277 rfl ?_
                        refine g_iload_n hk dX12_cut_278 rfl ?_
                        refine g_aload_n hk dX12_cut_279 rfl ?_
                        refine g_iload_n hk dX12_cut_280 rfl ?_
                        refine g_iconst (v := 1) hk dX12_cut_281 (by decide) ?_
                        refine g_iadd hk dX12_cut_282 ?_
                        refine g_topi (fun y3301 ey3301 => ?_)
                        have hy3301 : y3301.toInt = x326.toInt + 1 := i32_add ey3301 rfl rfl (by omega) (by omega)
                        refine g_callV (n := 1) hk (j118_X12_byteAt l D zt r g I328 A328 L328 y3301 hV328 (by omega)) (SP.same _) (fun _ h => h) (gi_V (List.mem_cons_of_mem _ (List.mem_append_left _ (List.mem_of_getElem? (i := 1) rfl))) (List.mem_cons_of_mem _ (List.mem_append_left _ (List.mem_of_getElem? (i := 2) rfl))) (List.mem_cons_of_mem _ (List.mem_append_left _ (List.mem_of_getElem? (i := 3) rfl))) (List.mem_cons_of_mem _ (List.mem_append_left _ (List.mem_of_getElem? (i := 4) rfl))) (gi_sub (fun w h => (List.mem_cons_of_mem _ (List.mem_append_right _ (List.mem_append_right _ (List.mem_append_left _ h))))) zg_j118_X12_byteAt)) rfl rfl rfl (by decide +kernel) ⟨Nat.le_of_ble_eq_true rfl, Nat.le_of_ble_eq_true rfl⟩ 0 rfl rfl rfl rfl (Nat.le_of_ble_eq_true rfl) ⟨Nat.le_of_ble_eq_true rfl, Nat.le_of_ble_eq_true rfl⟩ dX12_cut_283 (fun v ty' w' hp hk' => ?_)
                        rcases hp with ⟨rfl, rfl⟩ | ⟨y3304, c3303, c3305, c3306, rfl, rfl⟩
                        · skip
                          show GW κ 8 0 0 (wM r g I328 A328 L328) 286 [(2, .int y3237), (1, .int x326), (0, .ref (r 0))] [.int 0, .int y3237, .int x326, .ref (r 0), .int x326]
                          have k3307 : (0 : Int32).toInt = 0 := rfl
                          refine g_callV (n := 3) hk (j121_X12_sign l D zt r g I328 A328 L328 x326 y3237 0 hV328 (by omega) (by omega) (by omega)) (SP.same _) (fun _ h => h) (gi_V (List.mem_cons_of_mem _ (List.mem_append_left _ (List.mem_of_getElem? (i := 10) rfl))) (List.mem_cons_of_mem _ (List.mem_append_left _ (List.mem_of_getElem? (i := 11) rfl))) (List.mem_cons_of_mem _ (List.mem_append_left _ (List.mem_of_getElem? (i := 12) rfl))) (List.mem_cons_of_mem _ (List.mem_append_left _ (List.mem_of_getElem? (i := 4) rfl))) (gi_sub (fun w h => (List.mem_cons_of_mem _ (List.mem_append_right _ (List.mem_append_right _ (List.mem_append_right _ (List.mem_append_right _ (List.mem_append_right _ (List.mem_append_left _ h)))))))) zg_j121_X12_sign)) rfl rfl rfl (by decide +kernel) ⟨Nat.le_of_ble_eq_true rfl, Nat.le_of_ble_eq_true rfl⟩ 0 rfl rfl rfl rfl (Nat.le_of_ble_eq_true rfl) ⟨Nat.le_of_ble_eq_true rfl, Nat.le_of_ble_eq_true rfl⟩ dX12_cut_286 (fun v ty' w' hp hk' => ?_)
                          obtain ⟨I3311, A3311, L3311, hI3311, hA3311, hV3311, y3308, r3312, c3309, c3310, rfl, rfl⟩ := hp
                          have f3313 := IvM_f3 hV3311
                          show GW κ 8 0 0 (wM r g I3311 A3311 L3311) 289 [(2, .int y3237), (1, .int x326), (0, .ref (r 0))] [.int y3308, .int x326]
                          refine g_iadd hk dX12_cut_289 ?_
                          refine g_topi (fun y3314 ey3314 => ?_)
                          have hy3314 : y3314.toInt = x326.toInt + y3308.toInt := i32_add ey3314 rfl rfl (by omega) (by omega)
                          refine g_istore_n (lv' := [(1, .int y3314), (2, .int y3237), (0, .ref (r 0))]) hk dX12_cut_290 (by decide) rfl ?_
                          refine g_goto (tgt := 7) hk dX12_cut_291 (by decide) ?_
                          exact g_lv (List.forall_mem_cons.mpr ⟨List.mem_of_getElem? (i := 0) rfl, (List.forall_mem_cons.mpr ⟨List.mem_of_getElem? (i := 2) rfl, (fun _ h => absurd h List.not_mem_nil)⟩)⟩) (ih3232 y3314 I3311 A3311 L3311 (show Md [3] (upd I 3 0) I3311 from Md.tr hI328 (show Md [3] I328 I3311 from (Md.tr Md.rf hI3311 rfl)) rfl) (show Md [2, 3, 4] A A3311 from Md.tr hA328 (show Md [2, 3, 4] A328 A3311 from (Md.tr Md.rf hA3311 rfl)) rfl) hV3311 (by omega) (by omega) (by omega) (by omega))
                        · skip
                          show GW κ 8 0 0 (wM r g I328 A328 L328) 286 [(2, .int y3237), (1, .int x326), (0, .ref (r 0))] [.int y3304, .int y3237, .int x326, .ref (r 0), .int x326]
                          refine g_callV (n := 3) hk (j121_X12_sign l D zt r g I328 A328 L328 x326 y3237 y3304 hV328 (by omega) (by omega) (by omega)) (SP.same _) (fun _ h => h) (gi_V (List.mem_cons_of_mem _ (List.mem_append_left _ (List.mem_of_getElem? (i := 10) rfl))) (List.mem_cons_of_mem _ (List.mem_append_left _ (List.mem_of_getElem? (i := 11) rfl))) (List.mem_cons_of_mem _ (List.mem_append_left _ (List.mem_of_getElem? (i := 12) rfl))) (List.mem_cons_of_mem _ (List.mem_append_left _ (List.mem_of_getElem? (i := 4) rfl))) (gi_sub (fun w h => (List.mem_cons_of_mem _ (List.mem_append_right _ (List.mem_append_right _ (List.mem_append_right _ (List.mem_append_right _ (List.mem_append_right _ (List.mem_append_left _ h)))))))) zg_j121_X12_sign)) rfl rfl rfl (by decide +kernel) ⟨Nat.le_of_ble_eq_true rfl, Nat.le_of_ble_eq_true rfl⟩ 0 rfl rfl rfl rfl (Nat.le_of_ble_eq_true rfl) ⟨Nat.le_of_ble_eq_true rfl, Nat.le_of_ble_eq_true rfl⟩ dX12_cut_286 (fun v ty' w' hp hk' => ?_)
                          obtain ⟨I3318, A3318, L3318, hI3318, hA3318, hV3318, y3315, r3319, c3316, c3317, rfl, rfl⟩ := hp
                          have f3320 := IvM_f3 hV3318
                          show GW κ 8 0 0 (wM r g I3318 A3318 L3318) 289 [(2, .int y3237), (1, .int x326), (0, .ref (r 0))] [.int y3315, .int x326]
                          refine g_iadd hk dX12_cut_289 ?_
                          refine g_topi (fun y3321 ey3321 => ?_)
                          have hy3321 : y3321.toInt = x326.toInt + y3315.toInt := i32_add ey3321 rfl rfl (by omega) (by omega)
                          refine g_istore_n (lv' := [(1, .int y3321), (2, .int y3237), (0, .ref (r 0))]) hk dX12_cut_290 (by decide) rfl ?_
                          refine g_goto (tgt := 7) hk dX12_cut_291 (by decide) ?_
                          exact g_lv (List.forall_mem_cons.mpr ⟨List.mem_of_getElem? (i := 0) rfl, (List.forall_mem_cons.mpr ⟨List.mem_of_getElem? (i := 2) rfl, (fun _ h => absurd h List.not_mem_nil)⟩)⟩) (ih3232 y3321 I3318 A3318 L3318 (show Md [3] (upd I 3 0) I3318 from Md.tr hI328 (show Md [3] I328 I3318 from (Md.tr Md.rf hI3318 rfl)) rfl) (show Md [2, 3, 4] A A3318 from Md.tr hA328 (show Md [2, 3, 4] A328 A3318 from (Md.tr Md.rf hA3318 rfl)) rfl) hV3318 (by omega) (by omega) (by omega) (by omega))
                      · skip
                        show GW κ 8 0 0 (wM r g I328 A328 L328) 200 [(2, .int y3237), (1, .int x326), (0, .ref (r 0))] [.int 1]
                        refine g_if_eq (tgt := 275) (a := 1) hk dX12_cut_200 (by decide) rfl (fun z9 => absurd z9 (show ¬ ((1 : Int) = (0 : Int)) from by decide)) (fun _ => ?_)
                        refine g_iconst (v := 0) hk dX12_cut_203 (by decide) ?_
                        refine g_istore_n (lv' := [(3, .int 0), (2, .int y3237), (1, .int x326), (0, .ref (r 0))]) hk dX12_cut_204 (by decide) rfl ?_
                        refine g_iconst (v := 0) hk dX12_cut_205 (by decide) ?_
                        refine g_istore (lv' := [(4, .int 0), (3, .int 0), (2, .int y3237), (1, .int x326), (0, .ref (r 0))]) hk dX12_cut_206 (by decide) rfl ?_
                        have lp3879 : ∀ (n3880 : Nat) (x3322 : Int32) (x3323 : Int32), (0 ≤ x3323.toInt) → (x3323.toInt ≤ 2000) → (x326.toInt + x3323.toInt ≤ 2000) → (2001 - x326.toInt - x3323.toInt < (n3880 : Int)) → (0 < n3880) → GW κ 8 0 0 (wM r g I328 A328 L328) 208 [(4, .int x3322), (3, .int x3323), (2, .int y3237), (1, .int x326), (0, .ref (r 0))] [] := by
                          intro n3880
                          induction n3880 with
                          | zero =>
                            intro x3322 x3323 h3876 h3877 h3878 m3881 m3881z
                            exact absurd m3881z (Nat.lt_irrefl 0)
                          | succ n3880 ih3882 =>
                            intro x3322 x3323 h3876 h3877 h3878 m3881 m3881z
                            refine g_aload_n hk dX12_cut_208 rfl ?_
                            refine g_iload_n hk dX12_cut_209 rfl ?_
                            refine g_iload_n hk dX12_cut_210 rfl ?_
                            refine g_iadd hk dX12_cut_211 ?_
                            refine g_topi (fun y3883 ey3883 => ?_)
                            have hy3883 : y3883.toInt = x326.toInt + x3323.toInt := i32_add ey3883 rfl rfl (by omega) (by omega)
                            refine g_callV (n := 1) hk (j118_X12_byteAt l D zt r g I328 A328 L328 y3883 hV328 (by omega)) (SP.same _) (fun _ h => h) (gi_V (List.mem_cons_of_mem _ (List.mem_append_left _ (List.mem_of_getElem? (i := 1) rfl))) (List.mem_cons_of_mem _ (List.mem_append_left _ (List.mem_of_getElem? (i := 2) rfl))) (List.mem_cons_of_mem _ (List.mem_append_left _ (List.mem_of_getElem? (i := 3) rfl))) (List.mem_cons_of_mem _ (List.mem_append_left _ (List.mem_of_getElem? (i := 4) rfl))) (gi_sub (fun w h => (List.mem_cons_of_mem _ (List.mem_append_right _ (List.mem_append_right _ (List.mem_append_left _ h))))) zg_j118_X12_byteAt)) rfl rfl rfl (by decide +kernel) ⟨Nat.le_of_ble_eq_true rfl, Nat.le_of_ble_eq_true rfl⟩ 0 rfl rfl rfl rfl (Nat.le_of_ble_eq_true rfl) ⟨Nat.le_of_ble_eq_true rfl, Nat.le_of_ble_eq_true rfl⟩ dX12_cut_212 (fun v ty' w' hp hk' => ?_)
                            rcases hp with ⟨rfl, rfl⟩ | ⟨y3886, c3885, c3887, c3888, rfl, rfl⟩
                            · skip
                              show GW κ 8 0 0 (wM r g I328 A328 L328) 215 [(4, .int x3322), (3, .int x3323), (2, .int y3237), (1, .int x326), (0, .ref (r 0))] [.int 0]
                              have k3889 : (0 : Int32).toInt = 0 := rfl
                              refine g_callS (n := 1) hk (j120_X12_isDigit l D zt r g I328 A328 L328 0 hV328) (SP.same _) (fun _ h => h) (gi_S (List.mem_cons_of_mem _ (List.mem_append_left _ (List.mem_of_getElem? (i := 8) rfl))) (List.mem_cons_of_mem _ (List.mem_append_left _ (List.mem_of_getElem? (i := 9) rfl))) (List.mem_cons_of_mem _ (List.mem_append_left _ (List.mem_of_getElem? (i := 4) rfl))) (gi_sub (fun w h => (List.mem_cons_of_mem _ (List.mem_append_right _ (List.mem_append_right _ (List.mem_append_right _ (List.mem_append_right _ (List.mem_append_left _ h))))))) zg_j120_X12_isDigit)) rfl rfl rfl (by decide +kernel) ⟨Nat.le_of_ble_eq_true rfl, Nat.le_of_ble_eq_true rfl⟩ rfl rfl (Nat.le_of_ble_eq_true rfl) ⟨Nat.le_of_ble_eq_true rfl, Nat.le_of_ble_eq_true rfl⟩ dX12_cut_215 (fun v ty' w' hp hk' => ?_)
                              rcases hp with ⟨rfl, rfl⟩ | ⟨c3891, c3892, c3893, c3894, rfl, rfl⟩
                              · skip
                                show GW κ 8 0 0 (wM r g I328 A328 L328) 218 [(4, .int x3322), (3, .int x3323), (2, .int y3237), (1, .int x326), (0, .ref (r 0))] [.int 0]
                                refine g_if_eq (tgt := 250) (a := 0) hk dX12_cut_218 (by decide) rfl (fun _ => ?_) (fun z9 => absurd (show (0 : Int) = (0 : Int) from by decide) z9)
                                refine g_aload_n hk dX12_cut_250 rfl ?_
                                refine g_iload_n hk dX12_cut_251 rfl ?_
                                refine g_iconst (v := 4) hk dX12_cut_252 (by decide) ?_
                                refine g_icmp_le (tgt := 260) (a := x3323.toInt) (b := 4) hk dX12_cut_253 (by decide) rfl rfl (fun c3896 => ?_) (fun c3896 => ?_)
                                · skip
                                  refine g_iconst (v := 2) hk dX12_cut_260 (by decide) ?_
                                  refine g_iload_n hk dX12_cut_261 rfl ?_
                                  refine g_iload hk dX12_cut_262 rfl ?_
                                  refine g_lconst (v := 0) hk dX12_cut_264 (by decide) ?_
                                  have k3897 : (2 : Int32).toInt = 2 := rfl
                                  refine g_callV (n := 4) hk (j122_X12_token l D zt r g I328 A328 L328 2 x326 x3322 0 hV328 (by omega)) (SP.same _) (fun _ h => h) (gi_V (List.mem_cons_of_mem _ (List.mem_append_left _ (List.mem_of_getElem? (i := 13) rfl))) (List.mem_cons_of_mem _ (List.mem_append_left _ (List.mem_of_getElem? (i := 14) rfl))) (List.mem_cons_of_mem _ (List.mem_append_left _ (List.mem_of_getElem? (i := 15) rfl))) (List.mem_cons_of_mem _ (List.mem_append_left _ (List.mem_of_getElem? (i := 4) rfl))) (gi_sub (fun w h => (List.mem_cons_of_mem _ (List.mem_append_right _ (List.mem_append_right _ (List.mem_append_right _ (List.mem_append_right _ (List.mem_append_right _ (List.mem_append_right _ (List.mem_append_left _ h))))))))) zg_j122_X12_token)) rfl rfl rfl (by decide +kernel) ⟨Nat.le_of_ble_eq_true rfl, Nat.le_of_ble_eq_true rfl⟩ 0 rfl rfl rfl rfl (Nat.le_of_ble_eq_true rfl) ⟨Nat.le_of_ble_eq_true rfl, Nat.le_of_ble_eq_true rfl⟩ dX12_cut_265 (fun v ty' w' hp hk' => ?_)
                                  obtain ⟨I3899, A3899, L3899, hI3899, hA3899, hV3899, r3900, rfl, rfl⟩ := hp
                                  have f3901 := IvM_f3 hV3899
                                  show GW κ 8 0 0 (wM r g I3899 A3899 L3899) 268 [(4, .int x3322), (3, .int x3323), (2, .int y3237), (1, .int x326), (0, .ref (r 0))] []
                                  refine g_iload_n hk dX12_cut_268 rfl ?_
                                  refine g_iload_n hk dX12_cut_269 rfl ?_
                                  refine g_iadd hk dX12_cut_270 ?_
                                  refine g_topi (fun y3902 ey3902 => ?_)
                                  have hy3902 : y3902.toInt = x326.toInt + x3323.toInt := i32_add ey3902 rfl rfl (by omega) (by omega)
                                  refine g_istore_n (lv' := [(1, .int y3902), (4, .int x3322), (3, .int x3323), (2, .int y3237), (0, .ref (r 0))]) hk dX12_cut_271 (by decide) rfl ?_
                                  refine g_goto (tgt := 291) hk dX12_cut_272 (by decide) ?_
                                  refine g_goto (tgt := 7) hk dX12_cut_291 (by decide) ?_
                                  exact g_lv (List.forall_mem_cons.mpr ⟨List.mem_of_getElem? (i := 0) rfl, (List.forall_mem_cons.mpr ⟨List.mem_of_getElem? (i := 4) rfl, (fun _ h => absurd h List.not_mem_nil)⟩)⟩) (ih3232 y3902 I3899 A3899 L3899 (show Md [3] (upd I 3 0) I3899 from Md.tr hI328 (show Md [3] I328 I3899 from (Md.tr Md.rf hI3899 rfl)) rfl) (show Md [2, 3, 4] A A3899 from Md.tr hA328 (show Md [2, 3, 4] A328 A3899 from (Md.tr Md.rf hA3899 rfl)) rfl) hV3899 (by omega) (by omega) (by omega) (by omega))
                                · skip
                                  refine g_iconst (v := 3) hk dX12_cut_256 (by decide) ?_
                                  refine g_goto (tgt := 261) hk dX12_cut_257 (by decide) ?_
                                  refine g_iload_n hk dX12_cut_261 rfl ?_
                                  refine g_iload hk dX12_cut_262 rfl ?_
                                  refine g_lconst (v := 0) hk dX12_cut_264 (by decide) ?_
                                  have k3903 : (3 : Int32).toInt = 3 := rfl
                                  refine g_callV (n := 4) hk (j122_X12_token l D zt r g I328 A328 L328 3 x326 x3322 0 hV328 (by omega)) (SP.same _) (fun _ h => h) (gi_V (List.mem_cons_of_mem _ (List.mem_append_left _ (List.mem_of_getElem? (i := 13) rfl))) (List.mem_cons_of_mem _ (List.mem_append_left _ (List.mem_of_getElem? (i := 14) rfl))) (List.mem_cons_of_mem _ (List.mem_append_left _ (List.mem_of_getElem? (i := 15) rfl))) (List.mem_cons_of_mem _ (List.mem_append_left _ (List.mem_of_getElem? (i := 4) rfl))) (gi_sub (fun w h => (List.mem_cons_of_mem _ (List.mem_append_right _ (List.mem_append_right _ (List.mem_append_right _ (List.mem_append_right _ (List.mem_append_right _ (List.mem_append_right _ (List.mem_append_left _ h))))))))) zg_j122_X12_token)) rfl rfl rfl (by decide +kernel) ⟨Nat.le_of_ble_eq_true rfl, Nat.le_of_ble_eq_true rfl⟩ 0 rfl rfl rfl rfl (Nat.le_of_ble_eq_true rfl) ⟨Nat.le_of_ble_eq_true rfl, Nat.le_of_ble_eq_true rfl⟩ dX12_cut_265 (fun v ty' w' hp hk' => ?_)
                                  obtain ⟨I3905, A3905, L3905, hI3905, hA3905, hV3905, r3906, rfl, rfl⟩ := hp
                                  have f3907 := IvM_f3 hV3905
                                  show GW κ 8 0 0 (wM r g I3905 A3905 L3905) 268 [(4, .int x3322), (3, .int x3323), (2, .int y3237), (1, .int x326), (0, .ref (r 0))] []
                                  refine g_iload_n hk dX12_cut_268 rfl ?_
                                  refine g_iload_n hk dX12_cut_269 rfl ?_
                                  refine g_iadd hk dX12_cut_270 ?_
                                  refine g_topi (fun y3908 ey3908 => ?_)
                                  have hy3908 : y3908.toInt = x326.toInt + x3323.toInt := i32_add ey3908 rfl rfl (by omega) (by omega)
                                  refine g_istore_n (lv' := [(1, .int y3908), (4, .int x3322), (3, .int x3323), (2, .int y3237), (0, .ref (r 0))]) hk dX12_cut_271 (by decide) rfl ?_
                                  refine g_goto (tgt := 291) hk dX12_cut_272 (by decide) ?_
                                  refine g_goto (tgt := 7) hk dX12_cut_291 (by decide) ?_
                                  exact g_lv (List.forall_mem_cons.mpr ⟨List.mem_of_getElem? (i := 0) rfl, (List.forall_mem_cons.mpr ⟨List.mem_of_getElem? (i := 4) rfl, (fun _ h => absurd h List.not_mem_nil)⟩)⟩) (ih3232 y3908 I3905 A3905 L3905 (show Md [3] (upd I 3 0) I3905 from Md.tr hI328 (show Md [3] I328 I3905 from (Md.tr Md.rf hI3905 rfl)) rfl) (show Md [2, 3, 4] A A3905 from Md.tr hA328 (show Md [2, 3, 4] A328 A3905 from (Md.tr Md.rf hA3905 rfl)) rfl) hV3905 (by omega) (by omega) (by omega) (by omega))
                              · skip
                                show GW κ 8 0 0 (wM r g I328 A328 L328) 218 [(4, .int x3322), (3, .int x3323), (2, .int y3237), (1, .int x326), (0, .ref (r 0))] [.int 1]
                                exfalso; omega
                            · skip
                              show GW κ 8 0 0 (wM r g I328 A328 L328) 215 [(4, .int x3322), (3, .int x3323), (2, .int y3237), (1, .int x326), (0, .ref (r 0))] [.int y3886]
                              refine g_callS (n := 1) hk (j120_X12_isDigit l D zt r g I328 A328 L328 y3886 hV328) (SP.same _) (fun _ h => h) (gi_S (List.mem_cons_of_mem _ (List.mem_append_left _ (List.mem_of_getElem? (i := 8) rfl))) (List.mem_cons_of_mem _ (List.mem_append_left _ (List.mem_of_getElem? (i := 9) rfl))) (List.mem_cons_of_mem _ (List.mem_append_left _ (List.mem_of_getElem? (i := 4) rfl))) (gi_sub (fun w h => (List.mem_cons_of_mem _ (List.mem_append_right _ (List.mem_append_right _ (List.mem_append_right _ (List.mem_append_right _ (List.mem_append_left _ h))))))) zg_j120_X12_isDigit)) rfl rfl rfl (by decide +kernel) ⟨Nat.le_of_ble_eq_true rfl, Nat.le_of_ble_eq_true rfl⟩ rfl rfl (Nat.le_of_ble_eq_true rfl) ⟨Nat.le_of_ble_eq_true rfl, Nat.le_of_ble_eq_true rfl⟩ dX12_cut_215 (fun v ty' w' hp hk' => ?_)
                              rcases hp with ⟨rfl, rfl⟩ | ⟨c3910, c3911, c3912, c3913, rfl, rfl⟩
                              · skip
                                show GW κ 8 0 0 (wM r g I328 A328 L328) 218 [(4, .int x3322), (3, .int x3323), (2, .int y3237), (1, .int x326), (0, .ref (r 0))] [.int 0]
                                refine g_if_eq (tgt := 250) (a := 0) hk dX12_cut_218 (by decide) rfl (fun _ => ?_) (fun z9 => absurd (show (0 : Int) = (0 : Int) from by decide) z9)
                                refine g_aload_n hk dX12_cut_250 rfl ?_
                                refine g_iload_n hk dX12_cut_251 rfl ?_
                                refine g_iconst (v := 4) hk dX12_cut_252 (by decide) ?_
                                refine g_icmp_le (tgt := 260) (a := x3323.toInt) (b := 4) hk dX12_cut_253 (by decide) rfl rfl (fun c3915 => ?_) (fun c3915 => ?_)
                                · skip
                                  refine g_iconst (v := 2) hk dX12_cut_260 (by decide) ?_
                                  refine g_iload_n hk dX12_cut_261 rfl ?_
                                  refine g_iload hk dX12_cut_262 rfl ?_
                                  refine g_lconst (v := 0) hk dX12_cut_264 (by decide) ?_
                                  have k3916 : (2 : Int32).toInt = 2 := rfl
                                  refine g_callV (n := 4) hk (j122_X12_token l D zt r g I328 A328 L328 2 x326 x3322 0 hV328 (by omega)) (SP.same _) (fun _ h => h) (gi_V (List.mem_cons_of_mem _ (List.mem_append_left _ (List.mem_of_getElem? (i := 13) rfl))) (List.mem_cons_of_mem _ (List.mem_append_left _ (List.mem_of_getElem? (i := 14) rfl))) (List.mem_cons_of_mem _ (List.mem_append_left _ (List.mem_of_getElem? (i := 15) rfl))) (List.mem_cons_of_mem _ (List.mem_append_left _ (List.mem_of_getElem? (i := 4) rfl))) (gi_sub (fun w h => (List.mem_cons_of_mem _ (List.mem_append_right _ (List.mem_append_right _ (List.mem_append_right _ (List.mem_append_right _ (List.mem_append_right _ (List.mem_append_right _ (List.mem_append_left _ h))))))))) zg_j122_X12_token)) rfl rfl rfl (by decide +kernel) ⟨Nat.le_of_ble_eq_true rfl, Nat.le_of_ble_eq_true rfl⟩ 0 rfl rfl rfl rfl (Nat.le_of_ble_eq_true rfl) ⟨Nat.le_of_ble_eq_true rfl, Nat.le_of_ble_eq_true rfl⟩ dX12_cut_265 (fun v ty' w' hp hk' => ?_)
                                  obtain ⟨I3918, A3918, L3918, hI3918, hA3918, hV3918, r3919, rfl, rfl⟩ := hp
                                  have f3920 := IvM_f3 hV3918
                                  show GW κ 8 0 0 (wM r g I3918 A3918 L3918) 268 [(4, .int x3322), (3, .int x3323), (2, .int y3237), (1, .int x326), (0, .ref (r 0))] []
                                  refine g_iload_n hk dX12_cut_268 rfl ?_
                                  refine g_iload_n hk dX12_cut_269 rfl ?_
                                  refine g_iadd hk dX12_cut_270 ?_
                                  refine g_topi (fun y3921 ey3921 => ?_)
                                  have hy3921 : y3921.toInt = x326.toInt + x3323.toInt := i32_add ey3921 rfl rfl (by omega) (by omega)
                                  refine g_istore_n (lv' := [(1, .int y3921), (4, .int x3322), (3, .int x3323), (2, .int y3237), (0, .ref (r 0))]) hk dX12_cut_271 (by decide) rfl ?_
                                  refine g_goto (tgt := 291) hk dX12_cut_272 (by decide) ?_
                                  refine g_goto (tgt := 7) hk dX12_cut_291 (by decide) ?_
                                  exact g_lv (List.forall_mem_cons.mpr ⟨List.mem_of_getElem? (i := 0) rfl, (List.forall_mem_cons.mpr ⟨List.mem_of_getElem? (i := 4) rfl, (fun _ h => absurd h List.not_mem_nil)⟩)⟩) (ih3232 y3921 I3918 A3918 L3918 (show Md [3] (upd I 3 0) I3918 from Md.tr hI328 (show Md [3] I328 I3918 from (Md.tr Md.rf hI3918 rfl)) rfl) (show Md [2, 3, 4] A A3918 from Md.tr hA328 (show Md [2, 3, 4] A328 A3918 from (Md.tr Md.rf hA3918 rfl)) rfl) hV3918 (by omega) (by omega) (by omega) (by omega))
                                · skip
                                  refine g_iconst (v := 3) hk dX12_cut_256 (by decide) ?_
                                  refine g_goto (tgt := 261) hk dX12_cut_257 (by decide) ?_
                                  refine g_iload_n hk dX12_cut_261 rfl ?_
                                  refine g_iload hk dX12_cut_262 rfl ?_
                                  refine g_lconst (v := 0) hk dX12_cut_264 (by decide) ?_
                                  have k3922 : (3 : Int32).toInt = 3 := rfl
                                  refine g_callV (n := 4) hk (j122_X12_token l D zt r g I328 A328 L328 3 x326 x3322 0 hV328 (by omega)) (SP.same _) (fun _ h => h) (gi_V (List.mem_cons_of_mem _ (List.mem_append_left _ (List.mem_of_getElem? (i := 13) rfl))) (List.mem_cons_of_mem _ (List.mem_append_left _ (List.mem_of_getElem? (i := 14) rfl))) (List.mem_cons_of_mem _ (List.mem_append_left _ (List.mem_of_getElem? (i := 15) rfl))) (List.mem_cons_of_mem _ (List.mem_append_left _ (List.mem_of_getElem? (i := 4) rfl))) (gi_sub (fun w h => (List.mem_cons_of_mem _ (List.mem_append_right _ (List.mem_append_right _ (List.mem_append_right _ (List.mem_append_right _ (List.mem_append_right _ (List.mem_append_right _ (List.mem_append_left _ h))))))))) zg_j122_X12_token)) rfl rfl rfl (by decide +kernel) ⟨Nat.le_of_ble_eq_true rfl, Nat.le_of_ble_eq_true rfl⟩ 0 rfl rfl rfl rfl (Nat.le_of_ble_eq_true rfl) ⟨Nat.le_of_ble_eq_true rfl, Nat.le_of_ble_eq_true rfl⟩ dX12_cut_265 (fun v ty' w' hp hk' => ?_)
                                  obtain ⟨I3924, A3924, L3924, hI3924, hA3924, hV3924, r3925, rfl, rfl⟩ := hp
                                  have f3926 := IvM_f3 hV3924
                                  show GW κ 8 0 0 (wM r g I3924 A3924 L3924) 268 [(4, .int x3322), (3, .int x3323), (2, .int y3237), (1, .int x326), (0, .ref (r 0))] []
                                  refine g_iload_n hk dX12_cut_268 rfl ?_
                                  refine g_iload_n hk dX12_cut_269 rfl ?_
                                  refine g_iadd hk dX12_cut_270 ?_
                                  refine g_topi (fun y3927 ey3927 => ?_)
                                  have hy3927 : y3927.toInt = x326.toInt + x3323.toInt := i32_add ey3927 rfl rfl (by omega) (by omega)
                                  refine g_istore_n (lv' := [(1, .int y3927), (4, .int x3322), (3, .int x3323), (2, .int y3237), (0, .ref (r 0))]) hk dX12_cut_271 (by decide) rfl ?_
                                  refine g_goto (tgt := 291) hk dX12_cut_272 (by decide) ?_
                                  refine g_goto (tgt := 7) hk dX12_cut_291 (by decide) ?_
                                  exact g_lv (List.forall_mem_cons.mpr ⟨List.mem_of_getElem? (i := 0) rfl, (List.forall_mem_cons.mpr ⟨List.mem_of_getElem? (i := 4) rfl, (fun _ h => absurd h List.not_mem_nil)⟩)⟩) (ih3232 y3927 I3924 A3924 L3924 (show Md [3] (upd I 3 0) I3924 from Md.tr hI328 (show Md [3] I328 I3924 from (Md.tr Md.rf hI3924 rfl)) rfl) (show Md [2, 3, 4] A A3924 from Md.tr hA328 (show Md [2, 3, 4] A328 A3924 from (Md.tr Md.rf hA3924 rfl)) rfl) hV3924 (by omega) (by omega) (by omega) (by omega))
                              · skip
                                show GW κ 8 0 0 (wM r g I328 A328 L328) 218 [(4, .int x3322), (3, .int x3323), (2, .int y3237), (1, .int x326), (0, .ref (r 0))] [.int 1]
                                refine g_if_eq (tgt := 250) (a := 1) hk dX12_cut_218 (by decide) rfl (fun z9 => absurd z9 (show ¬ ((1 : Int) = (0 : Int)) from by decide)) (fun _ => ?_)
                                refine g_iload_n hk dX12_cut_221 rfl ?_
                                refine g_iconst (v := 4) hk dX12_cut_222 (by decide) ?_
                                refine g_icmp_ge (tgt := 244) (a := x3323.toInt) (b := 4) hk dX12_cut_223 (by decide) rfl rfl (fun c3928 => ?_) (fun c3928 => ?_)
                                · skip
                                  obtain ⟨y3929, ey3929⟩ : ∃ y : Int32, y = x3323 + Int32.ofInt 1 := ⟨_, rfl⟩
                                  have hy3929 : y3929.toInt = x3323.toInt + 1 := i32_add ey3929 rfl (by decide) (by omega) (by omega)
                                  refine g_iinc (v := y3929) (lv' := [(3, .int y3929), (4, .int x3322), (2, .int y3237), (1, .int x326), (0, .ref (r 0))]) hk 1 dX12_cut_244 rfl ey3929.symm (by decide) rfl ?_
                                  refine g_goto (tgt := 208) hk dX12_cut_247 (by decide) ?_
                                  have b3930l := Int32.le_toInt x3322
                                  have b3930h := Int32.toInt_lt x3322
                                  exact g_lv (List.forall_mem_cons.mpr ⟨List.mem_of_getElem? (i := 1) rfl, (List.forall_mem_cons.mpr ⟨List.mem_of_getElem? (i := 0) rfl, (List.forall_mem_cons.mpr ⟨List.mem_of_getElem? (i := 2) rfl, (List.forall_mem_cons.mpr ⟨List.mem_of_getElem? (i := 3) rfl, (List.forall_mem_cons.mpr ⟨List.mem_of_getElem? (i := 4) rfl, (fun _ h => absurd h List.not_mem_nil)⟩)⟩)⟩)⟩)⟩) (ih3882 x3322 y3929 (by omega) (by omega) (by omega) (by omega) (by omega))
                                · skip
                                  refine g_bipush (v := 10) hk dX12_cut_226 (by decide) ?_
                                  refine g_iload hk dX12_cut_228 rfl ?_
                                  have b3931l := Int32.le_toInt x3322
                                  have b3931h := Int32.toInt_lt x3322
                                  refine g_imul hk dX12_cut_230 ?_
                                  refine g_topi (fun y3932 ey3932 => ?_)
                                  refine g_aload_n hk dX12_cut_231 rfl ?_
                                  refine g_iload_n hk dX12_cut_232 rfl ?_
                                  refine g_iload_n hk dX12_cut_233 rfl ?_
                                  refine g_iadd hk dX12_cut_234 ?_
                                  refine g_topi (fun y3933 ey3933 => ?_)
                                  have hy3933 : y3933.toInt = x326.toInt + x3323.toInt := i32_add ey3933 rfl rfl (by omega) (by omega)
                                  refine g_callV (n := 1) hk (j118_X12_byteAt l D zt r g I328 A328 L328 y3933 hV328 (by omega)) (SP.same _) (fun _ h => h) (gi_V (List.mem_cons_of_mem _ (List.mem_append_left _ (List.mem_of_getElem? (i := 1) rfl))) (List.mem_cons_of_mem _ (List.mem_append_left _ (List.mem_of_getElem? (i := 2) rfl))) (List.mem_cons_of_mem _ (List.mem_append_left _ (List.mem_of_getElem? (i := 3) rfl))) (List.mem_cons_of_mem _ (List.mem_append_left _ (List.mem_of_getElem? (i := 4) rfl))) (gi_sub (fun w h => (List.mem_cons_of_mem _ (List.mem_append_right _ (List.mem_append_right _ (List.mem_append_left _ h))))) zg_j118_X12_byteAt)) rfl rfl rfl (by decide +kernel) ⟨Nat.le_of_ble_eq_true rfl, Nat.le_of_ble_eq_true rfl⟩ 0 rfl rfl rfl rfl (Nat.le_of_ble_eq_true rfl) ⟨Nat.le_of_ble_eq_true rfl, Nat.le_of_ble_eq_true rfl⟩ dX12_cut_235 (fun v ty' w' hp hk' => ?_)
                                  rcases hp with ⟨rfl, rfl⟩ | ⟨y3936, c3935, c3937, c3938, rfl, rfl⟩
                                  · skip
                                    show GW κ 8 0 0 (wM r g I328 A328 L328) 238 [(4, .int x3322), (3, .int x3323), (2, .int y3237), (1, .int x326), (0, .ref (r 0))] [.int 0, .int y3932]
                                    have b3939l := Int32.le_toInt y3932
                                    have b3939h := Int32.toInt_lt y3932
                                    refine g_iadd hk dX12_cut_238 ?_
                                    refine g_topi (fun y3940 ey3940 => ?_)
                                    have hy3940 : y3940.toInt = y3932.toInt + 0 := i32_add ey3940 rfl rfl (by omega) (by omega)
                                    refine g_bipush (v := 48) hk dX12_cut_239 (by decide) ?_
                                    have b3941l := Int32.le_toInt y3940
                                    have b3941h := Int32.toInt_lt y3940
                                    refine g_isub hk dX12_cut_241 ?_
                                    refine g_topi (fun y3942 ey3942 => ?_)
                                    have hy3942 := i32_sub0 ey3942
                                    refine g_istore (lv' := [(4, .int y3942), (3, .int x3323), (2, .int y3237), (1, .int x326), (0, .ref (r 0))]) hk dX12_cut_242 (by decide) rfl ?_
                                    obtain ⟨y3943, ey3943⟩ : ∃ y : Int32, y = x3323 + Int32.ofInt 1 := ⟨_, rfl⟩
                                    have hy3943 : y3943.toInt = x3323.toInt + 1 := i32_add ey3943 rfl (by decide) (by omega) (by omega)
                                    refine g_iinc (v := y3943) (lv' := [(3, .int y3943), (4, .int y3942), (2, .int y3237), (1, .int x326), (0, .ref (r 0))]) hk 1 dX12_cut_244 rfl ey3943.symm (by decide) rfl ?_
                                    refine g_goto (tgt := 208) hk dX12_cut_247 (by decide) ?_
                                    have b3944l := Int32.le_toInt y3942
                                    have b3944h := Int32.toInt_lt y3942
                                    exact g_lv (List.forall_mem_cons.mpr ⟨List.mem_of_getElem? (i := 1) rfl, (List.forall_mem_cons.mpr ⟨List.mem_of_getElem? (i := 0) rfl, (List.forall_mem_cons.mpr ⟨List.mem_of_getElem? (i := 2) rfl, (List.forall_mem_cons.mpr ⟨List.mem_of_getElem? (i := 3) rfl, (List.forall_mem_cons.mpr ⟨List.mem_of_getElem? (i := 4) rfl, (fun _ h => absurd h List.not_mem_nil)⟩)⟩)⟩)⟩)⟩) (ih3882 y3942 y3943 (by omega) (by omega) (by omega) (by omega) (by omega))
                                  · skip
                                    show GW κ 8 0 0 (wM r g I328 A328 L328) 238 [(4, .int x3322), (3, .int x3323), (2, .int y3237), (1, .int x326), (0, .ref (r 0))] [.int y3936, .int y3932]
                                    have b3945l := Int32.le_toInt y3932
                                    have b3945h := Int32.toInt_lt y3932
                                    refine g_iadd hk dX12_cut_238 ?_
                                    refine g_topi (fun y3946 ey3946 => ?_)
                                    refine g_bipush (v := 48) hk dX12_cut_239 (by decide) ?_
                                    have b3947l := Int32.le_toInt y3946
                                    have b3947h := Int32.toInt_lt y3946
                                    refine g_isub hk dX12_cut_241 ?_
                                    refine g_topi (fun y3948 ey3948 => ?_)
                                    have hy3948 := i32_sub0 ey3948
                                    refine g_istore (lv' := [(4, .int y3948), (3, .int x3323), (2, .int y3237), (1, .int x326), (0, .ref (r 0))]) hk dX12_cut_242 (by decide) rfl ?_
                                    obtain ⟨y3949, ey3949⟩ : ∃ y : Int32, y = x3323 + Int32.ofInt 1 := ⟨_, rfl⟩
                                    have hy3949 : y3949.toInt = x3323.toInt + 1 := i32_add ey3949 rfl (by decide) (by omega) (by omega)
                                    refine g_iinc (v := y3949) (lv' := [(3, .int y3949), (4, .int y3948), (2, .int y3237), (1, .int x326), (0, .ref (r 0))]) hk 1 dX12_cut_244 rfl ey3949.symm (by decide) rfl ?_
                                    refine g_goto (tgt := 208) hk dX12_cut_247 (by decide) ?_
                                    have b3950l := Int32.le_toInt y3948
                                    have b3950h := Int32.toInt_lt y3948
                                    exact g_lv (List.forall_mem_cons.mpr ⟨List.mem_of_getElem? (i := 1) rfl, (List.forall_mem_cons.mpr ⟨List.mem_of_getElem? (i := 0) rfl, (List.forall_mem_cons.mpr ⟨List.mem_of_getElem? (i := 2) rfl, (List.forall_mem_cons.mpr ⟨List.mem_of_getElem? (i := 3) rfl, (List.forall_mem_cons.mpr ⟨List.mem_of_getElem? (i := 4) rfl, (fun _ h => absurd h List.not_mem_nil)⟩)⟩)⟩)⟩)⟩) (ih3882 y3948 y3949 (by omega) (by omega) (by omega) (by omega) (by omega))
                        have k3951 : (0 : Int32).toInt = 0 := rfl
                        obtain ⟨n3952, n3952a, n3952b⟩ : ∃ n : Nat, 2001 - x326.toInt - (0 : Int32).toInt < (n : Int) ∧ 0 < n := ⟨((2001 - x326.toInt - (0 : Int32).toInt : Int)).toNat + 1, by omega, by omega⟩
                        exact lp3879 n3952 0 0 (by omega) (by omega) (by omega) n3952a n3952b
                    · skip
                      show GW κ 8 0 0 (wM r g I328 A328 L328) 77 [(2, .int y3237), (1, .int x326), (0, .ref (r 0))] [.int 1]
                      refine g_if_eq (tgt := 196) (a := 1) hk dX12_cut_77 (by decide) rfl (fun z9 => absurd z9 (show ¬ ((1 : Int) = (0 : Int)) from by decide)) (fun _ => ?_)
                      refine g_iconst (v := 0) hk dX12_cut_80 (by decide) ?_
                      refine g_istore_n (lv' := [(3, .int 0), (2, .int y3237), (1, .int x326), (0, .ref (r 0))]) hk dX12_cut_81 (by decide) rfl ?_
                      refine g_lconst (v := 0) hk dX12_cut_82 (by decide) ?_
                      refine g_lstore (lv' := [(4, .long 0), (3, .int 0), (2, .int y3237), (1, .int x326), (0, .ref (r 0))]) hk dX12_cut_83 (by decide) rfl ?_
                      have lp4398 : ∀ (n4399 : Nat) (x3953 : Int64) (x3954 : Int32), (0 ≤ x3954.toInt) → (x3954.toInt ≤ 2000) → (x326.toInt + x3954.toInt ≤ 2000) → (2001 - x326.toInt - x3954.toInt < (n4399 : Int)) → (0 < n4399) → GW κ 8 0 0 (wM r g I328 A328 L328) 85 [(4, .long x3953), (3, .int x3954), (2, .int y3237), (1, .int x326), (0, .ref (r 0))] [] := by
                        intro n4399
                        induction n4399 with
                        | zero =>
                          intro x3953 x3954 h4395 h4396 h4397 m4400 m4400z
                          exact absurd m4400z (Nat.lt_irrefl 0)
                        | succ n4399 ih4401 =>
                          intro x3953 x3954 h4395 h4396 h4397 m4400 m4400z
                          refine g_aload_n hk dX12_cut_85 rfl ?_
                          refine g_iload_n hk dX12_cut_86 rfl ?_
                          refine g_iload_n hk dX12_cut_87 rfl ?_
                          refine g_iadd hk dX12_cut_88 ?_
                          refine g_topi (fun y4402 ey4402 => ?_)
                          have hy4402 : y4402.toInt = x326.toInt + x3954.toInt := i32_add ey4402 rfl rfl (by omega) (by omega)
                          refine g_callV (n := 1) hk (j118_X12_byteAt l D zt r g I328 A328 L328 y4402 hV328 (by omega)) (SP.same _) (fun _ h => h) (gi_V (List.mem_cons_of_mem _ (List.mem_append_left _ (List.mem_of_getElem? (i := 1) rfl))) (List.mem_cons_of_mem _ (List.mem_append_left _ (List.mem_of_getElem? (i := 2) rfl))) (List.mem_cons_of_mem _ (List.mem_append_left _ (List.mem_of_getElem? (i := 3) rfl))) (List.mem_cons_of_mem _ (List.mem_append_left _ (List.mem_of_getElem? (i := 4) rfl))) (gi_sub (fun w h => (List.mem_cons_of_mem _ (List.mem_append_right _ (List.mem_append_right _ (List.mem_append_left _ h))))) zg_j118_X12_byteAt)) rfl rfl rfl (by decide +kernel) ⟨Nat.le_of_ble_eq_true rfl, Nat.le_of_ble_eq_true rfl⟩ 0 rfl rfl rfl rfl (Nat.le_of_ble_eq_true rfl) ⟨Nat.le_of_ble_eq_true rfl, Nat.le_of_ble_eq_true rfl⟩ dX12_cut_89 (fun v ty' w' hp hk' => ?_)
                          rcases hp with ⟨rfl, rfl⟩ | ⟨y4405, c4404, c4406, c4407, rfl, rfl⟩
                          · skip
                            show GW κ 8 0 0 (wM r g I328 A328 L328) 92 [(4, .long x3953), (3, .int x3954), (2, .int y3237), (1, .int x326), (0, .ref (r 0))] [.int 0]
                            have k4408 : (0 : Int32).toInt = 0 := rfl
                            refine g_callS (n := 1) hk (j119_X12_isLetter l D zt r g I328 A328 L328 0 hV328) (SP.same _) (fun _ h => h) (gi_S (List.mem_cons_of_mem _ (List.mem_append_left _ (List.mem_of_getElem? (i := 6) rfl))) (List.mem_cons_of_mem _ (List.mem_append_left _ (List.mem_of_getElem? (i := 7) rfl))) (List.mem_cons_of_mem _ (List.mem_append_left _ (List.mem_of_getElem? (i := 4) rfl))) (gi_sub (fun w h => (List.mem_cons_of_mem _ (List.mem_append_right _ (List.mem_append_right _ (List.mem_append_right _ (List.mem_append_left _ h)))))) zg_j119_X12_isLetter)) rfl rfl rfl (by decide +kernel) ⟨Nat.le_of_ble_eq_true rfl, Nat.le_of_ble_eq_true rfl⟩ rfl rfl (Nat.le_of_ble_eq_true rfl) ⟨Nat.le_of_ble_eq_true rfl, Nat.le_of_ble_eq_true rfl⟩ dX12_cut_92 (fun v ty' w' hp hk' => ?_)
                            rcases hp with ⟨rfl, rfl⟩ | ⟨c4410, c4411, c4412, c4413, rfl, rfl⟩
                            · skip
                              show GW κ 8 0 0 (wM r g I328 A328 L328) 95 [(4, .long x3953), (3, .int x3954), (2, .int y3237), (1, .int x326), (0, .ref (r 0))] [.int 0]
                              refine g_if_eq (tgt := 124) (a := 0) hk dX12_cut_95 (by decide) rfl (fun _ => ?_) (fun z9 => absurd (show (0 : Int) = (0 : Int) from by decide) z9)
                              refine g_iload_n hk dX12_cut_124 rfl ?_
                              refine g_bipush (v := 8) hk dX12_cut_125 (by decide) ?_
                              refine g_icmp_le (tgt := 134) (a := x3954.toInt) (b := 8) hk dX12_cut_127 (by decide) rfl rfl (fun c4415 => ?_) (fun c4415 => ?_)
                              · skip
                                refine g_iconst (v := 1) hk dX12_cut_134 (by decide) ?_
                                refine g_istore (lv' := [(6, .int 1), (4, .long x3953), (3, .int x3954), (2, .int y3237), (1, .int x326), (0, .ref (r 0))]) hk dX12_cut_135 (by decide) rfl ?_
                                refine g_iload_n hk dX12_cut_137 rfl ?_
                                refine g_bipush (v := 8) hk dX12_cut_138 (by decide) ?_
                                refine g_icmp_gt (tgt := 179) (a := x3954.toInt) (b := 8) hk dX12_cut_140 (by decide) rfl rfl (fun z9 => absurd z9 (show ¬ (8 < x3954.toInt) from by omega)) (fun _ => ?_)
                                refine g_iconst (v := 0) hk dX12_cut_143 (by decide) ?_
                                refine g_istore (lv' := [(7, .int 0), (6, .int 1), (4, .long x3953), (3, .int x3954), (2, .int y3237), (1, .int x326), (0, .ref (r 0))]) hk dX12_cut_144 (by decide) rfl ?_
                                have lp4480 : ∀ (n4481 : Nat) (x4416 : Int32) (x4417 : Int32), (0 ≤ x4416.toInt) → (x4416.toInt ≤ 13) → (1 ≤ x4417.toInt) → (x4417.toInt ≤ 32) → (14 - x4416.toInt < (n4481 : Int)) → (0 < n4481) → GW κ 8 0 0 (wM r g I328 A328 L328) 146 [(7, .int x4416), (6, .int x4417), (4, .long x3953), (3, .int x3954), (2, .int y3237), (1, .int x326), (0, .ref (r 0))] [] := by
                                  intro n4481
                                  induction n4481 with
                                  | zero =>
                                    intro x4416 x4417 h4476 h4477 h4478 h4479 m4482 m4482z
                                    exact absurd m4482z (Nat.lt_irrefl 0)
                                  | succ n4481 ih4483 =>
                                    intro x4416 x4417 h4476 h4477 h4478 h4479 m4482 m4482z
                                    refine g_iload hk dX12_cut_146 rfl ?_
                                    refine g_bipush (v := 13) hk dX12_cut_148 (by decide) ?_
                                    refine g_icmp_ge (tgt := 179) (a := x4416.toInt) (b := 13) hk dX12_cut_150 (by decide) rfl rfl (fun c4484 => ?_) (fun c4484 => ?_)
                                    · skip
                                      refine g_aload_n hk dX12_cut_179 rfl ?_
                                      refine g_iload hk dX12_cut_180 rfl ?_
                                      refine g_iload_n hk dX12_cut_182 rfl ?_
                                      refine g_iconst (v := 0) hk dX12_cut_183 (by decide) ?_
                                      refine g_lload hk dX12_cut_184 rfl ?_
                                      refine g_callV (n := 4) hk (j122_X12_token l D zt r g I328 A328 L328 x4417 x326 0 x3953 hV328 (by omega)) (SP.same _) (fun _ h => h) (gi_V (List.mem_cons_of_mem _ (List.mem_append_left _ (List.mem_of_getElem? (i := 13) rfl))) (List.mem_cons_of_mem _ (List.mem_append_left _ (List.mem_of_getElem? (i := 14) rfl))) (List.mem_cons_of_mem _ (List.mem_append_left _ (List.mem_of_getElem? (i := 15) rfl))) (List.mem_cons_of_mem _ (List.mem_append_left _ (List.mem_of_getElem? (i := 4) rfl))) (gi_sub (fun w h => (List.mem_cons_of_mem _ (List.mem_append_right _ (List.mem_append_right _ (List.mem_append_right _ (List.mem_append_right _ (List.mem_append_right _ (List.mem_append_right _ (List.mem_append_left _ h))))))))) zg_j122_X12_token)) rfl rfl rfl (by decide +kernel) ⟨Nat.le_of_ble_eq_true rfl, Nat.le_of_ble_eq_true rfl⟩ 0 rfl rfl rfl rfl (Nat.le_of_ble_eq_true rfl) ⟨Nat.le_of_ble_eq_true rfl, Nat.le_of_ble_eq_true rfl⟩ dX12_cut_186 (fun v ty' w' hp hk' => ?_)
                                      obtain ⟨I4486, A4486, L4486, hI4486, hA4486, hV4486, r4487, rfl, rfl⟩ := hp
                                      have f4488 := IvM_f3 hV4486
                                      show GW κ 8 0 0 (wM r g I4486 A4486 L4486) 189 [(7, .int x4416), (6, .int x4417), (4, .long x3953), (3, .int x3954), (2, .int y3237), (1, .int x326), (0, .ref (r 0))] []
                                      refine g_iload_n hk dX12_cut_189 rfl ?_
                                      refine g_iload_n hk dX12_cut_190 rfl ?_
                                      refine g_iadd hk dX12_cut_191 ?_
                                      refine g_topi (fun y4489 ey4489 => ?_)
                                      have hy4489 : y4489.toInt = x326.toInt + x3954.toInt := i32_add ey4489 rfl rfl (by omega) (by omega)
                                      refine g_istore_n (lv' := [(1, .int y4489), (7, .int x4416), (6, .int x4417), (4, .long x3953), (3, .int x3954), (2, .int y3237), (0, .ref (r 0))]) hk dX12_cut_192 (by decide) rfl ?_
                                      refine g_goto (tgt := 291) hk dX12_cut_193 (by decide) ?_
                                      refine g_goto (tgt := 7) hk dX12_cut_291 (by decide) ?_
                                      exact g_lv (List.forall_mem_cons.mpr ⟨List.mem_of_getElem? (i := 0) rfl, (List.forall_mem_cons.mpr ⟨List.mem_of_getElem? (i := 6) rfl, (fun _ h => absurd h List.not_mem_nil)⟩)⟩) (ih3232 y4489 I4486 A4486 L4486 (show Md [3] (upd I 3 0) I4486 from Md.tr hI328 (show Md [3] I328 I4486 from (Md.tr Md.rf hI4486 rfl)) rfl) (show Md [2, 3, 4] A A4486 from Md.tr hA328 (show Md [2, 3, 4] A328 A4486 from (Md.tr Md.rf hA4486 rfl)) rfl) hV4486 (by omega) (by omega) (by omega) (by omega))
                                    · skip
                                      refine g_aload_n hk dX12_cut_153 rfl ?_
                                      refine gM_r0_9 hk hin12 (List.mem_cons_of_mem _ (List.mem_append_left _ (List.mem_of_getElem? (i := 16) rfl))) dX12_cut_154 ?_
                                      refine g_iload hk dX12_cut_157 rfl ?_
                                      refine lM_6 hk (vp_in_iff.mpr ⟨by omega, by omega⟩) rfl dX12_cut_159 ?_
                                      refine g_topl (fun y4490 ey4490 => ?_)
                                      refine g_lload hk dX12_cut_160 rfl ?_
                                      refine g_lcmp hk dX12_cut_162 ?_
                                      refine g_topi (fun y4491 ey4491 => ?_)
                                      have b4492l := Int32.le_toInt y4491
                                      have b4492h := Int32.toInt_lt y4491
                                      refine g_if_ne (tgt := 173) (a := y4491.toInt) hk dX12_cut_163 (by decide) rfl (fun c4493 => ?_) (fun c4493 => ?_)
                                      · skip
                                        obtain ⟨y4494, ey4494⟩ : ∃ y : Int32, y = x4416 + Int32.ofInt 1 := ⟨_, rfl⟩
                                        have hy4494 : y4494.toInt = x4416.toInt + 1 := i32_add ey4494 rfl (by decide) (by omega) (by omega)
                                        refine g_iinc (v := y4494) (lv' := [(7, .int y4494), (6, .int x4417), (4, .long x3953), (3, .int x3954), (2, .int y3237), (1, .int x326), (0, .ref (r 0))]) hk 0 dX12_cut_173 rfl ey4494.symm (by decide) rfl ?_
                                        refine g_goto (tgt := 146) hk dX12_cut_176 (by decide) ?_
                                        exact g_lv (List.forall_mem_cons.mpr ⟨List.mem_of_getElem? (i := 0) rfl, (List.forall_mem_cons.mpr ⟨List.mem_of_getElem? (i := 1) rfl, (List.forall_mem_cons.mpr ⟨List.mem_of_getElem? (i := 2) rfl, (List.forall_mem_cons.mpr ⟨List.mem_of_getElem? (i := 3) rfl, (List.forall_mem_cons.mpr ⟨List.mem_of_getElem? (i := 4) rfl, (List.forall_mem_cons.mpr ⟨List.mem_of_getElem? (i := 5) rfl, (List.forall_mem_cons.mpr ⟨List.mem_of_getElem? (i := 6) rfl, (fun _ h => absurd h List.not_mem_nil)⟩)⟩)⟩)⟩)⟩)⟩)⟩) (ih4483 y4494 x4417 (by omega) (by omega) (by omega) (by omega) (by omega) (by omega))
                                      · skip
                                        refine g_bipush (v := 20) hk dX12_cut_166 (by decide) ?_
                                        refine g_iload hk dX12_cut_168 rfl ?_
                                        refine g_iadd hk dX12_cut_170 ?_
                                        refine g_topi (fun y4495 ey4495 => ?_)
                                        have hy4495 : y4495.toInt = 20 + x4416.toInt := i32_add ey4495 rfl rfl (by omega) (by omega)
                                        refine g_istore (lv' := [(6, .int y4495), (7, .int x4416), (4, .long x3953), (3, .int x3954), (2, .int y3237), (1, .int x326), (0, .ref (r 0))]) hk dX12_cut_171 (by decide) rfl ?_
                                        obtain ⟨y4496, ey4496⟩ : ∃ y : Int32, y = x4416 + Int32.ofInt 1 := ⟨_, rfl⟩
                                        have hy4496 : y4496.toInt = x4416.toInt + 1 := i32_add ey4496 rfl (by decide) (by omega) (by omega)
                                        refine g_iinc (v := y4496) (lv' := [(7, .int y4496), (6, .int y4495), (4, .long x3953), (3, .int x3954), (2, .int y3237), (1, .int x326), (0, .ref (r 0))]) hk 1 dX12_cut_173 rfl ey4496.symm (by decide) rfl ?_
                                        refine g_goto (tgt := 146) hk dX12_cut_176 (by decide) ?_
                                        exact g_lv (List.forall_mem_cons.mpr ⟨List.mem_of_getElem? (i := 0) rfl, (List.forall_mem_cons.mpr ⟨List.mem_of_getElem? (i := 1) rfl, (List.forall_mem_cons.mpr ⟨List.mem_of_getElem? (i := 2) rfl, (List.forall_mem_cons.mpr ⟨List.mem_of_getElem? (i := 3) rfl, (List.forall_mem_cons.mpr ⟨List.mem_of_getElem? (i := 4) rfl, (List.forall_mem_cons.mpr ⟨List.mem_of_getElem? (i := 5) rfl, (List.forall_mem_cons.mpr ⟨List.mem_of_getElem? (i := 6) rfl, (fun _ h => absurd h List.not_mem_nil)⟩)⟩)⟩)⟩)⟩)⟩)⟩) (ih4483 y4496 y4495 (by omega) (by omega) (by omega) (by omega) (by omega) (by omega))
                                have k4497 : (1 : Int32).toInt = 1 := rfl
                                obtain ⟨n4498, n4498a, n4498b⟩ : ∃ n : Nat, 14 - (0 : Int32).toInt < (n : Int) ∧ 0 < n := ⟨((14 - (0 : Int32).toInt : Int)).toNat + 1, by omega, by omega⟩
                                exact lp4480 n4498 0 1 (by omega) (by omega) (by omega) (by omega) n4498a n4498b
                              · skip
                                refine g_iconst (v := 3) hk dX12_cut_130 (by decide) ?_
                                refine g_goto (tgt := 135) hk dX12_cut_131 (by decide) ?_
                                refine g_istore (lv' := [(6, .int 3), (4, .long x3953), (3, .int x3954), (2, .int y3237), (1, .int x326), (0, .ref (r 0))]) hk dX12_cut_135 (by decide) rfl ?_
                                refine g_iload_n hk dX12_cut_137 rfl ?_
                                refine g_bipush (v := 8) hk dX12_cut_138 (by decide) ?_
                                refine g_icmp_gt (tgt := 179) (a := x3954.toInt) (b := 8) hk dX12_cut_140 (by decide) rfl rfl (fun _ => ?_) (fun z9 => absurd (show 8 < x3954.toInt from by omega) z9)
                                refine g_aload_n hk dX12_cut_179 rfl ?_
                                refine g_iload hk dX12_cut_180 rfl ?_
                                refine g_iload_n hk dX12_cut_182 rfl ?_
                                refine g_iconst (v := 0) hk dX12_cut_183 (by decide) ?_
                                refine g_lload hk dX12_cut_184 rfl ?_
                                have k4499 : (3 : Int32).toInt = 3 := rfl
                                refine g_callV (n := 4) hk (j122_X12_token l D zt r g I328 A328 L328 3 x326 0 x3953 hV328 (by omega)) (SP.same _) (fun _ h => h) (gi_V (List.mem_cons_of_mem _ (List.mem_append_left _ (List.mem_of_getElem? (i := 13) rfl))) (List.mem_cons_of_mem _ (List.mem_append_left _ (List.mem_of_getElem? (i := 14) rfl))) (List.mem_cons_of_mem _ (List.mem_append_left _ (List.mem_of_getElem? (i := 15) rfl))) (List.mem_cons_of_mem _ (List.mem_append_left _ (List.mem_of_getElem? (i := 4) rfl))) (gi_sub (fun w h => (List.mem_cons_of_mem _ (List.mem_append_right _ (List.mem_append_right _ (List.mem_append_right _ (List.mem_append_right _ (List.mem_append_right _ (List.mem_append_right _ (List.mem_append_left _ h))))))))) zg_j122_X12_token)) rfl rfl rfl (by decide +kernel) ⟨Nat.le_of_ble_eq_true rfl, Nat.le_of_ble_eq_true rfl⟩ 0 rfl rfl rfl rfl (Nat.le_of_ble_eq_true rfl) ⟨Nat.le_of_ble_eq_true rfl, Nat.le_of_ble_eq_true rfl⟩ dX12_cut_186 (fun v ty' w' hp hk' => ?_)
                                obtain ⟨I4501, A4501, L4501, hI4501, hA4501, hV4501, r4502, rfl, rfl⟩ := hp
                                have f4503 := IvM_f3 hV4501
                                show GW κ 8 0 0 (wM r g I4501 A4501 L4501) 189 [(6, .int 3), (4, .long x3953), (3, .int x3954), (2, .int y3237), (1, .int x326), (0, .ref (r 0))] []
                                refine g_iload_n hk dX12_cut_189 rfl ?_
                                refine g_iload_n hk dX12_cut_190 rfl ?_
                                refine g_iadd hk dX12_cut_191 ?_
                                refine g_topi (fun y4504 ey4504 => ?_)
                                have hy4504 : y4504.toInt = x326.toInt + x3954.toInt := i32_add ey4504 rfl rfl (by omega) (by omega)
                                refine g_istore_n (lv' := [(1, .int y4504), (6, .int 3), (4, .long x3953), (3, .int x3954), (2, .int y3237), (0, .ref (r 0))]) hk dX12_cut_192 (by decide) rfl ?_
                                refine g_goto (tgt := 291) hk dX12_cut_193 (by decide) ?_
                                refine g_goto (tgt := 7) hk dX12_cut_291 (by decide) ?_
                                exact g_lv (List.forall_mem_cons.mpr ⟨List.mem_of_getElem? (i := 0) rfl, (List.forall_mem_cons.mpr ⟨List.mem_of_getElem? (i := 5) rfl, (fun _ h => absurd h List.not_mem_nil)⟩)⟩) (ih3232 y4504 I4501 A4501 L4501 (show Md [3] (upd I 3 0) I4501 from Md.tr hI328 (show Md [3] I328 I4501 from (Md.tr Md.rf hI4501 rfl)) rfl) (show Md [2, 3, 4] A A4501 from Md.tr hA328 (show Md [2, 3, 4] A328 A4501 from (Md.tr Md.rf hA4501 rfl)) rfl) hV4501 (by omega) (by omega) (by omega) (by omega))
                            · skip
                              show GW κ 8 0 0 (wM r g I328 A328 L328) 95 [(4, .long x3953), (3, .int x3954), (2, .int y3237), (1, .int x326), (0, .ref (r 0))] [.int 1]
                              exfalso; omega
                          · skip
                            show GW κ 8 0 0 (wM r g I328 A328 L328) 92 [(4, .long x3953), (3, .int x3954), (2, .int y3237), (1, .int x326), (0, .ref (r 0))] [.int y4405]
                            refine g_callS (n := 1) hk (j119_X12_isLetter l D zt r g I328 A328 L328 y4405 hV328) (SP.same _) (fun _ h => h) (gi_S (List.mem_cons_of_mem _ (List.mem_append_left _ (List.mem_of_getElem? (i := 6) rfl))) (List.mem_cons_of_mem _ (List.mem_append_left _ (List.mem_of_getElem? (i := 7) rfl))) (List.mem_cons_of_mem _ (List.mem_append_left _ (List.mem_of_getElem? (i := 4) rfl))) (gi_sub (fun w h => (List.mem_cons_of_mem _ (List.mem_append_right _ (List.mem_append_right _ (List.mem_append_right _ (List.mem_append_left _ h)))))) zg_j119_X12_isLetter)) rfl rfl rfl (by decide +kernel) ⟨Nat.le_of_ble_eq_true rfl, Nat.le_of_ble_eq_true rfl⟩ rfl rfl (Nat.le_of_ble_eq_true rfl) ⟨Nat.le_of_ble_eq_true rfl, Nat.le_of_ble_eq_true rfl⟩ dX12_cut_92 (fun v ty' w' hp hk' => ?_)
                            rcases hp with ⟨rfl, rfl⟩ | ⟨c4506, c4507, c4508, c4509, rfl, rfl⟩
                            · skip
                              show GW κ 8 0 0 (wM r g I328 A328 L328) 95 [(4, .long x3953), (3, .int x3954), (2, .int y3237), (1, .int x326), (0, .ref (r 0))] [.int 0]
                              refine g_if_eq (tgt := 124) (a := 0) hk dX12_cut_95 (by decide) rfl (fun _ => ?_) (fun z9 => absurd (show (0 : Int) = (0 : Int) from by decide) z9)
                              refine g_iload_n hk dX12_cut_124 rfl ?_
                              refine g_bipush (v := 8) hk dX12_cut_125 (by decide) ?_
                              refine g_icmp_le (tgt := 134) (a := x3954.toInt) (b := 8) hk dX12_cut_127 (by decide) rfl rfl (fun c4511 => ?_) (fun c4511 => ?_)
                              · skip
                                refine g_iconst (v := 1) hk dX12_cut_134 (by decide) ?_
                                refine g_istore (lv' := [(6, .int 1), (4, .long x3953), (3, .int x3954), (2, .int y3237), (1, .int x326), (0, .ref (r 0))]) hk dX12_cut_135 (by decide) rfl ?_
                                refine g_iload_n hk dX12_cut_137 rfl ?_
                                refine g_bipush (v := 8) hk dX12_cut_138 (by decide) ?_
                                refine g_icmp_gt (tgt := 179) (a := x3954.toInt) (b := 8) hk dX12_cut_140 (by decide) rfl rfl (fun z9 => absurd z9 (show ¬ (8 < x3954.toInt) from by omega)) (fun _ => ?_)
                                refine g_iconst (v := 0) hk dX12_cut_143 (by decide) ?_
                                refine g_istore (lv' := [(7, .int 0), (6, .int 1), (4, .long x3953), (3, .int x3954), (2, .int y3237), (1, .int x326), (0, .ref (r 0))]) hk dX12_cut_144 (by decide) rfl ?_
                                have lp4579 : ∀ (n4580 : Nat) (x4512 : Int32) (x4513 : Int32), (0 ≤ x4512.toInt) → (x4512.toInt ≤ 13) → (1 ≤ x4513.toInt) → (x4513.toInt ≤ 32) → (14 - x4512.toInt < (n4580 : Int)) → (0 < n4580) → GW κ 8 0 0 (wM r g I328 A328 L328) 146 [(7, .int x4512), (6, .int x4513), (4, .long x3953), (3, .int x3954), (2, .int y3237), (1, .int x326), (0, .ref (r 0))] [] := by
                                  intro n4580
                                  induction n4580 with
                                  | zero =>
                                    intro x4512 x4513 h4575 h4576 h4577 h4578 m4581 m4581z
                                    exact absurd m4581z (Nat.lt_irrefl 0)
                                  | succ n4580 ih4582 =>
                                    intro x4512 x4513 h4575 h4576 h4577 h4578 m4581 m4581z
                                    refine g_iload hk dX12_cut_146 rfl ?_
                                    refine g_bipush (v := 13) hk dX12_cut_148 (by decide) ?_
                                    refine g_icmp_ge (tgt := 179) (a := x4512.toInt) (b := 13) hk dX12_cut_150 (by decide) rfl rfl (fun c4583 => ?_) (fun c4583 => ?_)
                                    · skip
                                      refine g_aload_n hk dX12_cut_179 rfl ?_
                                      refine g_iload hk dX12_cut_180 rfl ?_
                                      refine g_iload_n hk dX12_cut_182 rfl ?_
                                      refine g_iconst (v := 0) hk dX12_cut_183 (by decide) ?_
                                      refine g_lload hk dX12_cut_184 rfl ?_
                                      have k4584 : (0 : Int32).toInt = 0 := rfl
                                      refine g_callV (n := 4) hk (j122_X12_token l D zt r g I328 A328 L328 x4513 x326 0 x3953 hV328 (by omega)) (SP.same _) (fun _ h => h) (gi_V (List.mem_cons_of_mem _ (List.mem_append_left _ (List.mem_of_getElem? (i := 13) rfl))) (List.mem_cons_of_mem _ (List.mem_append_left _ (List.mem_of_getElem? (i := 14) rfl))) (List.mem_cons_of_mem _ (List.mem_append_left _ (List.mem_of_getElem? (i := 15) rfl))) (List.mem_cons_of_mem _ (List.mem_append_left _ (List.mem_of_getElem? (i := 4) rfl))) (gi_sub (fun w h => (List.mem_cons_of_mem _ (List.mem_append_right _ (List.mem_append_right _ (List.mem_append_right _ (List.mem_append_right _ (List.mem_append_right _ (List.mem_append_right _ (List.mem_append_left _ h))))))))) zg_j122_X12_token)) rfl rfl rfl (by decide +kernel) ⟨Nat.le_of_ble_eq_true rfl, Nat.le_of_ble_eq_true rfl⟩ 0 rfl rfl rfl rfl (Nat.le_of_ble_eq_true rfl) ⟨Nat.le_of_ble_eq_true rfl, Nat.le_of_ble_eq_true rfl⟩ dX12_cut_186 (fun v ty' w' hp hk' => ?_)
                                      obtain ⟨I4586, A4586, L4586, hI4586, hA4586, hV4586, r4587, rfl, rfl⟩ := hp
                                      have f4588 := IvM_f3 hV4586
                                      show GW κ 8 0 0 (wM r g I4586 A4586 L4586) 189 [(7, .int x4512), (6, .int x4513), (4, .long x3953), (3, .int x3954), (2, .int y3237), (1, .int x326), (0, .ref (r 0))] []
                                      refine g_iload_n hk dX12_cut_189 rfl ?_
                                      refine g_iload_n hk dX12_cut_190 rfl ?_
                                      refine g_iadd hk dX12_cut_191 ?_
                                      refine g_topi (fun y4589 ey4589 => ?_)
                                      have hy4589 : y4589.toInt = x326.toInt + x3954.toInt := i32_add ey4589 rfl rfl (by omega) (by omega)
                                      refine g_istore_n (lv' := [(1, .int y4589), (7, .int x4512), (6, .int x4513), (4, .long x3953), (3, .int x3954), (2, .int y3237), (0, .ref (r 0))]) hk dX12_cut_192 (by decide) rfl ?_
                                      refine g_goto (tgt := 291) hk dX12_cut_193 (by decide) ?_
                                      refine g_goto (tgt := 7) hk dX12_cut_291 (by decide) ?_
                                      exact g_lv (List.forall_mem_cons.mpr ⟨List.mem_of_getElem? (i := 0) rfl, (List.forall_mem_cons.mpr ⟨List.mem_of_getElem? (i := 6) rfl, (fun _ h => absurd h List.not_mem_nil)⟩)⟩) (ih3232 y4589 I4586 A4586 L4586 (show Md [3] (upd I 3 0) I4586 from Md.tr hI328 (show Md [3] I328 I4586 from (Md.tr Md.rf hI4586 rfl)) rfl) (show Md [2, 3, 4] A A4586 from Md.tr hA328 (show Md [2, 3, 4] A328 A4586 from (Md.tr Md.rf hA4586 rfl)) rfl) hV4586 (by omega) (by omega) (by omega) (by omega))
                                    · skip
                                      refine g_aload_n hk dX12_cut_153 rfl ?_
                                      refine gM_r0_9 hk hin12 (List.mem_cons_of_mem _ (List.mem_append_left _ (List.mem_of_getElem? (i := 16) rfl))) dX12_cut_154 ?_
                                      refine g_iload hk dX12_cut_157 rfl ?_
                                      refine lM_6 hk (vp_in_iff.mpr ⟨by omega, by omega⟩) rfl dX12_cut_159 ?_
                                      refine g_topl (fun y4590 ey4590 => ?_)
                                      refine g_lload hk dX12_cut_160 rfl ?_
                                      refine g_lcmp hk dX12_cut_162 ?_
                                      refine g_topi (fun y4591 ey4591 => ?_)
                                      have b4592l := Int32.le_toInt y4591
                                      have b4592h := Int32.toInt_lt y4591
                                      refine g_if_ne (tgt := 173) (a := y4591.toInt) hk dX12_cut_163 (by decide) rfl (fun c4593 => ?_) (fun c4593 => ?_)
                                      · skip
                                        obtain ⟨y4594, ey4594⟩ : ∃ y : Int32, y = x4512 + Int32.ofInt 1 := ⟨_, rfl⟩
                                        have hy4594 : y4594.toInt = x4512.toInt + 1 := i32_add ey4594 rfl (by decide) (by omega) (by omega)
                                        refine g_iinc (v := y4594) (lv' := [(7, .int y4594), (6, .int x4513), (4, .long x3953), (3, .int x3954), (2, .int y3237), (1, .int x326), (0, .ref (r 0))]) hk 0 dX12_cut_173 rfl ey4594.symm (by decide) rfl ?_
                                        refine g_goto (tgt := 146) hk dX12_cut_176 (by decide) ?_
                                        exact g_lv (List.forall_mem_cons.mpr ⟨List.mem_of_getElem? (i := 0) rfl, (List.forall_mem_cons.mpr ⟨List.mem_of_getElem? (i := 1) rfl, (List.forall_mem_cons.mpr ⟨List.mem_of_getElem? (i := 2) rfl, (List.forall_mem_cons.mpr ⟨List.mem_of_getElem? (i := 3) rfl, (List.forall_mem_cons.mpr ⟨List.mem_of_getElem? (i := 4) rfl, (List.forall_mem_cons.mpr ⟨List.mem_of_getElem? (i := 5) rfl, (List.forall_mem_cons.mpr ⟨List.mem_of_getElem? (i := 6) rfl, (fun _ h => absurd h List.not_mem_nil)⟩)⟩)⟩)⟩)⟩)⟩)⟩) (ih4582 y4594 x4513 (by omega) (by omega) (by omega) (by omega) (by omega) (by omega))
                                      · skip
                                        refine g_bipush (v := 20) hk dX12_cut_166 (by decide) ?_
                                        refine g_iload hk dX12_cut_168 rfl ?_
                                        refine g_iadd hk dX12_cut_170 ?_
                                        refine g_topi (fun y4595 ey4595 => ?_)
                                        have hy4595 : y4595.toInt = 20 + x4512.toInt := i32_add ey4595 rfl rfl (by omega) (by omega)
                                        refine g_istore (lv' := [(6, .int y4595), (7, .int x4512), (4, .long x3953), (3, .int x3954), (2, .int y3237), (1, .int x326), (0, .ref (r 0))]) hk dX12_cut_171 (by decide) rfl ?_
                                        obtain ⟨y4596, ey4596⟩ : ∃ y : Int32, y = x4512 + Int32.ofInt 1 := ⟨_, rfl⟩
                                        have hy4596 : y4596.toInt = x4512.toInt + 1 := i32_add ey4596 rfl (by decide) (by omega) (by omega)
                                        refine g_iinc (v := y4596) (lv' := [(7, .int y4596), (6, .int y4595), (4, .long x3953), (3, .int x3954), (2, .int y3237), (1, .int x326), (0, .ref (r 0))]) hk 1 dX12_cut_173 rfl ey4596.symm (by decide) rfl ?_
                                        refine g_goto (tgt := 146) hk dX12_cut_176 (by decide) ?_
                                        exact g_lv (List.forall_mem_cons.mpr ⟨List.mem_of_getElem? (i := 0) rfl, (List.forall_mem_cons.mpr ⟨List.mem_of_getElem? (i := 1) rfl, (List.forall_mem_cons.mpr ⟨List.mem_of_getElem? (i := 2) rfl, (List.forall_mem_cons.mpr ⟨List.mem_of_getElem? (i := 3) rfl, (List.forall_mem_cons.mpr ⟨List.mem_of_getElem? (i := 4) rfl, (List.forall_mem_cons.mpr ⟨List.mem_of_getElem? (i := 5) rfl, (List.forall_mem_cons.mpr ⟨List.mem_of_getElem? (i := 6) rfl, (fun _ h => absurd h List.not_mem_nil)⟩)⟩)⟩)⟩)⟩)⟩)⟩) (ih4582 y4596 y4595 (by omega) (by omega) (by omega) (by omega) (by omega) (by omega))
                                have k4597 : (0 : Int32).toInt = 0 := rfl
                                have k4598 : (1 : Int32).toInt = 1 := rfl
                                obtain ⟨n4599, n4599a, n4599b⟩ : ∃ n : Nat, 14 - (0 : Int32).toInt < (n : Int) ∧ 0 < n := ⟨((14 - (0 : Int32).toInt : Int)).toNat + 1, by omega, by omega⟩
                                exact lp4579 n4599 0 1 (by omega) (by omega) (by omega) (by omega) n4599a n4599b
                              · skip
                                refine g_iconst (v := 3) hk dX12_cut_130 (by decide) ?_
                                refine g_goto (tgt := 135) hk dX12_cut_131 (by decide) ?_
                                refine g_istore (lv' := [(6, .int 3), (4, .long x3953), (3, .int x3954), (2, .int y3237), (1, .int x326), (0, .ref (r 0))]) hk dX12_cut_135 (by decide) rfl ?_
                                refine g_iload_n hk dX12_cut_137 rfl ?_
                                refine g_bipush (v := 8) hk dX12_cut_138 (by decide) ?_
                                refine g_icmp_gt (tgt := 179) (a := x3954.toInt) (b := 8) hk dX12_cut_140 (by decide) rfl rfl (fun _ => ?_) (fun z9 => absurd (show 8 < x3954.toInt from by omega) z9)
                                refine g_aload_n hk dX12_cut_179 rfl ?_
                                refine g_iload hk dX12_cut_180 rfl ?_
                                refine g_iload_n hk dX12_cut_182 rfl ?_
                                refine g_iconst (v := 0) hk dX12_cut_183 (by decide) ?_
                                refine g_lload hk dX12_cut_184 rfl ?_
                                have k4600 : (3 : Int32).toInt = 3 := rfl
                                have k4601 : (0 : Int32).toInt = 0 := rfl
                                refine g_callV (n := 4) hk (j122_X12_token l D zt r g I328 A328 L328 3 x326 0 x3953 hV328 (by omega)) (SP.same _) (fun _ h => h) (gi_V (List.mem_cons_of_mem _ (List.mem_append_left _ (List.mem_of_getElem? (i := 13) rfl))) (List.mem_cons_of_mem _ (List.mem_append_left _ (List.mem_of_getElem? (i := 14) rfl))) (List.mem_cons_of_mem _ (List.mem_append_left _ (List.mem_of_getElem? (i := 15) rfl))) (List.mem_cons_of_mem _ (List.mem_append_left _ (List.mem_of_getElem? (i := 4) rfl))) (gi_sub (fun w h => (List.mem_cons_of_mem _ (List.mem_append_right _ (List.mem_append_right _ (List.mem_append_right _ (List.mem_append_right _ (List.mem_append_right _ (List.mem_append_right _ (List.mem_append_left _ h))))))))) zg_j122_X12_token)) rfl rfl rfl (by decide +kernel) ⟨Nat.le_of_ble_eq_true rfl, Nat.le_of_ble_eq_true rfl⟩ 0 rfl rfl rfl rfl (Nat.le_of_ble_eq_true rfl) ⟨Nat.le_of_ble_eq_true rfl, Nat.le_of_ble_eq_true rfl⟩ dX12_cut_186 (fun v ty' w' hp hk' => ?_)
                                obtain ⟨I4603, A4603, L4603, hI4603, hA4603, hV4603, r4604, rfl, rfl⟩ := hp
                                have f4605 := IvM_f3 hV4603
                                show GW κ 8 0 0 (wM r g I4603 A4603 L4603) 189 [(6, .int 3), (4, .long x3953), (3, .int x3954), (2, .int y3237), (1, .int x326), (0, .ref (r 0))] []
                                refine g_iload_n hk dX12_cut_189 rfl ?_
                                refine g_iload_n hk dX12_cut_190 rfl ?_
                                refine g_iadd hk dX12_cut_191 ?_
                                refine g_topi (fun y4606 ey4606 => ?_)
                                have hy4606 : y4606.toInt = x326.toInt + x3954.toInt := i32_add ey4606 rfl rfl (by omega) (by omega)
                                refine g_istore_n (lv' := [(1, .int y4606), (6, .int 3), (4, .long x3953), (3, .int x3954), (2, .int y3237), (0, .ref (r 0))]) hk dX12_cut_192 (by decide) rfl ?_
                                refine g_goto (tgt := 291) hk dX12_cut_193 (by decide) ?_
                                refine g_goto (tgt := 7) hk dX12_cut_291 (by decide) ?_
                                exact g_lv (List.forall_mem_cons.mpr ⟨List.mem_of_getElem? (i := 0) rfl, (List.forall_mem_cons.mpr ⟨List.mem_of_getElem? (i := 5) rfl, (fun _ h => absurd h List.not_mem_nil)⟩)⟩) (ih3232 y4606 I4603 A4603 L4603 (show Md [3] (upd I 3 0) I4603 from Md.tr hI328 (show Md [3] I328 I4603 from (Md.tr Md.rf hI4603 rfl)) rfl) (show Md [2, 3, 4] A A4603 from Md.tr hA328 (show Md [2, 3, 4] A328 A4603 from (Md.tr Md.rf hA4603 rfl)) rfl) hV4603 (by omega) (by omega) (by omega) (by omega))
                            · skip
                              show GW κ 8 0 0 (wM r g I328 A328 L328) 95 [(4, .long x3953), (3, .int x3954), (2, .int y3237), (1, .int x326), (0, .ref (r 0))] [.int 1]
                              refine g_if_eq (tgt := 124) (a := 1) hk dX12_cut_95 (by decide) rfl (fun z9 => absurd z9 (show ¬ ((1 : Int) = (0 : Int)) from by decide)) (fun _ => ?_)
                              refine g_iload_n hk dX12_cut_98 rfl ?_
                              refine g_bipush (v := 8) hk dX12_cut_99 (by decide) ?_
                              refine g_icmp_ge (tgt := 118) (a := x3954.toInt) (b := 8) hk dX12_cut_101 (by decide) rfl rfl (fun c4607 => ?_) (fun c4607 => ?_)
                              · skip
                                obtain ⟨y4608, ey4608⟩ : ∃ y : Int32, y = x3954 + Int32.ofInt 1 := ⟨_, rfl⟩
                                have hy4608 : y4608.toInt = x3954.toInt + 1 := i32_add ey4608 rfl (by decide) (by omega) (by omega)
                                refine g_iinc (v := y4608) (lv' := [(3, .int y4608), (4, .long x3953), (2, .int y3237), (1, .int x326), (0, .ref (r 0))]) hk 1 dX12_cut_118 rfl ey4608.symm (by decide) rfl ?_
                                refine g_goto (tgt := 85) hk dX12_cut_121 (by decide) ?_
                                exact g_lv (List.forall_mem_cons.mpr ⟨List.mem_of_getElem? (i := 1) rfl, (List.forall_mem_cons.mpr ⟨List.mem_of_getElem? (i := 0) rfl, (List.forall_mem_cons.mpr ⟨List.mem_of_getElem? (i := 2) rfl, (List.forall_mem_cons.mpr ⟨List.mem_of_getElem? (i := 3) rfl, (List.forall_mem_cons.mpr ⟨List.mem_of_getElem? (i := 4) rfl, (fun _ h => absurd h List.not_mem_nil)⟩)⟩)⟩)⟩)⟩) (ih4401 x3953 y4608 (by omega) (by omega) (by omega) (by omega) (by omega))
                              · skip
                                refine g_lload hk dX12_cut_104 rfl ?_
                                refine g_aload_n hk dX12_cut_106 rfl ?_
                                refine g_iload_n hk dX12_cut_107 rfl ?_
                                refine g_iload_n hk dX12_cut_108 rfl ?_
                                refine g_iadd hk dX12_cut_109 ?_
                                refine g_topi (fun y4609 ey4609 => ?_)
                                have hy4609 : y4609.toInt = x326.toInt + x3954.toInt := i32_add ey4609 rfl rfl (by omega) (by omega)
                                refine g_callV (n := 1) hk (j118_X12_byteAt l D zt r g I328 A328 L328 y4609 hV328 (by omega)) (SP.same _) (fun _ h => h) (gi_V (List.mem_cons_of_mem _ (List.mem_append_left _ (List.mem_of_getElem? (i := 1) rfl))) (List.mem_cons_of_mem _ (List.mem_append_left _ (List.mem_of_getElem? (i := 2) rfl))) (List.mem_cons_of_mem _ (List.mem_append_left _ (List.mem_of_getElem? (i := 3) rfl))) (List.mem_cons_of_mem _ (List.mem_append_left _ (List.mem_of_getElem? (i := 4) rfl))) (gi_sub (fun w h => (List.mem_cons_of_mem _ (List.mem_append_right _ (List.mem_append_right _ (List.mem_append_left _ h))))) zg_j118_X12_byteAt)) rfl rfl rfl (by decide +kernel) ⟨Nat.le_of_ble_eq_true rfl, Nat.le_of_ble_eq_true rfl⟩ 0 rfl rfl rfl rfl (Nat.le_of_ble_eq_true rfl) ⟨Nat.le_of_ble_eq_true rfl, Nat.le_of_ble_eq_true rfl⟩ dX12_cut_110 (fun v ty' w' hp hk' => ?_)
                                rcases hp with ⟨rfl, rfl⟩ | ⟨y4612, c4611, c4613, c4614, rfl, rfl⟩
                                · skip
                                  show GW κ 8 0 0 (wM r g I328 A328 L328) 113 [(4, .long x3953), (3, .int x3954), (2, .int y3237), (1, .int x326), (0, .ref (r 0))] [.int 0, .long x3953]
                                  have k4615 : (0 : Int32).toInt = 0 := rfl
                                  refine g_callS (n := 2) hk (j123_X12_appends l D zt r g I328 A328 L328 x3953 0 hV328) (SP.same _) (fun _ h => h) (gi_S (List.mem_cons_of_mem _ (List.mem_append_left _ (List.mem_of_getElem? (i := 17) rfl))) (List.mem_cons_of_mem _ (List.mem_append_left _ (List.mem_of_getElem? (i := 18) rfl))) (List.mem_cons_of_mem _ (List.mem_append_left _ (List.mem_of_getElem? (i := 4) rfl))) (gi_sub (fun w h => (List.mem_cons_of_mem _ (List.mem_append_right _ (List.mem_append_right _ (List.mem_append_right _ (List.mem_append_right _ (List.mem_append_right _ (List.mem_append_right _ (List.mem_append_right _ (List.mem_append_left _ h)))))))))) zg_j123_X12_appends)) rfl rfl rfl (by decide +kernel) ⟨Nat.le_of_ble_eq_true rfl, Nat.le_of_ble_eq_true rfl⟩ rfl rfl (Nat.le_of_ble_eq_true rfl) ⟨Nat.le_of_ble_eq_true rfl, Nat.le_of_ble_eq_true rfl⟩ dX12_cut_113 (fun v ty' w' hp hk' => ?_)
                                  obtain ⟨y4616, rfl, rfl⟩ := hp
                                  show GW κ 8 0 0 (wM r g I328 A328 L328) 116 [(4, .long x3953), (3, .int x3954), (2, .int y3237), (1, .int x326), (0, .ref (r 0))] [.long y4616]
                                  refine g_lstore (lv' := [(4, .long y4616), (3, .int x3954), (2, .int y3237), (1, .int x326), (0, .ref (r 0))]) hk dX12_cut_116 (by decide) rfl ?_
                                  obtain ⟨y4617, ey4617⟩ : ∃ y : Int32, y = x3954 + Int32.ofInt 1 := ⟨_, rfl⟩
                                  have hy4617 : y4617.toInt = x3954.toInt + 1 := i32_add ey4617 rfl (by decide) (by omega) (by omega)
                                  refine g_iinc (v := y4617) (lv' := [(3, .int y4617), (4, .long y4616), (2, .int y3237), (1, .int x326), (0, .ref (r 0))]) hk 1 dX12_cut_118 rfl ey4617.symm (by decide) rfl ?_
                                  refine g_goto (tgt := 85) hk dX12_cut_121 (by decide) ?_
                                  exact g_lv (List.forall_mem_cons.mpr ⟨List.mem_of_getElem? (i := 1) rfl, (List.forall_mem_cons.mpr ⟨List.mem_of_getElem? (i := 0) rfl, (List.forall_mem_cons.mpr ⟨List.mem_of_getElem? (i := 2) rfl, (List.forall_mem_cons.mpr ⟨List.mem_of_getElem? (i := 3) rfl, (List.forall_mem_cons.mpr ⟨List.mem_of_getElem? (i := 4) rfl, (fun _ h => absurd h List.not_mem_nil)⟩)⟩)⟩)⟩)⟩) (ih4401 y4616 y4617 (by omega) (by omega) (by omega) (by omega) (by omega))
                                · skip
                                  show GW κ 8 0 0 (wM r g I328 A328 L328) 113 [(4, .long x3953), (3, .int x3954), (2, .int y3237), (1, .int x326), (0, .ref (r 0))] [.int y4612, .long x3953]
                                  refine g_callS (n := 2) hk (j123_X12_appends l D zt r g I328 A328 L328 x3953 y4612 hV328) (SP.same _) (fun _ h => h) (gi_S (List.mem_cons_of_mem _ (List.mem_append_left _ (List.mem_of_getElem? (i := 17) rfl))) (List.mem_cons_of_mem _ (List.mem_append_left _ (List.mem_of_getElem? (i := 18) rfl))) (List.mem_cons_of_mem _ (List.mem_append_left _ (List.mem_of_getElem? (i := 4) rfl))) (gi_sub (fun w h => (List.mem_cons_of_mem _ (List.mem_append_right _ (List.mem_append_right _ (List.mem_append_right _ (List.mem_append_right _ (List.mem_append_right _ (List.mem_append_right _ (List.mem_append_right _ (List.mem_append_left _ h)))))))))) zg_j123_X12_appends)) rfl rfl rfl (by decide +kernel) ⟨Nat.le_of_ble_eq_true rfl, Nat.le_of_ble_eq_true rfl⟩ rfl rfl (Nat.le_of_ble_eq_true rfl) ⟨Nat.le_of_ble_eq_true rfl, Nat.le_of_ble_eq_true rfl⟩ dX12_cut_113 (fun v ty' w' hp hk' => ?_)
                                  obtain ⟨y4618, rfl, rfl⟩ := hp
                                  show GW κ 8 0 0 (wM r g I328 A328 L328) 116 [(4, .long x3953), (3, .int x3954), (2, .int y3237), (1, .int x326), (0, .ref (r 0))] [.long y4618]
                                  refine g_lstore (lv' := [(4, .long y4618), (3, .int x3954), (2, .int y3237), (1, .int x326), (0, .ref (r 0))]) hk dX12_cut_116 (by decide) rfl ?_
                                  obtain ⟨y4619, ey4619⟩ : ∃ y : Int32, y = x3954 + Int32.ofInt 1 := ⟨_, rfl⟩
                                  have hy4619 : y4619.toInt = x3954.toInt + 1 := i32_add ey4619 rfl (by decide) (by omega) (by omega)
                                  refine g_iinc (v := y4619) (lv' := [(3, .int y4619), (4, .long y4618), (2, .int y3237), (1, .int x326), (0, .ref (r 0))]) hk 1 dX12_cut_118 rfl ey4619.symm (by decide) rfl ?_
                                  refine g_goto (tgt := 85) hk dX12_cut_121 (by decide) ?_
                                  exact g_lv (List.forall_mem_cons.mpr ⟨List.mem_of_getElem? (i := 1) rfl, (List.forall_mem_cons.mpr ⟨List.mem_of_getElem? (i := 0) rfl, (List.forall_mem_cons.mpr ⟨List.mem_of_getElem? (i := 2) rfl, (List.forall_mem_cons.mpr ⟨List.mem_of_getElem? (i := 3) rfl, (List.forall_mem_cons.mpr ⟨List.mem_of_getElem? (i := 4) rfl, (fun _ h => absurd h List.not_mem_nil)⟩)⟩)⟩)⟩)⟩) (ih4401 y4618 y4619 (by omega) (by omega) (by omega) (by omega) (by omega))
                      have k4620 : (0 : Int32).toInt = 0 := rfl
                      obtain ⟨n4621, n4621a, n4621b⟩ : ∃ n : Nat, 2001 - x326.toInt - (0 : Int32).toInt < (n : Int) ∧ 0 < n := ⟨((2001 - x326.toInt - (0 : Int32).toInt : Int)).toNat + 1, by omega, by omega⟩
                      exact lp4398 n4621 0 0 (by omega) (by omega) (by omega) n4621a n4621b
                  · skip
                    obtain ⟨y4622, ey4622⟩ : ∃ y : Int32, y = x326 + Int32.ofInt 1 := ⟨_, rfl⟩
                    have hy4622 : y4622.toInt = x326.toInt + 1 := i32_add ey4622 rfl (by decide) (by omega) (by omega)
                    refine g_iinc (v := y4622) (lv' := [(1, .int y4622), (2, .int y3237), (0, .ref (r 0))]) hk 1 dX12_cut_67 rfl ey4622.symm (by decide) rfl ?_
                    refine g_goto (tgt := 291) hk dX12_cut_70 (by decide) ?_
                    refine g_goto (tgt := 7) hk dX12_cut_291 (by decide) ?_
                    exact g_lv (List.forall_mem_cons.mpr ⟨List.mem_of_getElem? (i := 0) rfl, (List.forall_mem_cons.mpr ⟨List.mem_of_getElem? (i := 2) rfl, (fun _ h => absurd h List.not_mem_nil)⟩)⟩) (ih3232 y4622 I328 A328 L328 (show Md [3] (upd I 3 0) I328 from Md.tr hI328 (show Md [3] I328 I328 from Md.rf) rfl) (show Md [2, 3, 4] A A328 from Md.tr hA328 (show Md [2, 3, 4] A328 A328 from Md.rf) rfl) hV328 (by omega) (by omega) (by omega) (by omega))
          · skip
            refine g_aload_n hk dX12_cut_31 rfl ?_
            refine g_iconst (v := 0) hk dX12_cut_32 (by decide) ?_
            refine g_aload_n hk dX12_cut_33 rfl ?_
            refine gM_i2 (v := (I 2)) hk hin12 (List.mem_cons_of_mem _ (List.mem_append_left _ (List.mem_of_getElem? (i := 5) rfl))) dX12_cut_34 (hI328 2 rfl) ?_
            refine g_iconst (v := 0) hk dX12_cut_37 (by decide) ?_
            refine g_lconst (v := 0) hk dX12_cut_38 (by decide) ?_
            have k4623 : (0 : Int32).toInt = 0 := rfl
            refine g_callV (n := 4) hk (j122_X12_token l D zt r g I328 A328 L328 0 (I 2) 0 0 hV328 (by omega)) (SP.same _) (fun _ h => h) (gi_V (List.mem_cons_of_mem _ (List.mem_append_left _ (List.mem_of_getElem? (i := 13) rfl))) (List.mem_cons_of_mem _ (List.mem_append_left _ (List.mem_of_getElem? (i := 14) rfl))) (List.mem_cons_of_mem _ (List.mem_append_left _ (List.mem_of_getElem? (i := 15) rfl))) (List.mem_cons_of_mem _ (List.mem_append_left _ (List.mem_of_getElem? (i := 4) rfl))) (gi_sub (fun w h => (List.mem_cons_of_mem _ (List.mem_append_right _ (List.mem_append_right _ (List.mem_append_right _ (List.mem_append_right _ (List.mem_append_right _ (List.mem_append_right _ (List.mem_append_left _ h))))))))) zg_j122_X12_token)) rfl rfl rfl (by decide +kernel) ⟨Nat.le_of_ble_eq_true rfl, Nat.le_of_ble_eq_true rfl⟩ 0 rfl rfl rfl rfl (Nat.le_of_ble_eq_true rfl) ⟨Nat.le_of_ble_eq_true rfl, Nat.le_of_ble_eq_true rfl⟩ dX12_cut_39 (fun v ty' w' hp hk' => ?_)
            obtain ⟨I4625, A4625, L4625, hI4625, hA4625, hV4625, r4626, rfl, rfl⟩ := hp
            have f4627 := IvM_f3 hV4625
            show GW κ 8 0 0 (wM r g I4625 A4625 L4625) 42 [(2, .int y3237), (1, .int x326), (0, .ref (r 0))] []
            exact g_vret hk hR ⟨I4625, A4625, L4625, (show Md [3] I I4625 from (Md.tr (Md.tr (Md.up Md.rf rfl) hI328 rfl) hI4625 rfl)), (show Md [2, 3, 4] A A4625 from (Md.tr (Md.tr Md.rf hA328 rfl) hA4625 rfl)), hV4625, rfl, rfl⟩ dX12_cut_42
  have k4628 : (0 : Int32).toInt = 0 := rfl
  obtain ⟨n4629, n4629a, n4629b⟩ : ∃ n : Nat, 2001 - (0 : Int32).toInt + (402 - (0 : Int32).toInt) < (n : Int) ∧ 0 < n := ⟨((2001 - (0 : Int32).toInt + (402 - (0 : Int32).toInt) : Int)).toNat + 1, by omega, by omega⟩
  exact lp3229 n4629 0 (upd I 3 0) A L Md.rf Md.rf ⟨(IvM_f1 (I := I) (A := A) hIv), (IvM_f2 (I := I) (A := A) hIv), (show 0 ≤ (0 : Int32).toInt ∧ (0 : Int32).toInt ≤ 401 from ⟨by decide, by decide⟩), (IvM_f4 (I := I) (A := A) hIv), (IvM_f6 (I := I) (A := A) hIv), (IvM_f8 (I := I) (A := A) hIv), (IvM_f15 (I := I) (A := A) hIv), (IvM_f16 (I := I) (A := A) hIv), (IvM_f17 (I := I) (A := A) hIv), (IvM_f18 (I := I) (A := A) hIv), (IvM_f22 (I := I) (A := A) hIv), (IvM_f23 (I := I) (A := A) hIv), (IvM_f24 (I := I) (A := A) hIv), (IvM_a11 (I := I) (A := A) hIv), (IvM_a26 (I := I) (A := A) hIv), (IvM_s8_0 (I := I) (A := A) hIv), (IvM_s8_1 (I := I) (A := A) hIv), (IvM_s10_0 (I := I) (A := A) hIv), (IvM_s10_1 (I := I) (A := A) hIv), (IvM_s17_0 (I := I) (A := A) hIv), (IvM_s17_164 (I := I) (A := A) hIv), (IvM_lv (I := I) (A := A) hIv), (IvM_sd (I := I) (A := A) hIv), (IvM_nq (I := I) (A := A) hIv), (IvM_hr (I := I) (A := A) hIv), (IvM_hh (I := I) (A := A) hIv), trivial⟩ (by omega) (by omega) (by first | exact n4629a | (rw [show ((upd I 3 0) 3) = (0 : Int32) from rfl] <;> exact n4629a)) n4629b
def wo_j124_X12_plain : List Cond := [Cond.fieldLink RX12 43 "WarpDeskModel" "placesTold" "[I", Cond.fieldLink RX12 49 "WarpDeskModel" "queries" "[I", Cond.fieldLink RX12 58 "WarpDeskModel" "bandTold" "[I", Cond.fieldLink RX12 61 "WarpDeskModel" "levelTold" "[I", Cond.fieldLink RX12 64 "WarpDeskModel" "costTold" "[I", Cond.fieldLink RX12 67 "WarpDeskModel" "apartTold" "[I"]
def wz_j124_X12_plain : List Cond := .code yX12_plain cX12_plain 2 none :: (wo_j124_X12_plain ++ (wsX120 ++ ([] : List Cond)))
theorem zg_j124_X12_plain : ∀ w ∈ wz_j124_X12_plain, goodWord w = true := zg_cons rfl (zg_app (by decide +kernel) (zg_app zgU_wsX120 zg_nil))
theorem zi_j124_X12_plain : ∀ w ∈ wz_j124_X12_plain, w ∈ lw_tbl := zi_cons zw_1364 (zi_app (zi_cons zw_1404 (zi_cons zw_1406 (zi_cons zw_1409 (zi_cons zw_1410 (zi_cons zw_1411 (zi_cons zw_1412 zi_nil)))))) (zi_app inX12 zi_nil))
set_option maxHeartbeats 4000000 in
set_option maxRecDepth 100000 in
theorem j124_X12_plain (l : Launch) (D : va_G) (zt : Nat × Nat × Nat × (Nat → Nat) × (Nat → Nat)) (r : Nat → Nat) (g : Nat → ClassId) (I : Nat → Int32) (A : Nat → Nat → Int32) (L : Nat → Nat → Int64) (z1 : Int32)  (hp0 : 0 ≤ z1.toInt) (hp1 : z1.toInt ≤ 1) : GM l D zt (tyM g) yX12_plain wz_j124_X12_plain ({ frames := 0, cells := 0, slots := 0, locals := 0 } : Room) [.ref (r 0), .int z1] (wM r g I A L) (fun v _ w' => v = none ∧ w' = wM r g I (up3 (up3 (up3 (up3 (up3 (up3 A 8 (z1.toNatClampNeg) 0) 10 (z1.toNatClampNeg) 0) 13 (z1.toNatClampNeg) 2) 14 (z1.toNatClampNeg) 0) 15 (z1.toNatClampNeg) 0) 16 (z1.toNatClampNeg) 8) L) 0 0 := by
  refine GM.of (cc := cX12_plain) (maxL := 2) (ret := none) (own := RX12) (lv := [(0, .ref (r 0)), (1, .int z1)]) (by decide) rfl rfl (Nat.le_of_ble_eq_true rfl) rfl (fun κ sz hk hR hN => ?_)
  have hin12 : ∀ w ∈ u_ws RX12 TX12 55, w ∈ wz_j124_X12_plain := fun w h => (List.mem_cons_of_mem _ (List.mem_append_right _ (List.mem_append_left _ h)))
  refine g_aload_n hk dX12_plain_0 rfl ?_
  refine gM_r0_26 hk hin12 (List.mem_cons_of_mem _ (List.mem_append_left _ (List.mem_of_getElem? (i := 0) rfl))) dX12_plain_1 ?_
  refine g_iload_n hk dX12_plain_4 rfl ?_
  refine g_iconst (v := 0) hk dX12_plain_5 (by decide) ?_
  have k4634 : (0 : Int32).toInt = 0 := rfl
  refine sM_8 (j := z1.toNatClampNeg) hk (vp_in_iff.mpr ⟨by omega, by omega⟩) rfl dX12_plain_6 ?_
  refine g_aload_n hk dX12_plain_7 rfl ?_
  refine gM_r0_28 hk hin12 (List.mem_cons_of_mem _ (List.mem_append_left _ (List.mem_of_getElem? (i := 1) rfl))) dX12_plain_8 ?_
  refine g_iload_n hk dX12_plain_11 rfl ?_
  refine g_iconst (v := 0) hk dX12_plain_12 (by decide) ?_
  refine sM_10 (j := z1.toNatClampNeg) hk (vp_in_iff.mpr ⟨by omega, by omega⟩) rfl dX12_plain_13 ?_
  refine g_aload_n hk dX12_plain_14 rfl ?_
  refine gM_r0_31 hk hin12 (List.mem_cons_of_mem _ (List.mem_append_left _ (List.mem_of_getElem? (i := 2) rfl))) dX12_plain_15 ?_
  refine g_iload_n hk dX12_plain_18 rfl ?_
  refine g_iconst (v := 2) hk dX12_plain_19 (by decide) ?_
  have k4635 : (2 : Int32).toInt = 2 := rfl
  refine sM_13 (j := z1.toNatClampNeg) hk (vp_in_iff.mpr ⟨by omega, by omega⟩) rfl dX12_plain_20 ?_
  refine g_aload_n hk dX12_plain_21 rfl ?_
  refine gM_r0_32 hk hin12 (List.mem_cons_of_mem _ (List.mem_append_left _ (List.mem_of_getElem? (i := 3) rfl))) dX12_plain_22 ?_
  refine g_iload_n hk dX12_plain_25 rfl ?_
  refine g_iconst (v := 0) hk dX12_plain_26 (by decide) ?_
  refine sM_14 (j := z1.toNatClampNeg) hk (vp_in_iff.mpr ⟨by omega, by omega⟩) rfl dX12_plain_27 ?_
  refine g_aload_n hk dX12_plain_28 rfl ?_
  refine gM_r0_33 hk hin12 (List.mem_cons_of_mem _ (List.mem_append_left _ (List.mem_of_getElem? (i := 4) rfl))) dX12_plain_29 ?_
  refine g_iload_n hk dX12_plain_32 rfl ?_
  refine g_iconst (v := 0) hk dX12_plain_33 (by decide) ?_
  refine sM_15 (j := z1.toNatClampNeg) hk (vp_in_iff.mpr ⟨by omega, by omega⟩) rfl dX12_plain_34 ?_
  refine g_aload_n hk dX12_plain_35 rfl ?_
  refine gM_r0_34 hk hin12 (List.mem_cons_of_mem _ (List.mem_append_left _ (List.mem_of_getElem? (i := 5) rfl))) dX12_plain_36 ?_
  refine g_iload_n hk dX12_plain_39 rfl ?_
  refine g_bipush (v := 8) hk dX12_plain_40 (by decide) ?_
  have k4636 : (8 : Int32).toInt = 8 := rfl
  refine sM_16 (j := z1.toNatClampNeg) hk (vp_in_iff.mpr ⟨by omega, by omega⟩) rfl dX12_plain_42 ?_
  exact g_vret hk hR ⟨rfl, rfl⟩ dX12_plain_43
def wo_j125_X12_is : List Cond := [Cond.fieldLink RX12 161 "WarpDeskModel" "fault" "I", Cond.fieldLink RX12 20 "WarpDeskModel" "tKind" "[I", Cond.fieldLink RX12 164 "WarpDeskModel" "t" "I"]
def wz_j125_X12_is : List Cond := .code yX12_is cX12_is 2 (some .boolean) :: (wo_j125_X12_is ++ (wsX120 ++ ([] : List Cond)))
theorem zg_j125_X12_is : ∀ w ∈ wz_j125_X12_is, goodWord w = true := zg_cons rfl (zg_app (by decide +kernel) (zg_app zgU_wsX120 zg_nil))
theorem zi_j125_X12_is : ∀ w ∈ wz_j125_X12_is, w ∈ lw_tbl := zi_cons zw_1586 (zi_app (zi_cons zw_1391 (zi_cons zw_1384 (zi_cons zw_1390 zi_nil))) (zi_app inX12 zi_nil))
set_option maxHeartbeats 4000000 in
set_option maxRecDepth 100000 in
theorem j125_X12_is (l : Launch) (D : va_G) (zt : Nat × Nat × Nat × (Nat → Nat) × (Nat → Nat)) (r : Nat → Nat) (g : Nat → ClassId) (I : Nat → Int32) (A : Nat → Nat → Int32) (L : Nat → Nat → Int64) (z1 : Int32) (hIv : IvM I A) : GM l D zt (tyM g) yX12_is wz_j125_X12_is ({ frames := 0, cells := 0, slots := 0, locals := 0 } : Room) [.ref (r 0), .int z1] (wM r g I A L) (fun v _ w' => ((Fc ((I 6).toInt ≠ 0 ∨ (A 2 (I 4).toNatClampNeg).toInt ≠ z1.toInt)) ∧ v = some (.int 0) ∧ w' = wM r g I A L) ∨ (((I 6).toInt = 0 ∧ (A 2 (I 4).toNatClampNeg).toInt = z1.toInt) ∧ v = some (.int 1) ∧ w' = wM r g I A L)) 0 0 := by
  refine GM.of (cc := cX12_is) (maxL := 2) (ret := (some .boolean)) (own := RX12) (lv := [(0, .ref (r 0)), (1, .int z1)]) (by decide) rfl rfl (Nat.le_of_ble_eq_true rfl) rfl (fun κ sz hk hR hN => ?_)
  have hin12 : ∀ w ∈ u_ws RX12 TX12 55, w ∈ wz_j125_X12_is := fun w h => (List.mem_cons_of_mem _ (List.mem_append_right _ (List.mem_append_left _ h)))
  refine g_aload_n hk dX12_is_0 rfl ?_
  refine gM_i6 (v := (I 6)) hk hin12 (List.mem_cons_of_mem _ (List.mem_append_left _ (List.mem_of_getElem? (i := 0) rfl))) dX12_is_1 rfl ?_
  have f4641 := IvM_f6 hIv
  refine g_if_ne (tgt := 24) (a := (I 6).toInt) hk dX12_is_4 (by decide) rfl (fun c4642 => ?_) (fun c4642 => ?_)
  · skip
    refine g_iconst (v := 0) hk dX12_is_24 (by decide) ?_
    exact g_iret hk hR rfl (Or.inl ⟨(fc (by omega)), rfl, rfl⟩) dX12_is_25
  · skip
    refine g_aload_n hk dX12_is_7 rfl ?_
    refine gM_r0_5 hk hin12 (List.mem_cons_of_mem _ (List.mem_append_left _ (List.mem_of_getElem? (i := 1) rfl))) dX12_is_8 ?_
    refine g_aload_n hk dX12_is_11 rfl ?_
    refine gM_i4 (v := (I 4)) hk hin12 (List.mem_cons_of_mem _ (List.mem_append_left _ (List.mem_of_getElem? (i := 2) rfl))) dX12_is_12 rfl ?_
    have f4643 := IvM_f4 hIv
    refine lM_2 (v := (A 2 (I 4).toNatClampNeg)) hk (vp_in_iff.mpr ⟨by omega, by omega⟩) rfl dX12_is_15 ?_
    refine g_iload_n hk dX12_is_16 rfl ?_
    have b4644l := Int32.le_toInt (A 2 (I 4).toNatClampNeg)
    have b4644h := Int32.toInt_lt (A 2 (I 4).toNatClampNeg)
    have b4645l := Int32.le_toInt z1
    have b4645h := Int32.toInt_lt z1
    refine g_icmp_ne (tgt := 24) (a := (A 2 (I 4).toNatClampNeg).toInt) (b := z1.toInt) hk dX12_is_17 (by decide) rfl rfl (fun c4646 => ?_) (fun c4646 => ?_)
    · skip
      refine g_iconst (v := 0) hk dX12_is_24 (by decide) ?_
      exact g_iret hk hR rfl (Or.inl ⟨(fc (by omega)), rfl, rfl⟩) dX12_is_25
    · skip
      refine g_iconst (v := 1) hk dX12_is_20 (by decide) ?_
      refine g_goto (tgt := 25) hk dX12_is_21 (by decide) ?_
      exact g_iret hk hR rfl (Or.inr (⟨(by omega), rfl, rfl⟩)) dX12_is_25
def wo_j128_X12_fail : List Cond := [Cond.fieldLink RX12 161 "WarpDeskModel" "fault" "I", Cond.fieldLink RX12 24 "WarpDeskModel" "tPlace" "[I", Cond.fieldLink RX12 164 "WarpDeskModel" "t" "I", Cond.fieldLink RX12 167 "WarpDeskModel" "faultPlace" "I", Cond.fieldLink RX12 170 "WarpDeskModel" "here" "I", Cond.fieldLink RX12 173 "WarpDeskModel" "faultCause" "I"]
def wz_j128_X12_fail : List Cond := .code yX12_fail cX12_fail 2 none :: (wo_j128_X12_fail ++ (wsX120 ++ ([] : List Cond)))
theorem zg_j128_X12_fail : ∀ w ∈ wz_j128_X12_fail, goodWord w = true := zg_cons rfl (zg_app (by decide +kernel) (zg_app zgU_wsX120 zg_nil))
theorem zi_j128_X12_fail : ∀ w ∈ wz_j128_X12_fail, w ∈ lw_tbl := zi_cons zw_1598 (zi_app (zi_cons zw_1391 (zi_cons zw_1385 (zi_cons zw_1390 (zi_cons zw_1392 (zi_cons zw_1396 (zi_cons zw_1397 zi_nil)))))) (zi_app inX12 zi_nil))
set_option maxHeartbeats 4000000 in
set_option maxRecDepth 100000 in
theorem j128_X12_fail (l : Launch) (D : va_G) (zt : Nat × Nat × Nat × (Nat → Nat) × (Nat → Nat)) (r : Nat → Nat) (g : Nat → ClassId) (I : Nat → Int32) (A : Nat → Nat → Int32) (L : Nat → Nat → Int64) (z1 : Int32) (hIv : IvM I A) (hp0 : 1 ≤ z1.toInt) (hp1 : z1.toInt ≤ 9) : GM l D zt (tyM g) yX12_fail wz_j128_X12_fail ({ frames := 0, cells := 0, slots := 0, locals := 0 } : Room) [.ref (r 0), .int z1] (wM r g I A L) (fun v _ w' => ∃ (I' : Nat → Int32) (A' : Nat → Nat → Int32) (L' : Nat → Nat → Int64), Md [6, 7, 12] I I' ∧ Md [] A A' ∧ IvM I' A' ∧ ((I 6).toInt ≤ (I' 6).toInt) ∧ ((I 8).toInt ≤ 9 * (I' 8).toInt) ∧ (0 < (I' 6).toInt) ∧ v = none ∧ w' = wM r g I' A' L') 0 0 := by
  refine GM.of (cc := cX12_fail) (maxL := 2) (ret := none) (own := RX12) (lv := [(0, .ref (r 0)), (1, .int z1)]) (by decide) rfl rfl (Nat.le_of_ble_eq_true rfl) rfl (fun κ sz hk hR hN => ?_)
  have hin12 : ∀ w ∈ u_ws RX12 TX12 55, w ∈ wz_j128_X12_fail := fun w h => (List.mem_cons_of_mem _ (List.mem_append_right _ (List.mem_append_left _ h)))
  refine g_aload_n hk dX12_fail_0 rfl ?_
  refine gM_i6 (v := (I 6)) hk hin12 (List.mem_cons_of_mem _ (List.mem_append_left _ (List.mem_of_getElem? (i := 0) rfl))) dX12_fail_1 rfl ?_
  have f4662 := IvM_f6 hIv
  refine g_if_le (tgt := 8) (a := (I 6).toInt) hk dX12_fail_4 (by decide) rfl (fun c4663 => ?_) (fun c4663 => ?_)
  · skip
    refine g_aload_n hk dX12_fail_8 rfl ?_
    refine g_iload_n hk dX12_fail_9 rfl ?_
    refine pM_i6 hk hin12 (List.mem_cons_of_mem _ (List.mem_append_left _ (List.mem_of_getElem? (i := 0) rfl))) dX12_fail_10 ?_
    refine g_aload_n hk dX12_fail_13 rfl ?_
    refine g_aload_n hk dX12_fail_14 rfl ?_
    refine gM_r0_6 hk hin12 (List.mem_cons_of_mem _ (List.mem_append_left _ (List.mem_of_getElem? (i := 1) rfl))) dX12_fail_15 ?_
    refine g_aload_n hk dX12_fail_18 rfl ?_
    refine gM_i4 (v := (I 4)) hk hin12 (List.mem_cons_of_mem _ (List.mem_append_left _ (List.mem_of_getElem? (i := 2) rfl))) dX12_fail_19 rfl ?_
    have f4664 := IvM_f4 hIv
    refine lM_3 (v := (A 3 (I 4).toNatClampNeg)) hk (vp_in_iff.mpr ⟨by omega, by omega⟩) rfl dX12_fail_22 ?_
    refine pM_i7 hk hin12 (List.mem_cons_of_mem _ (List.mem_append_left _ (List.mem_of_getElem? (i := 3) rfl))) dX12_fail_23 ?_
    refine g_aload_n hk dX12_fail_26 rfl ?_
    refine g_aload_n hk dX12_fail_27 rfl ?_
    refine gM_i11 (v := (I 11)) hk hin12 (List.mem_cons_of_mem _ (List.mem_append_left _ (List.mem_of_getElem? (i := 4) rfl))) dX12_fail_28 rfl ?_
    refine pM_i12 hk hin12 (List.mem_cons_of_mem _ (List.mem_append_left _ (List.mem_of_getElem? (i := 5) rfl))) dX12_fail_31 ?_
    have f4665 := IvM_f8 hIv
    exact g_vret hk hR ⟨(upd (upd (upd I 6 z1) 7 (A 3 (I 4).toNatClampNeg)) 12 (I 11)), A, L, (show Md [6, 7, 12] I (upd (upd (upd I 6 z1) 7 (A 3 (I 4).toNatClampNeg)) 12 (I 11)) from (Md.up (Md.up (Md.up Md.rf rfl) rfl) rfl)), (show Md [] A A from Md.rf), ⟨(IvM_f1 (I := I) (A := A) hIv), (IvM_f2 (I := I) (A := A) hIv), (IvM_f3 (I := I) (A := A) hIv), (IvM_f4 (I := I) (A := A) hIv), (show 0 ≤ z1.toInt ∧ z1.toInt ≤ 9 from ⟨by omega, by omega⟩), (IvM_f8 (I := I) (A := A) hIv), (IvM_f15 (I := I) (A := A) hIv), (IvM_f16 (I := I) (A := A) hIv), (IvM_f17 (I := I) (A := A) hIv), (IvM_f18 (I := I) (A := A) hIv), (IvM_f22 (I := I) (A := A) hIv), (IvM_f23 (I := I) (A := A) hIv), (IvM_f24 (I := I) (A := A) hIv), (IvM_a11 (I := I) (A := A) hIv), (IvM_a26 (I := I) (A := A) hIv), (IvM_s8_0 (I := I) (A := A) hIv), (IvM_s8_1 (I := I) (A := A) hIv), (IvM_s10_0 (I := I) (A := A) hIv), (IvM_s10_1 (I := I) (A := A) hIv), (IvM_s17_0 (I := I) (A := A) hIv), (IvM_s17_164 (I := I) (A := A) hIv), (IvM_lv (I := I) (A := A) hIv), (Or.inl (show z1.toInt ≠ 0 from by omega)), (IvM_nq (I := I) (A := A) hIv), (IvM_hr (I := I) (A := A) hIv), (IvM_hh (I := I) (A := A) hIv), trivial⟩, (by rw [show ((upd (upd (upd I 6 z1) 7 (A 3 (I 4).toNatClampNeg)) 12 (I 11)) 6) = z1 from rfl] <;> omega), (by rw [show ((upd (upd (upd I 6 z1) 7 (A 3 (I 4).toNatClampNeg)) 12 (I 11)) 8) = (I 8) from rfl] <;> omega), (by rw [show ((upd (upd (upd I 6 z1) 7 (A 3 (I 4).toNatClampNeg)) 12 (I 11)) 6) = z1 from rfl] <;> omega), rfl, rfl⟩ dX12_fail_34
  · skip
    have f4666 := IvM_f8 hIv
    exact g_vret hk hR ⟨I, A, L, (show Md [6, 7, 12] I I from Md.rf), (show Md [] A A from Md.rf), hIv, (by omega), (by omega), (by omega), rfl, rfl⟩ dX12_fail_7
def wo_j127_X12_goesOn : List Cond := [Cond.fieldLink RX12 164 "WarpDeskModel" "t" "I", Cond.methodLink RX12 185 yX12_fail, Cond.instanceMethod yX12_fail, Cond.selects RX12 yX12_fail yX12_fail, Cond.initialized RX12]
def wz_j127_X12_goesOn : List Cond := .code yX12_goesOn cX12_goesOn 1 none :: (wo_j127_X12_goesOn ++ (wsX120 ++ (wz_j128_X12_fail ++ ([] : List Cond))))
theorem zg_j127_X12_goesOn : ∀ w ∈ wz_j127_X12_goesOn, goodWord w = true := zg_cons rfl (zg_app (by decide +kernel) (zg_app zgU_wsX120 (zg_app zg_j128_X12_fail zg_nil)))
theorem zi_j127_X12_goesOn : ∀ w ∈ wz_j127_X12_goesOn, w ∈ lw_tbl := zi_cons zw_1594 (zi_app (zi_cons zw_1390 (zi_cons zw_1595 (zi_cons zw_1597 (zi_cons zw_55 (zi_cons zw_115 zi_nil))))) (zi_app inX12 (zi_app zi_j128_X12_fail zi_nil)))
set_option maxHeartbeats 4000000 in
set_option maxRecDepth 100000 in
theorem j127_X12_goesOn (l : Launch) (D : va_G) (zt : Nat × Nat × Nat × (Nat → Nat) × (Nat → Nat)) (r : Nat → Nat) (g : Nat → ClassId) (I : Nat → Int32) (A : Nat → Nat → Int32) (L : Nat → Nat → Int64) (hIv : IvM I A) : GM l D zt (tyM g) yX12_goesOn wz_j127_X12_goesOn ({ frames := 1, cells := 0, slots := 0, locals := 21 } : Room) [.ref (r 0)] (wM r g I A L) (fun v _ w' => ∃ (I' : Nat → Int32) (A' : Nat → Nat → Int32) (L' : Nat → Nat → Int64), Md [4, 6, 7, 12] I I' ∧ Md [] A A' ∧ IvM I' A' ∧ ((I 4).toInt ≤ (I' 4).toInt) ∧ ((I 6).toInt ≤ (I' 6).toInt) ∧ ((I 8).toInt ≤ 9 * (I' 8).toInt) ∧ ((I 4).toInt < (I' 4).toInt + (I' 6).toInt) ∧ v = none ∧ w' = wM r g I' A' L') 0 0 := by
  refine GM.of (cc := cX12_goesOn) (maxL := 1) (ret := none) (own := RX12) (lv := [(0, .ref (r 0))]) (by decide) rfl rfl (Nat.le_of_ble_eq_true rfl) rfl (fun κ sz hk hR hN => ?_)
  have hin12 : ∀ w ∈ u_ws RX12 TX12 55, w ∈ wz_j127_X12_goesOn := fun w h => (List.mem_cons_of_mem _ (List.mem_append_right _ (List.mem_append_left _ h)))
  refine g_aload_n hk dX12_goesOn_0 rfl ?_
  refine gM_i4 (v := (I 4)) hk hin12 (List.mem_cons_of_mem _ (List.mem_append_left _ (List.mem_of_getElem? (i := 0) rfl))) dX12_goesOn_1 rfl ?_
  have f4657 := IvM_f4 hIv
  refine g_sipush (v := 400) hk dX12_goesOn_4 (by decide) ?_
  refine g_icmp_ne (tgt := 18) (a := (I 4).toInt) (b := 400) hk dX12_goesOn_7 (by decide) rfl rfl (fun c4658 => ?_) (fun c4658 => ?_)
  · skip
    refine g_aload_n hk dX12_goesOn_18 rfl ?_
    refine g_dup hk dX12_goesOn_19 rfl ?_
    refine gM_i4 (v := (I 4)) hk hin12 (List.mem_cons_of_mem _ (List.mem_append_left _ (List.mem_of_getElem? (i := 0) rfl))) dX12_goesOn_20 rfl ?_
    refine g_iconst (v := 1) hk dX12_goesOn_23 (by decide) ?_
    refine g_iadd hk dX12_goesOn_24 ?_
    refine g_topi (fun y4659 ey4659 => ?_)
    have hy4659 : y4659.toInt = (I 4).toInt + 1 := i32_add ey4659 rfl rfl (by omega) (by omega)
    refine pM_i4 hk hin12 (List.mem_cons_of_mem _ (List.mem_append_left _ (List.mem_of_getElem? (i := 0) rfl))) dX12_goesOn_25 ?_
    have f4660 := IvM_f6 hIv
    have f4661 := IvM_f8 hIv
    exact g_vret hk hR ⟨(upd I 4 y4659), A, L, (show Md [4, 6, 7, 12] I (upd I 4 y4659) from (Md.up Md.rf rfl)), (show Md [] A A from Md.rf), ⟨(IvM_f1 (I := I) (A := A) hIv), (IvM_f2 (I := I) (A := A) hIv), (IvM_f3 (I := I) (A := A) hIv), (show 0 ≤ y4659.toInt ∧ y4659.toInt ≤ 400 from ⟨by omega, by omega⟩), (IvM_f6 (I := I) (A := A) hIv), (IvM_f8 (I := I) (A := A) hIv), (IvM_f15 (I := I) (A := A) hIv), (IvM_f16 (I := I) (A := A) hIv), (IvM_f17 (I := I) (A := A) hIv), (IvM_f18 (I := I) (A := A) hIv), (IvM_f22 (I := I) (A := A) hIv), (IvM_f23 (I := I) (A := A) hIv), (IvM_f24 (I := I) (A := A) hIv), (IvM_a11 (I := I) (A := A) hIv), (IvM_a26 (I := I) (A := A) hIv), (IvM_s8_0 (I := I) (A := A) hIv), (IvM_s8_1 (I := I) (A := A) hIv), (IvM_s10_0 (I := I) (A := A) hIv), (IvM_s10_1 (I := I) (A := A) hIv), (IvM_s17_0 (I := I) (A := A) hIv), (IvM_s17_164 (I := I) (A := A) hIv), (IvM_lv (I := I) (A := A) hIv), (IvM_sd (I := I) (A := A) hIv), (IvM_nq (I := I) (A := A) hIv), (IvM_hr (I := I) (A := A) hIv), (IvM_hh (I := I) (A := A) hIv), trivial⟩, (by rw [show ((upd I 4 y4659) 4) = y4659 from rfl] <;> omega), (by rw [show ((upd I 4 y4659) 6) = (I 6) from rfl] <;> omega), (by rw [show ((upd I 4 y4659) 8) = (I 8) from rfl] <;> omega), (by rw [show ((upd I 4 y4659) 4) = y4659 from rfl, show ((upd I 4 y4659) 6) = (I 6) from rfl] <;> omega), rfl, rfl⟩ dX12_goesOn_28
  · skip
    refine g_aload_n hk dX12_goesOn_10 rfl ?_
    refine g_iconst (v := 2) hk dX12_goesOn_11 (by decide) ?_
    have k4667 : (2 : Int32).toInt = 2 := rfl
    refine g_callV (n := 1) hk (j128_X12_fail l D zt r g I A L 2 hIv (by decide) (by decide)) (SP.same _) (fun _ h => h) (gi_V (List.mem_cons_of_mem _ (List.mem_append_left _ (List.mem_of_getElem? (i := 1) rfl))) (List.mem_cons_of_mem _ (List.mem_append_left _ (List.mem_of_getElem? (i := 2) rfl))) (List.mem_cons_of_mem _ (List.mem_append_left _ (List.mem_of_getElem? (i := 3) rfl))) (List.mem_cons_of_mem _ (List.mem_append_left _ (List.mem_of_getElem? (i := 4) rfl))) (gi_sub (fun w h => (List.mem_cons_of_mem _ (List.mem_append_right _ (List.mem_append_right _ (List.mem_append_left _ h))))) zg_j128_X12_fail)) rfl rfl rfl (by decide +kernel) ⟨Nat.le_of_ble_eq_true rfl, Nat.le_of_ble_eq_true rfl⟩ 0 rfl rfl rfl rfl (Nat.le_of_ble_eq_true rfl) ⟨Nat.le_of_ble_eq_true rfl, Nat.le_of_ble_eq_true rfl⟩ dX12_goesOn_12 (fun v ty' w' hp hk' => ?_)
    obtain ⟨I4669, A4669, L4669, hI4669, hA4669, hV4669, r4670, r4671, r4672, rfl, rfl⟩ := hp
    have f4673 := IvM_f6 hIv
    have f4674 := IvM_f6 hV4669
    have f4675 := IvM_f8 hIv
    rw [show (I4669 8) = (I 8) from (hI4669 8 rfl)] at r4671
    show GW κ 1 0 0 (wM r g I4669 A4669 L4669) 15 [(0, .ref (r 0))] []
    refine g_goto (tgt := 28) hk dX12_goesOn_15 (by decide) ?_
    exact g_vret hk hR ⟨I4669, A4669, L4669, (show Md [4, 6, 7, 12] I I4669 from (Md.tr Md.rf hI4669 rfl)), (show Md [] A A4669 from (Md.tr Md.rf hA4669 rfl)), hV4669, (by rw [show (I4669 4) = (I 4) from (hI4669 4 rfl)] <;> omega), (by omega), (by rw [show (I4669 8) = (I 8) from (hI4669 8 rfl)] <;> omega), (by rw [show (I4669 4) = (I 4) from (hI4669 4 rfl)] <;> omega), rfl, rfl⟩ dX12_goesOn_28
def wo_j130_X12_isReading : List Cond := [Cond.methodLink RX12 188 yX12_is, Cond.instanceMethod yX12_is, Cond.selects RX12 yX12_is yX12_is, Cond.initialized RX12]
def wz_j130_X12_isReading : List Cond := .code yX12_isReading cX12_isReading 1 (some .boolean) :: (wo_j130_X12_isReading ++ (wz_j125_X12_is ++ ([] : List Cond)))
theorem zg_j130_X12_isReading : ∀ w ∈ wz_j130_X12_isReading, goodWord w = true := zg_cons rfl (zg_app (by decide +kernel) (zg_app zg_j125_X12_is zg_nil))
theorem zi_j130_X12_isReading : ∀ w ∈ wz_j130_X12_isReading, w ∈ lw_tbl := zi_cons zw_1606 (zi_app (zi_cons zw_1583 (zi_cons zw_1585 (zi_cons zw_52 (zi_cons zw_115 zi_nil)))) (zi_app zi_j125_X12_is zi_nil))
set_option maxHeartbeats 4000000 in
set_option maxRecDepth 100000 in
theorem j130_X12_isReading (l : Launch) (D : va_G) (zt : Nat × Nat × Nat × (Nat → Nat) × (Nat → Nat)) (r : Nat → Nat) (g : Nat → ClassId) (I : Nat → Int32) (A : Nat → Nat → Int32) (L : Nat → Nat → Int64) (hIv : IvM I A) : GM l D zt (tyM g) yX12_isReading wz_j130_X12_isReading ({ frames := 1, cells := 0, slots := 0, locals := 21 } : Room) [.ref (r 0)] (wM r g I A L) (fun v _ w' => (v = some (.int 0) ∧ w' = wM r g I A L) ∨ (v = some (.int 1) ∧ w' = wM r g I A L)) 0 0 := by
  refine GM.of (cc := cX12_isReading) (maxL := 1) (ret := (some .boolean)) (own := RX12) (lv := [(0, .ref (r 0))]) (by decide) rfl rfl (Nat.le_of_ble_eq_true rfl) rfl (fun κ sz hk hR hN => ?_)
  refine g_aload_n hk dX12_isReading_0 rfl ?_
  refine g_bipush (v := 9) hk dX12_isReading_1 (by decide) ?_
  have k4689 : (9 : Int32).toInt = 9 := rfl
  refine g_callV (n := 1) hk (j125_X12_is l D zt r g I A L 9 hIv) (SP.same _) (fun _ h => h) (gi_V (List.mem_cons_of_mem _ (List.mem_append_left _ (List.mem_of_getElem? (i := 0) rfl))) (List.mem_cons_of_mem _ (List.mem_append_left _ (List.mem_of_getElem? (i := 1) rfl))) (List.mem_cons_of_mem _ (List.mem_append_left _ (List.mem_of_getElem? (i := 2) rfl))) (List.mem_cons_of_mem _ (List.mem_append_left _ (List.mem_of_getElem? (i := 3) rfl))) (gi_sub (fun w h => (List.mem_cons_of_mem _ (List.mem_append_right _ (List.mem_append_left _ h)))) zg_j125_X12_is)) rfl rfl rfl (by decide +kernel) ⟨Nat.le_of_ble_eq_true rfl, Nat.le_of_ble_eq_true rfl⟩ 0 rfl rfl rfl rfl (Nat.le_of_ble_eq_true rfl) ⟨Nat.le_of_ble_eq_true rfl, Nat.le_of_ble_eq_true rfl⟩ dX12_isReading_3 (fun v ty' w' hp hk' => ?_)
  rcases hp with ⟨c4690, rfl, rfl⟩ | ⟨c4692, rfl, rfl⟩
  · skip
    have f4694 := IvM_f6 hIv
    show GW κ 1 0 0 (wM r g I A L) 6 [(0, .ref (r 0))] [.int 0]
    refine g_if_ne (tgt := 17) (a := 0) hk dX12_isReading_6 (by decide) rfl (fun z9 => absurd z9 (show ¬ ((0 : Int) ≠ (0 : Int)) from by decide)) (fun _ => ?_)
    refine g_aload_n hk dX12_isReading_9 rfl ?_
    refine g_iconst (v := 2) hk dX12_isReading_10 (by decide) ?_
    have k4695 : (2 : Int32).toInt = 2 := rfl
    refine g_callV (n := 1) hk (j125_X12_is l D zt r g I A L 2 hIv) (SP.same _) (fun _ h => h) (gi_V (List.mem_cons_of_mem _ (List.mem_append_left _ (List.mem_of_getElem? (i := 0) rfl))) (List.mem_cons_of_mem _ (List.mem_append_left _ (List.mem_of_getElem? (i := 1) rfl))) (List.mem_cons_of_mem _ (List.mem_append_left _ (List.mem_of_getElem? (i := 2) rfl))) (List.mem_cons_of_mem _ (List.mem_append_left _ (List.mem_of_getElem? (i := 3) rfl))) (gi_sub (fun w h => (List.mem_cons_of_mem _ (List.mem_append_right _ (List.mem_append_left _ h)))) zg_j125_X12_is)) rfl rfl rfl (by decide +kernel) ⟨Nat.le_of_ble_eq_true rfl, Nat.le_of_ble_eq_true rfl⟩ 0 rfl rfl rfl rfl (Nat.le_of_ble_eq_true rfl) ⟨Nat.le_of_ble_eq_true rfl, Nat.le_of_ble_eq_true rfl⟩ dX12_isReading_11 (fun v ty' w' hp hk' => ?_)
    rcases hp with ⟨c4696, rfl, rfl⟩ | ⟨c4698, rfl, rfl⟩
    · skip
      show GW κ 1 0 0 (wM r g I A L) 14 [(0, .ref (r 0))] [.int 0]
      refine g_if_eq (tgt := 21) (a := 0) hk dX12_isReading_14 (by decide) rfl (fun _ => ?_) (fun z9 => absurd (show (0 : Int) = (0 : Int) from by decide) z9)
      refine g_iconst (v := 0) hk dX12_isReading_21 (by decide) ?_
      exact g_iret hk hR rfl (Or.inl ⟨rfl, rfl⟩) dX12_isReading_22
    · skip
      show GW κ 1 0 0 (wM r g I A L) 14 [(0, .ref (r 0))] [.int 1]
      refine g_if_eq (tgt := 21) (a := 1) hk dX12_isReading_14 (by decide) rfl (fun z9 => absurd z9 (show ¬ ((1 : Int) = (0 : Int)) from by decide)) (fun _ => ?_)
      refine g_iconst (v := 1) hk dX12_isReading_17 (by decide) ?_
      refine g_goto (tgt := 22) hk dX12_isReading_18 (by decide) ?_
      exact g_iret hk hR rfl (Or.inr (⟨rfl, rfl⟩)) dX12_isReading_22
  · skip
    have f4700 := IvM_f6 hIv
    show GW κ 1 0 0 (wM r g I A L) 6 [(0, .ref (r 0))] [.int 1]
    refine g_if_ne (tgt := 17) (a := 1) hk dX12_isReading_6 (by decide) rfl (fun _ => ?_) (fun z9 => absurd (show (1 : Int) ≠ (0 : Int) from by decide) z9)
    refine g_iconst (v := 1) hk dX12_isReading_17 (by decide) ?_
    refine g_goto (tgt := 22) hk dX12_isReading_18 (by decide) ?_
    exact g_iret hk hR rfl (Or.inr (⟨rfl, rfl⟩)) dX12_isReading_22
def wo_j131_X12_must : List Cond := [Cond.methodLink RX12 188 yX12_is, Cond.instanceMethod yX12_is, Cond.selects RX12 yX12_is yX12_is, Cond.initialized RX12, Cond.methodLink RX12 185 yX12_fail, Cond.instanceMethod yX12_fail, Cond.selects RX12 yX12_fail yX12_fail, Cond.methodLink RX12 191 yX12_goesOn, Cond.instanceMethod yX12_goesOn, Cond.selects RX12 yX12_goesOn yX12_goesOn]
def wz_j131_X12_must : List Cond := .code yX12_must cX12_must 2 none :: (wo_j131_X12_must ++ (wz_j125_X12_is ++ (wz_j128_X12_fail ++ (wz_j127_X12_goesOn ++ ([] : List Cond)))))
theorem zg_j131_X12_must : ∀ w ∈ wz_j131_X12_must, goodWord w = true := zg_cons rfl (zg_app (by decide +kernel) (zg_app zg_j125_X12_is (zg_app zg_j128_X12_fail (zg_app zg_j127_X12_goesOn zg_nil))))
theorem zi_j131_X12_must : ∀ w ∈ wz_j131_X12_must, w ∈ lw_tbl := zi_cons zw_1623 (zi_app (zi_cons zw_1583 (zi_cons zw_1585 (zi_cons zw_52 (zi_cons zw_115 (zi_cons zw_1595 (zi_cons zw_1597 (zi_cons zw_55 (zi_cons zw_1591 (zi_cons zw_1593 (zi_cons zw_54 zi_nil)))))))))) (zi_app zi_j125_X12_is (zi_app zi_j128_X12_fail (zi_app zi_j127_X12_goesOn zi_nil))))
set_option maxHeartbeats 4000000 in
set_option maxRecDepth 100000 in
theorem j131_X12_must (l : Launch) (D : va_G) (zt : Nat × Nat × Nat × (Nat → Nat) × (Nat → Nat)) (r : Nat → Nat) (g : Nat → ClassId) (I : Nat → Int32) (A : Nat → Nat → Int32) (L : Nat → Nat → Int64) (z1 : Int32) (hIv : IvM I A) : GM l D zt (tyM g) yX12_must wz_j131_X12_must ({ frames := 2, cells := 0, slots := 0, locals := 41 } : Room) [.ref (r 0), .int z1] (wM r g I A L) (fun v _ w' => ∃ (I' : Nat → Int32) (A' : Nat → Nat → Int32) (L' : Nat → Nat → Int64), Md [4, 6, 7, 12] I I' ∧ Md [] A A' ∧ IvM I' A' ∧ ((I 4).toInt ≤ (I' 4).toInt) ∧ ((I 6).toInt ≤ (I' 6).toInt) ∧ ((I 8).toInt ≤ 9 * (I' 8).toInt) ∧ ((I 4).toInt < (I' 4).toInt + (I' 6).toInt) ∧ (Fc (0 < (I' 6).toInt ∨ ((I 6).toInt = 0 ∧ (A 2 (I 4).toNatClampNeg).toInt = z1.toInt))) ∧ v = none ∧ w' = wM r g I' A' L') 0 0 := by
  refine GM.of (cc := cX12_must) (maxL := 2) (ret := none) (own := RX12) (lv := [(0, .ref (r 0)), (1, .int z1)]) (by decide) rfl rfl (Nat.le_of_ble_eq_true rfl) rfl (fun κ sz hk hR hN => ?_)
  refine g_aload_n hk dX12_must_0 rfl ?_
  refine g_iload_n hk dX12_must_1 rfl ?_
  refine g_callV (n := 1) hk (j125_X12_is l D zt r g I A L z1 hIv) (SP.same _) (fun _ h => h) (gi_V (List.mem_cons_of_mem _ (List.mem_append_left _ (List.mem_of_getElem? (i := 0) rfl))) (List.mem_cons_of_mem _ (List.mem_append_left _ (List.mem_of_getElem? (i := 1) rfl))) (List.mem_cons_of_mem _ (List.mem_append_left _ (List.mem_of_getElem? (i := 2) rfl))) (List.mem_cons_of_mem _ (List.mem_append_left _ (List.mem_of_getElem? (i := 3) rfl))) (gi_sub (fun w h => (List.mem_cons_of_mem _ (List.mem_append_right _ (List.mem_append_left _ h)))) zg_j125_X12_is)) rfl rfl rfl (by decide +kernel) ⟨Nat.le_of_ble_eq_true rfl, Nat.le_of_ble_eq_true rfl⟩ 0 rfl rfl rfl rfl (Nat.le_of_ble_eq_true rfl) ⟨Nat.le_of_ble_eq_true rfl, Nat.le_of_ble_eq_true rfl⟩ dX12_must_2 (fun v ty' w' hp hk' => ?_)
  rcases hp with ⟨c4709, rfl, rfl⟩ | ⟨c4711, rfl, rfl⟩
  · skip
    have f4713 := IvM_f6 hIv
    have b4714l := Int32.le_toInt z1
    have b4714h := Int32.toInt_lt z1
    show GW κ 2 0 0 (wM r g I A L) 5 [(0, .ref (r 0)), (1, .int z1)] [.int 0]
    refine g_if_eq (tgt := 15) (a := 0) hk dX12_must_5 (by decide) rfl (fun _ => ?_) (fun z9 => absurd (show (0 : Int) = (0 : Int) from by decide) z9)
    refine g_aload_n hk dX12_must_15 rfl ?_
    refine g_iconst (v := 1) hk dX12_must_16 (by decide) ?_
    have k4715 : (1 : Int32).toInt = 1 := rfl
    refine g_callV (n := 1) hk (j128_X12_fail l D zt r g I A L 1 hIv (by decide) (by decide)) (SP.same _) (fun _ h => h) (gi_V (List.mem_cons_of_mem _ (List.mem_append_left _ (List.mem_of_getElem? (i := 4) rfl))) (List.mem_cons_of_mem _ (List.mem_append_left _ (List.mem_of_getElem? (i := 5) rfl))) (List.mem_cons_of_mem _ (List.mem_append_left _ (List.mem_of_getElem? (i := 6) rfl))) (List.mem_cons_of_mem _ (List.mem_append_left _ (List.mem_of_getElem? (i := 3) rfl))) (gi_sub (fun w h => (List.mem_cons_of_mem _ (List.mem_append_right _ (List.mem_append_right _ (List.mem_append_left _ h))))) zg_j128_X12_fail)) rfl rfl rfl (by decide +kernel) ⟨Nat.le_of_ble_eq_true rfl, Nat.le_of_ble_eq_true rfl⟩ 0 rfl rfl rfl rfl (Nat.le_of_ble_eq_true rfl) ⟨Nat.le_of_ble_eq_true rfl, Nat.le_of_ble_eq_true rfl⟩ dX12_must_17 (fun v ty' w' hp hk' => ?_)
    obtain ⟨I4717, A4717, L4717, hI4717, hA4717, hV4717, r4718, r4719, r4720, rfl, rfl⟩ := hp
    have f4721 := IvM_f6 hV4717
    have f4722 := IvM_f8 hIv
    rw [show (I4717 8) = (I 8) from (hI4717 8 rfl)] at r4719
    show GW κ 2 0 0 (wM r g I4717 A4717 L4717) 20 [(0, .ref (r 0)), (1, .int z1)] []
    have f4723 := IvM_f4 hIv
    exact g_vret hk hR ⟨I4717, A4717, L4717, (show Md [4, 6, 7, 12] I I4717 from (Md.tr Md.rf hI4717 rfl)), (show Md [] A A4717 from (Md.tr Md.rf hA4717 rfl)), hV4717, (by rw [show (I4717 4) = (I 4) from (hI4717 4 rfl)] <;> omega), (by omega), (by rw [show (I4717 8) = (I 8) from (hI4717 8 rfl)] <;> omega), (by rw [show (I4717 4) = (I 4) from (hI4717 4 rfl)] <;> omega), (by have u0 : (I 6).toInt ≠ 0 ∨ (A 2 (I 4).toNatClampNeg).toInt ≠ z1.toInt := c4709; refine fc ?_; omega), rfl, rfl⟩ dX12_must_20
  · skip
    have f4724 := IvM_f6 hIv
    have b4725l := Int32.le_toInt z1
    have b4725h := Int32.toInt_lt z1
    show GW κ 2 0 0 (wM r g I A L) 5 [(0, .ref (r 0)), (1, .int z1)] [.int 1]
    refine g_if_eq (tgt := 15) (a := 1) hk dX12_must_5 (by decide) rfl (fun z9 => absurd z9 (show ¬ ((1 : Int) = (0 : Int)) from by decide)) (fun _ => ?_)
    refine g_aload_n hk dX12_must_8 rfl ?_
    refine g_callV (n := 0) hk (j127_X12_goesOn l D zt r g I A L  hIv) (SP.same _) (fun _ h => h) (gi_V (List.mem_cons_of_mem _ (List.mem_append_left _ (List.mem_of_getElem? (i := 7) rfl))) (List.mem_cons_of_mem _ (List.mem_append_left _ (List.mem_of_getElem? (i := 8) rfl))) (List.mem_cons_of_mem _ (List.mem_append_left _ (List.mem_of_getElem? (i := 9) rfl))) (List.mem_cons_of_mem _ (List.mem_append_left _ (List.mem_of_getElem? (i := 3) rfl))) (gi_sub (fun w h => (List.mem_cons_of_mem _ (List.mem_append_right _ (List.mem_append_right _ (List.mem_append_right _ (List.mem_append_left _ h)))))) zg_j127_X12_goesOn)) rfl rfl rfl (by decide +kernel) ⟨Nat.le_of_ble_eq_true rfl, Nat.le_of_ble_eq_true rfl⟩ 0 rfl rfl rfl rfl (Nat.le_of_ble_eq_true rfl) ⟨Nat.le_of_ble_eq_true rfl, Nat.le_of_ble_eq_true rfl⟩ dX12_must_9 (fun v ty' w' hp hk' => ?_)
    obtain ⟨I4727, A4727, L4727, hI4727, hA4727, hV4727, r4728, r4729, r4730, r4731, rfl, rfl⟩ := hp
    have f4732 := IvM_f4 hIv
    have f4733 := IvM_f4 hV4727
    have f4734 := IvM_f6 hV4727
    have f4735 := IvM_f8 hIv
    rw [show (I4727 8) = (I 8) from (hI4727 8 rfl)] at r4730
    show GW κ 2 0 0 (wM r g I4727 A4727 L4727) 12 [(0, .ref (r 0)), (1, .int z1)] []
    refine g_goto (tgt := 20) hk dX12_must_12 (by decide) ?_
    exact g_vret hk hR ⟨I4727, A4727, L4727, (show Md [4, 6, 7, 12] I I4727 from (Md.tr Md.rf hI4727 rfl)), (show Md [] A A4727 from (Md.tr Md.rf hA4727 rfl)), hV4727, (by omega), (by omega), (by rw [show (I4727 8) = (I 8) from (hI4727 8 rfl)] <;> omega), (by omega), (by refine fc ?_; omega), rfl, rfl⟩ dX12_must_20
def wo_j134_X12_wrong : List Cond := [Cond.fieldLink RX12 24 "WarpDeskModel" "tPlace" "[I", Cond.fieldLink RX12 161 "WarpDeskModel" "fault" "I", Cond.fieldLink RX12 176 "WarpDeskModel" "worst" "I", Cond.fieldLink RX12 179 "WarpDeskModel" "worstPlace" "I", Cond.fieldLink RX12 170 "WarpDeskModel" "here" "I", Cond.fieldLink RX12 182 "WarpDeskModel" "worstCause" "I"]
def wz_j134_X12_wrong : List Cond := .code yX12_wrong cX12_wrong 4 none :: (wo_j134_X12_wrong ++ (wsX120 ++ ([] : List Cond)))
theorem zg_j134_X12_wrong : ∀ w ∈ wz_j134_X12_wrong, goodWord w = true := zg_cons rfl (zg_app (by decide +kernel) (zg_app zgU_wsX120 zg_nil))
theorem zi_j134_X12_wrong : ∀ w ∈ wz_j134_X12_wrong, w ∈ lw_tbl := zi_cons zw_1619 (zi_app (zi_cons zw_1385 (zi_cons zw_1391 (zi_cons zw_1393 (zi_cons zw_1394 (zi_cons zw_1396 (zi_cons zw_1398 zi_nil)))))) (zi_app inX12 zi_nil))
set_option maxHeartbeats 4000000 in
set_option maxRecDepth 100000 in
theorem j134_X12_wrong (l : Launch) (D : va_G) (zt : Nat × Nat × Nat × (Nat → Nat) × (Nat → Nat)) (r : Nat → Nat) (g : Nat → ClassId) (I : Nat → Int32) (A : Nat → Nat → Int32) (L : Nat → Nat → Int64) (z1 : Int32) (z2 : Int32) (hIv : IvM I A) (hp0 : 1 ≤ z1.toInt) (hp1 : z1.toInt ≤ 9) (hp2 : 0 ≤ z2.toInt) (hp3 : z2.toInt ≤ 400) : GM l D zt (tyM g) yX12_wrong wz_j134_X12_wrong ({ frames := 0, cells := 0, slots := 0, locals := 0 } : Room) [.ref (r 0), .int z1, .int z2] (wM r g I A L) (fun v _ w' => ∃ (I' : Nat → Int32) (A' : Nat → Nat → Int32) (L' : Nat → Nat → Int64), Md [8, 9, 13] I I' ∧ Md [] A A' ∧ IvM I' A' ∧ ((I 6).toInt ≤ (I' 6).toInt) ∧ ((I 8).toInt ≤ 9 * (I' 8).toInt) ∧ (1 ≤ (I' 6).toInt + (I' 8).toInt) ∧ v = none ∧ w' = wM r g I' A' L') 0 0 := by
  refine GM.of (cc := cX12_wrong) (maxL := 4) (ret := none) (own := RX12) (lv := [(0, .ref (r 0)), (1, .int z1), (2, .int z2)]) (by decide) rfl rfl (Nat.le_of_ble_eq_true rfl) rfl (fun κ sz hk hR hN => ?_)
  have hin12 : ∀ w ∈ u_ws RX12 TX12 55, w ∈ wz_j134_X12_wrong := fun w h => (List.mem_cons_of_mem _ (List.mem_append_right _ (List.mem_append_left _ h)))
  refine g_aload_n hk dX12_wrong_0 rfl ?_
  refine gM_r0_6 hk hin12 (List.mem_cons_of_mem _ (List.mem_append_left _ (List.mem_of_getElem? (i := 0) rfl))) dX12_wrong_1 ?_
  refine g_iload_n hk dX12_wrong_4 rfl ?_
  refine lM_3 (v := (A 3 z2.toNatClampNeg)) hk (vp_in_iff.mpr ⟨by omega, by omega⟩) rfl dX12_wrong_5 ?_
  refine g_istore_n (lv' := [(3, .int (A 3 z2.toNatClampNeg)), (0, .ref (r 0)), (1, .int z1), (2, .int z2)]) hk dX12_wrong_6 (by decide) rfl ?_
  refine g_aload_n hk dX12_wrong_7 rfl ?_
  refine gM_i6 (v := (I 6)) hk hin12 (List.mem_cons_of_mem _ (List.mem_append_left _ (List.mem_of_getElem? (i := 1) rfl))) dX12_wrong_8 rfl ?_
  have f4799 := IvM_f6 hIv
  refine g_if_gt (tgt := 45) (a := (I 6).toInt) hk dX12_wrong_11 (by decide) rfl (fun c4800 => ?_) (fun c4800 => ?_)
  · skip
    have f4801 := IvM_f8 hIv
    exact g_vret hk hR ⟨I, A, L, (show Md [8, 9, 13] I I from Md.rf), (show Md [] A A from Md.rf), hIv, (by omega), (by omega), (by omega), rfl, rfl⟩ dX12_wrong_45
  · skip
    refine g_aload_n hk dX12_wrong_14 rfl ?_
    refine gM_i8 (v := (I 8)) hk hin12 (List.mem_cons_of_mem _ (List.mem_append_left _ (List.mem_of_getElem? (i := 2) rfl))) dX12_wrong_15 rfl ?_
    have f4802 := IvM_f8 hIv
    refine g_if_eq (tgt := 46) (a := (I 8).toInt) hk dX12_wrong_18 (by decide) rfl (fun c4803 => ?_) (fun c4803 => ?_)
    · skip
      refine g_aload_n hk dX12_wrong_46 rfl ?_
      refine g_iload_n hk dX12_wrong_47 rfl ?_
      refine pM_i8 hk hin12 (List.mem_cons_of_mem _ (List.mem_append_left _ (List.mem_of_getElem? (i := 2) rfl))) dX12_wrong_48 ?_
      refine g_aload_n hk dX12_wrong_51 rfl ?_
      refine g_iload_n hk dX12_wrong_52 rfl ?_
      refine pM_i9 hk hin12 (List.mem_cons_of_mem _ (List.mem_append_left _ (List.mem_of_getElem? (i := 3) rfl))) dX12_wrong_53 ?_
      refine g_aload_n hk dX12_wrong_56 rfl ?_
      refine g_aload_n hk dX12_wrong_57 rfl ?_
      refine gM_i11 (v := (I 11)) hk hin12 (List.mem_cons_of_mem _ (List.mem_append_left _ (List.mem_of_getElem? (i := 4) rfl))) dX12_wrong_58 rfl ?_
      refine pM_i13 hk hin12 (List.mem_cons_of_mem _ (List.mem_append_left _ (List.mem_of_getElem? (i := 5) rfl))) dX12_wrong_61 ?_
      exact g_vret hk hR ⟨(upd (upd (upd I 8 z1) 9 (A 3 z2.toNatClampNeg)) 13 (I 11)), A, L, (show Md [8, 9, 13] I (upd (upd (upd I 8 z1) 9 (A 3 z2.toNatClampNeg)) 13 (I 11)) from (Md.up (Md.up (Md.up Md.rf rfl) rfl) rfl)), (show Md [] A A from Md.rf), ⟨(IvM_f1 (I := I) (A := A) hIv), (IvM_f2 (I := I) (A := A) hIv), (IvM_f3 (I := I) (A := A) hIv), (IvM_f4 (I := I) (A := A) hIv), (IvM_f6 (I := I) (A := A) hIv), (show 0 ≤ z1.toInt ∧ z1.toInt ≤ 9 from ⟨by omega, by omega⟩), (IvM_f15 (I := I) (A := A) hIv), (IvM_f16 (I := I) (A := A) hIv), (IvM_f17 (I := I) (A := A) hIv), (IvM_f18 (I := I) (A := A) hIv), (IvM_f22 (I := I) (A := A) hIv), (IvM_f23 (I := I) (A := A) hIv), (IvM_f24 (I := I) (A := A) hIv), (IvM_a11 (I := I) (A := A) hIv), (IvM_a26 (I := I) (A := A) hIv), (IvM_s8_0 (I := I) (A := A) hIv), (IvM_s8_1 (I := I) (A := A) hIv), (IvM_s10_0 (I := I) (A := A) hIv), (IvM_s10_1 (I := I) (A := A) hIv), (IvM_s17_0 (I := I) (A := A) hIv), (IvM_s17_164 (I := I) (A := A) hIv), (IvM_lv (I := I) (A := A) hIv), (Or.inr (Or.inl (show z1.toInt ≠ 0 from by omega))), (IvM_nq (I := I) (A := A) hIv), (IvM_hr (I := I) (A := A) hIv), (IvM_hh (I := I) (A := A) hIv), trivial⟩, (by rw [show ((upd (upd (upd I 8 z1) 9 (A 3 z2.toNatClampNeg)) 13 (I 11)) 6) = (I 6) from rfl] <;> omega), (by rw [show ((upd (upd (upd I 8 z1) 9 (A 3 z2.toNatClampNeg)) 13 (I 11)) 8) = z1 from rfl] <;> omega), (by rw [show ((upd (upd (upd I 8 z1) 9 (A 3 z2.toNatClampNeg)) 13 (I 11)) 6) = (I 6) from rfl, show ((upd (upd (upd I 8 z1) 9 (A 3 z2.toNatClampNeg)) 13 (I 11)) 8) = z1 from rfl] <;> omega), rfl, rfl⟩ dX12_wrong_64
    · skip
      refine g_iload_n hk dX12_wrong_21 rfl ?_
      refine g_aload_n hk dX12_wrong_22 rfl ?_
      refine gM_i9 (v := (I 9)) hk hin12 (List.mem_cons_of_mem _ (List.mem_append_left _ (List.mem_of_getElem? (i := 3) rfl))) dX12_wrong_23 rfl ?_
      have b4804l := Int32.le_toInt (A 3 z2.toNatClampNeg)
      have b4804h := Int32.toInt_lt (A 3 z2.toNatClampNeg)
      have b4805l := Int32.le_toInt (I 9)
      have b4805h := Int32.toInt_lt (I 9)
      refine g_icmp_gt (tgt := 45) (a := (A 3 z2.toNatClampNeg).toInt) (b := (I 9).toInt) hk dX12_wrong_26 (by decide) rfl rfl (fun c4806 => ?_) (fun c4806 => ?_)
      · skip
        exact g_vret hk hR ⟨I, A, L, (show Md [8, 9, 13] I I from Md.rf), (show Md [] A A from Md.rf), hIv, (by omega), (by omega), (by omega), rfl, rfl⟩ dX12_wrong_45
      · skip
        refine g_iload_n hk dX12_wrong_29 rfl ?_
        refine g_aload_n hk dX12_wrong_30 rfl ?_
        refine gM_i9 (v := (I 9)) hk hin12 (List.mem_cons_of_mem _ (List.mem_append_left _ (List.mem_of_getElem? (i := 3) rfl))) dX12_wrong_31 rfl ?_
        refine g_icmp_ne (tgt := 46) (a := (A 3 z2.toNatClampNeg).toInt) (b := (I 9).toInt) hk dX12_wrong_34 (by decide) rfl rfl (fun c4807 => ?_) (fun c4807 => ?_)
        · skip
          refine g_aload_n hk dX12_wrong_46 rfl ?_
          refine g_iload_n hk dX12_wrong_47 rfl ?_
          refine pM_i8 hk hin12 (List.mem_cons_of_mem _ (List.mem_append_left _ (List.mem_of_getElem? (i := 2) rfl))) dX12_wrong_48 ?_
          refine g_aload_n hk dX12_wrong_51 rfl ?_
          refine g_iload_n hk dX12_wrong_52 rfl ?_
          refine pM_i9 hk hin12 (List.mem_cons_of_mem _ (List.mem_append_left _ (List.mem_of_getElem? (i := 3) rfl))) dX12_wrong_53 ?_
          refine g_aload_n hk dX12_wrong_56 rfl ?_
          refine g_aload_n hk dX12_wrong_57 rfl ?_
          refine gM_i11 (v := (I 11)) hk hin12 (List.mem_cons_of_mem _ (List.mem_append_left _ (List.mem_of_getElem? (i := 4) rfl))) dX12_wrong_58 rfl ?_
          refine pM_i13 hk hin12 (List.mem_cons_of_mem _ (List.mem_append_left _ (List.mem_of_getElem? (i := 5) rfl))) dX12_wrong_61 ?_
          exact g_vret hk hR ⟨(upd (upd (upd I 8 z1) 9 (A 3 z2.toNatClampNeg)) 13 (I 11)), A, L, (show Md [8, 9, 13] I (upd (upd (upd I 8 z1) 9 (A 3 z2.toNatClampNeg)) 13 (I 11)) from (Md.up (Md.up (Md.up Md.rf rfl) rfl) rfl)), (show Md [] A A from Md.rf), ⟨(IvM_f1 (I := I) (A := A) hIv), (IvM_f2 (I := I) (A := A) hIv), (IvM_f3 (I := I) (A := A) hIv), (IvM_f4 (I := I) (A := A) hIv), (IvM_f6 (I := I) (A := A) hIv), (show 0 ≤ z1.toInt ∧ z1.toInt ≤ 9 from ⟨by omega, by omega⟩), (IvM_f15 (I := I) (A := A) hIv), (IvM_f16 (I := I) (A := A) hIv), (IvM_f17 (I := I) (A := A) hIv), (IvM_f18 (I := I) (A := A) hIv), (IvM_f22 (I := I) (A := A) hIv), (IvM_f23 (I := I) (A := A) hIv), (IvM_f24 (I := I) (A := A) hIv), (IvM_a11 (I := I) (A := A) hIv), (IvM_a26 (I := I) (A := A) hIv), (IvM_s8_0 (I := I) (A := A) hIv), (IvM_s8_1 (I := I) (A := A) hIv), (IvM_s10_0 (I := I) (A := A) hIv), (IvM_s10_1 (I := I) (A := A) hIv), (IvM_s17_0 (I := I) (A := A) hIv), (IvM_s17_164 (I := I) (A := A) hIv), (IvM_lv (I := I) (A := A) hIv), (Or.inr (Or.inl (show z1.toInt ≠ 0 from by omega))), (IvM_nq (I := I) (A := A) hIv), (IvM_hr (I := I) (A := A) hIv), (IvM_hh (I := I) (A := A) hIv), trivial⟩, (by rw [show ((upd (upd (upd I 8 z1) 9 (A 3 z2.toNatClampNeg)) 13 (I 11)) 6) = (I 6) from rfl] <;> omega), (by rw [show ((upd (upd (upd I 8 z1) 9 (A 3 z2.toNatClampNeg)) 13 (I 11)) 8) = z1 from rfl] <;> omega), (by rw [show ((upd (upd (upd I 8 z1) 9 (A 3 z2.toNatClampNeg)) 13 (I 11)) 6) = (I 6) from rfl, show ((upd (upd (upd I 8 z1) 9 (A 3 z2.toNatClampNeg)) 13 (I 11)) 8) = z1 from rfl] <;> omega), rfl, rfl⟩ dX12_wrong_64
        · skip
          refine g_iload_n hk dX12_wrong_37 rfl ?_
          refine g_aload_n hk dX12_wrong_38 rfl ?_
          refine gM_i8 (v := (I 8)) hk hin12 (List.mem_cons_of_mem _ (List.mem_append_left _ (List.mem_of_getElem? (i := 2) rfl))) dX12_wrong_39 rfl ?_
          refine g_icmp_lt (tgt := 46) (a := z1.toInt) (b := (I 8).toInt) hk dX12_wrong_42 (by decide) rfl rfl (fun c4808 => ?_) (fun c4808 => ?_)
          · skip
            refine g_aload_n hk dX12_wrong_46 rfl ?_
            refine g_iload_n hk dX12_wrong_47 rfl ?_
            refine pM_i8 hk hin12 (List.mem_cons_of_mem _ (List.mem_append_left _ (List.mem_of_getElem? (i := 2) rfl))) dX12_wrong_48 ?_
            refine g_aload_n hk dX12_wrong_51 rfl ?_
            refine g_iload_n hk dX12_wrong_52 rfl ?_
            refine pM_i9 hk hin12 (List.mem_cons_of_mem _ (List.mem_append_left _ (List.mem_of_getElem? (i := 3) rfl))) dX12_wrong_53 ?_
            refine g_aload_n hk dX12_wrong_56 rfl ?_
            refine g_aload_n hk dX12_wrong_57 rfl ?_
            refine gM_i11 (v := (I 11)) hk hin12 (List.mem_cons_of_mem _ (List.mem_append_left _ (List.mem_of_getElem? (i := 4) rfl))) dX12_wrong_58 rfl ?_
            refine pM_i13 hk hin12 (List.mem_cons_of_mem _ (List.mem_append_left _ (List.mem_of_getElem? (i := 5) rfl))) dX12_wrong_61 ?_
            exact g_vret hk hR ⟨(upd (upd (upd I 8 z1) 9 (A 3 z2.toNatClampNeg)) 13 (I 11)), A, L, (show Md [8, 9, 13] I (upd (upd (upd I 8 z1) 9 (A 3 z2.toNatClampNeg)) 13 (I 11)) from (Md.up (Md.up (Md.up Md.rf rfl) rfl) rfl)), (show Md [] A A from Md.rf), ⟨(IvM_f1 (I := I) (A := A) hIv), (IvM_f2 (I := I) (A := A) hIv), (IvM_f3 (I := I) (A := A) hIv), (IvM_f4 (I := I) (A := A) hIv), (IvM_f6 (I := I) (A := A) hIv), (show 0 ≤ z1.toInt ∧ z1.toInt ≤ 9 from ⟨by omega, by omega⟩), (IvM_f15 (I := I) (A := A) hIv), (IvM_f16 (I := I) (A := A) hIv), (IvM_f17 (I := I) (A := A) hIv), (IvM_f18 (I := I) (A := A) hIv), (IvM_f22 (I := I) (A := A) hIv), (IvM_f23 (I := I) (A := A) hIv), (IvM_f24 (I := I) (A := A) hIv), (IvM_a11 (I := I) (A := A) hIv), (IvM_a26 (I := I) (A := A) hIv), (IvM_s8_0 (I := I) (A := A) hIv), (IvM_s8_1 (I := I) (A := A) hIv), (IvM_s10_0 (I := I) (A := A) hIv), (IvM_s10_1 (I := I) (A := A) hIv), (IvM_s17_0 (I := I) (A := A) hIv), (IvM_s17_164 (I := I) (A := A) hIv), (IvM_lv (I := I) (A := A) hIv), (Or.inr (Or.inl (show z1.toInt ≠ 0 from by omega))), (IvM_nq (I := I) (A := A) hIv), (IvM_hr (I := I) (A := A) hIv), (IvM_hh (I := I) (A := A) hIv), trivial⟩, (by rw [show ((upd (upd (upd I 8 z1) 9 (A 3 z2.toNatClampNeg)) 13 (I 11)) 6) = (I 6) from rfl] <;> omega), (by rw [show ((upd (upd (upd I 8 z1) 9 (A 3 z2.toNatClampNeg)) 13 (I 11)) 8) = z1 from rfl] <;> omega), (by rw [show ((upd (upd (upd I 8 z1) 9 (A 3 z2.toNatClampNeg)) 13 (I 11)) 6) = (I 6) from rfl, show ((upd (upd (upd I 8 z1) 9 (A 3 z2.toNatClampNeg)) 13 (I 11)) 8) = z1 from rfl] <;> omega), rfl, rfl⟩ dX12_wrong_64
          · skip
            exact g_vret hk hR ⟨I, A, L, (show Md [8, 9, 13] I I from Md.rf), (show Md [] A A from Md.rf), hIv, (by omega), (by omega), (by omega), rfl, rfl⟩ dX12_wrong_45
def wo_j133_X12_bounded : List Cond := [Cond.fieldLink RX12 161 "WarpDeskModel" "fault" "I", Cond.methodLink RX12 185 yX12_fail, Cond.instanceMethod yX12_fail, Cond.selects RX12 yX12_fail yX12_fail, Cond.initialized RX12, Cond.methodLink RX12 188 yX12_is, Cond.instanceMethod yX12_is, Cond.selects RX12 yX12_is yX12_is, Cond.fieldLink RX12 27 "WarpDeskModel" "tValue" "[I", Cond.fieldLink RX12 164 "WarpDeskModel" "t" "I", Cond.methodLink RX12 231 yX12_wrong, Cond.instanceMethod yX12_wrong, Cond.selects RX12 yX12_wrong yX12_wrong, Cond.methodLink RX12 191 yX12_goesOn, Cond.instanceMethod yX12_goesOn, Cond.selects RX12 yX12_goesOn yX12_goesOn]
def wz_j133_X12_bounded : List Cond := .code yX12_bounded cX12_bounded 4 (some .int) :: (wo_j133_X12_bounded ++ (wsX120 ++ (wz_j128_X12_fail ++ (wz_j125_X12_is ++ (wz_j134_X12_wrong ++ (wz_j127_X12_goesOn ++ ([] : List Cond)))))))
theorem zg_j133_X12_bounded : ∀ w ∈ wz_j133_X12_bounded, goodWord w = true := zg_cons rfl (zg_app (by decide +kernel) (zg_app zgU_wsX120 (zg_app zg_j128_X12_fail (zg_app zg_j125_X12_is (zg_app zg_j134_X12_wrong (zg_app zg_j127_X12_goesOn zg_nil))))))
theorem zi_j133_X12_bounded : ∀ w ∈ wz_j133_X12_bounded, w ∈ lw_tbl := zi_cons zw_1615 (zi_app (zi_cons zw_1391 (zi_cons zw_1595 (zi_cons zw_1597 (zi_cons zw_55 (zi_cons zw_115 (zi_cons zw_1583 (zi_cons zw_1585 (zi_cons zw_52 (zi_cons zw_1386 (zi_cons zw_1390 (zi_cons zw_1616 (zi_cons zw_1618 (zi_cons zw_60 (zi_cons zw_1591 (zi_cons zw_1593 (zi_cons zw_54 zi_nil)))))))))))))))) (zi_app inX12 (zi_app zi_j128_X12_fail (zi_app zi_j125_X12_is (zi_app zi_j134_X12_wrong (zi_app zi_j127_X12_goesOn zi_nil))))))
set_option maxHeartbeats 4000000 in
set_option maxRecDepth 100000 in
theorem j133_X12_bounded (l : Launch) (D : va_G) (zt : Nat × Nat × Nat × (Nat → Nat) × (Nat → Nat)) (r : Nat → Nat) (g : Nat → ClassId) (I : Nat → Int32) (A : Nat → Nat → Int32) (L : Nat → Nat → Int64) (z1 : Int32) (z2 : Int32) (hIv : IvM I A) : GM l D zt (tyM g) yX12_bounded wz_j133_X12_bounded ({ frames := 2, cells := 0, slots := 0, locals := 41 } : Room) [.ref (r 0), .int z1, .int z2] (wM r g I A L) (fun v _ w' => ∃ (I' : Nat → Int32) (A' : Nat → Nat → Int32) (L' : Nat → Nat → Int64), Md [4, 6, 7, 8, 9, 12, 13] I I' ∧ Md [] A A' ∧ IvM I' A' ∧ ∃ y0 : Int32, ((I 4).toInt ≤ (I' 4).toInt) ∧ ((I 6).toInt ≤ (I' 6).toInt) ∧ ((I 8).toInt ≤ 9 * (I' 8).toInt) ∧ ((I 4).toInt < (I' 4).toInt + (I' 6).toInt) ∧ (z1.toInt ≤ y0.toInt + 8589934592 * ((I' 6).toInt + (I' 8).toInt)) ∧ v = some (.int y0) ∧ w' = wM r g I' A' L') 0 0 := by
  refine GM.of (cc := cX12_bounded) (maxL := 4) (ret := (some .int)) (own := RX12) (lv := [(0, .ref (r 0)), (1, .int z1), (2, .int z2)]) (by decide) rfl rfl (Nat.le_of_ble_eq_true rfl) rfl (fun κ sz hk hR hN => ?_)
  have hin12 : ∀ w ∈ u_ws RX12 TX12 55, w ∈ wz_j133_X12_bounded := fun w h => (List.mem_cons_of_mem _ (List.mem_append_right _ (List.mem_append_left _ h)))
  refine g_aload_n hk dX12_bounded_0 rfl ?_
  refine gM_i6 (v := (I 6)) hk hin12 (List.mem_cons_of_mem _ (List.mem_append_left _ (List.mem_of_getElem? (i := 0) rfl))) dX12_bounded_1 rfl ?_
  have f4768 := IvM_f6 hIv
  refine g_if_gt (tgt := 15) (a := (I 6).toInt) hk dX12_bounded_4 (by decide) rfl (fun c4769 => ?_) (fun c4769 => ?_)
  · skip
    refine g_aload_n hk dX12_bounded_15 rfl ?_
    refine g_iconst (v := 1) hk dX12_bounded_16 (by decide) ?_
    have k4770 : (1 : Int32).toInt = 1 := rfl
    refine g_callV (n := 1) hk (j128_X12_fail l D zt r g I A L 1 hIv (by decide) (by decide)) (SP.same _) (fun _ h => h) (gi_V (List.mem_cons_of_mem _ (List.mem_append_left _ (List.mem_of_getElem? (i := 1) rfl))) (List.mem_cons_of_mem _ (List.mem_append_left _ (List.mem_of_getElem? (i := 2) rfl))) (List.mem_cons_of_mem _ (List.mem_append_left _ (List.mem_of_getElem? (i := 3) rfl))) (List.mem_cons_of_mem _ (List.mem_append_left _ (List.mem_of_getElem? (i := 4) rfl))) (gi_sub (fun w h => (List.mem_cons_of_mem _ (List.mem_append_right _ (List.mem_append_right _ (List.mem_append_left _ h))))) zg_j128_X12_fail)) rfl rfl rfl (by decide +kernel) ⟨Nat.le_of_ble_eq_true rfl, Nat.le_of_ble_eq_true rfl⟩ 0 rfl rfl rfl rfl (Nat.le_of_ble_eq_true rfl) ⟨Nat.le_of_ble_eq_true rfl, Nat.le_of_ble_eq_true rfl⟩ dX12_bounded_17 (fun v ty' w' hp hk' => ?_)
    obtain ⟨I4772, A4772, L4772, hI4772, hA4772, hV4772, r4773, r4774, r4775, rfl, rfl⟩ := hp
    have f4776 := IvM_f6 hV4772
    have f4777 := IvM_f8 hIv
    rw [show (I4772 8) = (I 8) from (hI4772 8 rfl)] at r4774
    show GW κ 4 0 0 (wM r g I4772 A4772 L4772) 20 [(0, .ref (r 0)), (1, .int z1), (2, .int z2)] []
    refine g_iload_n hk dX12_bounded_20 rfl ?_
    have b4778l := Int32.le_toInt z1
    have b4778h := Int32.toInt_lt z1
    have f4779 := IvM_f4 hIv
    exact g_iret hk hR rfl ⟨I4772, A4772, L4772, (show Md [4, 6, 7, 8, 9, 12, 13] I I4772 from (Md.tr Md.rf hI4772 rfl)), (show Md [] A A4772 from (Md.tr Md.rf hA4772 rfl)), hV4772, z1, (by rw [show (I4772 4) = (I 4) from (hI4772 4 rfl)] <;> omega), (by omega), (by rw [show (I4772 8) = (I 8) from (hI4772 8 rfl)] <;> omega), (by rw [show (I4772 4) = (I 4) from (hI4772 4 rfl)] <;> omega), (by rw [show (I4772 8) = (I 8) from (hI4772 8 rfl)] <;> omega), rfl, rfl⟩ dX12_bounded_21
  · skip
    refine g_aload_n hk dX12_bounded_7 rfl ?_
    refine g_iconst (v := 2) hk dX12_bounded_8 (by decide) ?_
    have k4780 : (2 : Int32).toInt = 2 := rfl
    refine g_callV (n := 1) hk (j125_X12_is l D zt r g I A L 2 hIv) (SP.same _) (fun _ h => h) (gi_V (List.mem_cons_of_mem _ (List.mem_append_left _ (List.mem_of_getElem? (i := 5) rfl))) (List.mem_cons_of_mem _ (List.mem_append_left _ (List.mem_of_getElem? (i := 6) rfl))) (List.mem_cons_of_mem _ (List.mem_append_left _ (List.mem_of_getElem? (i := 7) rfl))) (List.mem_cons_of_mem _ (List.mem_append_left _ (List.mem_of_getElem? (i := 4) rfl))) (gi_sub (fun w h => (List.mem_cons_of_mem _ (List.mem_append_right _ (List.mem_append_right _ (List.mem_append_right _ (List.mem_append_left _ h)))))) zg_j125_X12_is)) rfl rfl rfl (by decide +kernel) ⟨Nat.le_of_ble_eq_true rfl, Nat.le_of_ble_eq_true rfl⟩ 0 rfl rfl rfl rfl (Nat.le_of_ble_eq_true rfl) ⟨Nat.le_of_ble_eq_true rfl, Nat.le_of_ble_eq_true rfl⟩ dX12_bounded_9 (fun v ty' w' hp hk' => ?_)
    rcases hp with ⟨c4781, rfl, rfl⟩ | ⟨c4783, rfl, rfl⟩
    · skip
      show GW κ 4 0 0 (wM r g I A L) 12 [(0, .ref (r 0)), (1, .int z1), (2, .int z2)] [.int 0]
      refine g_if_ne (tgt := 22) (a := 0) hk dX12_bounded_12 (by decide) rfl (fun z9 => absurd z9 (show ¬ ((0 : Int) ≠ (0 : Int)) from by decide)) (fun _ => ?_)
      refine g_aload_n hk dX12_bounded_15 rfl ?_
      refine g_iconst (v := 1) hk dX12_bounded_16 (by decide) ?_
      have k4785 : (1 : Int32).toInt = 1 := rfl
      refine g_callV (n := 1) hk (j128_X12_fail l D zt r g I A L 1 hIv (by decide) (by decide)) (SP.same _) (fun _ h => h) (gi_V (List.mem_cons_of_mem _ (List.mem_append_left _ (List.mem_of_getElem? (i := 1) rfl))) (List.mem_cons_of_mem _ (List.mem_append_left _ (List.mem_of_getElem? (i := 2) rfl))) (List.mem_cons_of_mem _ (List.mem_append_left _ (List.mem_of_getElem? (i := 3) rfl))) (List.mem_cons_of_mem _ (List.mem_append_left _ (List.mem_of_getElem? (i := 4) rfl))) (gi_sub (fun w h => (List.mem_cons_of_mem _ (List.mem_append_right _ (List.mem_append_right _ (List.mem_append_left _ h))))) zg_j128_X12_fail)) rfl rfl rfl (by decide +kernel) ⟨Nat.le_of_ble_eq_true rfl, Nat.le_of_ble_eq_true rfl⟩ 0 rfl rfl rfl rfl (Nat.le_of_ble_eq_true rfl) ⟨Nat.le_of_ble_eq_true rfl, Nat.le_of_ble_eq_true rfl⟩ dX12_bounded_17 (fun v ty' w' hp hk' => ?_)
      obtain ⟨I4787, A4787, L4787, hI4787, hA4787, hV4787, r4788, r4789, r4790, rfl, rfl⟩ := hp
      have f4791 := IvM_f6 hV4787
      have f4792 := IvM_f8 hIv
      rw [show (I4787 8) = (I 8) from (hI4787 8 rfl)] at r4789
      show GW κ 4 0 0 (wM r g I4787 A4787 L4787) 20 [(0, .ref (r 0)), (1, .int z1), (2, .int z2)] []
      refine g_iload_n hk dX12_bounded_20 rfl ?_
      have b4793l := Int32.le_toInt z1
      have b4793h := Int32.toInt_lt z1
      have f4794 := IvM_f4 hIv
      exact g_iret hk hR rfl ⟨I4787, A4787, L4787, (show Md [4, 6, 7, 8, 9, 12, 13] I I4787 from (Md.tr Md.rf hI4787 rfl)), (show Md [] A A4787 from (Md.tr Md.rf hA4787 rfl)), hV4787, z1, (by rw [show (I4787 4) = (I 4) from (hI4787 4 rfl)] <;> omega), (by omega), (by rw [show (I4787 8) = (I 8) from (hI4787 8 rfl)] <;> omega), (by rw [show (I4787 4) = (I 4) from (hI4787 4 rfl)] <;> omega), (by rw [show (I4787 8) = (I 8) from (hI4787 8 rfl)] <;> omega), rfl, rfl⟩ dX12_bounded_21
    · skip
      show GW κ 4 0 0 (wM r g I A L) 12 [(0, .ref (r 0)), (1, .int z1), (2, .int z2)] [.int 1]
      refine g_if_ne (tgt := 22) (a := 1) hk dX12_bounded_12 (by decide) rfl (fun _ => ?_) (fun z9 => absurd (show (1 : Int) ≠ (0 : Int) from by decide) z9)
      refine g_aload_n hk dX12_bounded_22 rfl ?_
      refine gM_r0_7 hk hin12 (List.mem_cons_of_mem _ (List.mem_append_left _ (List.mem_of_getElem? (i := 8) rfl))) dX12_bounded_23 ?_
      refine g_aload_n hk dX12_bounded_26 rfl ?_
      refine gM_i4 (v := (I 4)) hk hin12 (List.mem_cons_of_mem _ (List.mem_append_left _ (List.mem_of_getElem? (i := 9) rfl))) dX12_bounded_27 rfl ?_
      have f4795 := IvM_f4 hIv
      refine lM_4 (v := (A 4 (I 4).toNatClampNeg)) hk (vp_in_iff.mpr ⟨by omega, by omega⟩) rfl dX12_bounded_30 ?_
      refine g_istore_n (lv' := [(3, .int (A 4 (I 4).toNatClampNeg)), (0, .ref (r 0)), (1, .int z1), (2, .int z2)]) hk dX12_bounded_31 (by decide) rfl ?_
      refine g_iload_n hk dX12_bounded_32 rfl ?_
      refine g_iload_n hk dX12_bounded_33 rfl ?_
      have b4796l := Int32.le_toInt (A 4 (I 4).toNatClampNeg)
      have b4796h := Int32.toInt_lt (A 4 (I 4).toNatClampNeg)
      have b4797l := Int32.le_toInt z1
      have b4797h := Int32.toInt_lt z1
      refine g_icmp_lt (tgt := 42) (a := (A 4 (I 4).toNatClampNeg).toInt) (b := z1.toInt) hk dX12_bounded_34 (by decide) rfl rfl (fun c4798 => ?_) (fun c4798 => ?_)
      · skip
        refine g_aload_n hk dX12_bounded_42 rfl ?_
        refine g_iconst (v := 5) hk dX12_bounded_43 (by decide) ?_
        refine g_aload_n hk dX12_bounded_44 rfl ?_
        refine gM_i4 (v := (I 4)) hk hin12 (List.mem_cons_of_mem _ (List.mem_append_left _ (List.mem_of_getElem? (i := 9) rfl))) dX12_bounded_45 rfl ?_
        have k4809 : (5 : Int32).toInt = 5 := rfl
        refine g_callV (n := 2) hk (j134_X12_wrong l D zt r g I A L 5 (I 4) hIv (by decide) (by decide) (by omega) (by omega)) (SP.same _) (fun _ h => h) (gi_V (List.mem_cons_of_mem _ (List.mem_append_left _ (List.mem_of_getElem? (i := 10) rfl))) (List.mem_cons_of_mem _ (List.mem_append_left _ (List.mem_of_getElem? (i := 11) rfl))) (List.mem_cons_of_mem _ (List.mem_append_left _ (List.mem_of_getElem? (i := 12) rfl))) (List.mem_cons_of_mem _ (List.mem_append_left _ (List.mem_of_getElem? (i := 4) rfl))) (gi_sub (fun w h => (List.mem_cons_of_mem _ (List.mem_append_right _ (List.mem_append_right _ (List.mem_append_right _ (List.mem_append_right _ (List.mem_append_left _ h))))))) zg_j134_X12_wrong)) rfl rfl rfl (by decide +kernel) ⟨Nat.le_of_ble_eq_true rfl, Nat.le_of_ble_eq_true rfl⟩ 0 rfl rfl rfl rfl (Nat.le_of_ble_eq_true rfl) ⟨Nat.le_of_ble_eq_true rfl, Nat.le_of_ble_eq_true rfl⟩ dX12_bounded_48 (fun v ty' w' hp hk' => ?_)
        obtain ⟨I4811, A4811, L4811, hI4811, hA4811, hV4811, r4812, r4813, r4814, rfl, rfl⟩ := hp
        rw [show (I4811 6) = (I 6) from (hI4811 6 rfl)] at r4812
        have f4815 := IvM_f8 hIv
        have f4816 := IvM_f8 hV4811
        rw [show (I4811 6) = (I 6) from (hI4811 6 rfl)] at r4814
        show GW κ 4 0 0 (wM r g I4811 A4811 L4811) 51 [(3, .int (A 4 (I 4).toNatClampNeg)), (0, .ref (r 0)), (1, .int z1), (2, .int z2)] []
        refine g_aload_n hk dX12_bounded_51 rfl ?_
        refine g_callV (n := 0) hk (j127_X12_goesOn l D zt r g I4811 A4811 L4811  hV4811) (SP.same _) (fun _ h => h) (gi_V (List.mem_cons_of_mem _ (List.mem_append_left _ (List.mem_of_getElem? (i := 13) rfl))) (List.mem_cons_of_mem _ (List.mem_append_left _ (List.mem_of_getElem? (i := 14) rfl))) (List.mem_cons_of_mem _ (List.mem_append_left _ (List.mem_of_getElem? (i := 15) rfl))) (List.mem_cons_of_mem _ (List.mem_append_left _ (List.mem_of_getElem? (i := 4) rfl))) (gi_sub (fun w h => (List.mem_cons_of_mem _ (List.mem_append_right _ (List.mem_append_right _ (List.mem_append_right _ (List.mem_append_right _ (List.mem_append_right _ (List.mem_append_left _ h)))))))) zg_j127_X12_goesOn)) rfl rfl rfl (by decide +kernel) ⟨Nat.le_of_ble_eq_true rfl, Nat.le_of_ble_eq_true rfl⟩ 0 rfl rfl rfl rfl (Nat.le_of_ble_eq_true rfl) ⟨Nat.le_of_ble_eq_true rfl, Nat.le_of_ble_eq_true rfl⟩ dX12_bounded_52 (fun v ty' w' hp hk' => ?_)
        obtain ⟨I4818, A4818, L4818, hI4818, hA4818, hV4818, r4819, r4820, r4821, r4822, rfl, rfl⟩ := hp
        have f4823 := IvM_f4 hV4818
        rw [show (I4811 4) = (I 4) from (hI4811 4 rfl)] at r4819
        have f4824 := IvM_f6 hV4818
        rw [show (I4811 6) = (I 6) from (hI4811 6 rfl)] at r4820
        rw [show (I4818 8) = (I4811 8) from (hI4818 8 rfl)] at r4821
        rw [show (I4811 4) = (I 4) from (hI4811 4 rfl)] at r4822
        show GW κ 4 0 0 (wM r g I4818 A4818 L4818) 55 [(3, .int (A 4 (I 4).toNatClampNeg)), (0, .ref (r 0)), (1, .int z1), (2, .int z2)] []
        refine g_iload_n hk dX12_bounded_55 rfl ?_
        exact g_iret hk hR rfl ⟨I4818, A4818, L4818, (show Md [4, 6, 7, 8, 9, 12, 13] I I4818 from (Md.tr (Md.tr Md.rf hI4811 rfl) hI4818 rfl)), (show Md [] A A4818 from (Md.tr (Md.tr Md.rf hA4811 rfl) hA4818 rfl)), hV4818, (A 4 (I 4).toNatClampNeg), (by omega), (by omega), (by rw [show (I4818 8) = (I4811 8) from (hI4818 8 rfl)] <;> omega), (by omega), (by rw [show (I4818 8) = (I4811 8) from (hI4818 8 rfl)] <;> omega), rfl, rfl⟩ dX12_bounded_56
      · skip
        refine g_iload_n hk dX12_bounded_37 rfl ?_
        refine g_iload_n hk dX12_bounded_38 rfl ?_
        have b4825l := Int32.le_toInt z2
        have b4825h := Int32.toInt_lt z2
        refine g_icmp_le (tgt := 51) (a := (A 4 (I 4).toNatClampNeg).toInt) (b := z2.toInt) hk dX12_bounded_39 (by decide) rfl rfl (fun c4826 => ?_) (fun c4826 => ?_)
        · skip
          refine g_aload_n hk dX12_bounded_51 rfl ?_
          refine g_callV (n := 0) hk (j127_X12_goesOn l D zt r g I A L  hIv) (SP.same _) (fun _ h => h) (gi_V (List.mem_cons_of_mem _ (List.mem_append_left _ (List.mem_of_getElem? (i := 13) rfl))) (List.mem_cons_of_mem _ (List.mem_append_left _ (List.mem_of_getElem? (i := 14) rfl))) (List.mem_cons_of_mem _ (List.mem_append_left _ (List.mem_of_getElem? (i := 15) rfl))) (List.mem_cons_of_mem _ (List.mem_append_left _ (List.mem_of_getElem? (i := 4) rfl))) (gi_sub (fun w h => (List.mem_cons_of_mem _ (List.mem_append_right _ (List.mem_append_right _ (List.mem_append_right _ (List.mem_append_right _ (List.mem_append_right _ (List.mem_append_left _ h)))))))) zg_j127_X12_goesOn)) rfl rfl rfl (by decide +kernel) ⟨Nat.le_of_ble_eq_true rfl, Nat.le_of_ble_eq_true rfl⟩ 0 rfl rfl rfl rfl (Nat.le_of_ble_eq_true rfl) ⟨Nat.le_of_ble_eq_true rfl, Nat.le_of_ble_eq_true rfl⟩ dX12_bounded_52 (fun v ty' w' hp hk' => ?_)
          obtain ⟨I4828, A4828, L4828, hI4828, hA4828, hV4828, r4829, r4830, r4831, r4832, rfl, rfl⟩ := hp
          have f4833 := IvM_f4 hV4828
          have f4834 := IvM_f6 hV4828
          have f4835 := IvM_f8 hIv
          rw [show (I4828 8) = (I 8) from (hI4828 8 rfl)] at r4831
          show GW κ 4 0 0 (wM r g I4828 A4828 L4828) 55 [(3, .int (A 4 (I 4).toNatClampNeg)), (0, .ref (r 0)), (1, .int z1), (2, .int z2)] []
          refine g_iload_n hk dX12_bounded_55 rfl ?_
          exact g_iret hk hR rfl ⟨I4828, A4828, L4828, (show Md [4, 6, 7, 8, 9, 12, 13] I I4828 from (Md.tr Md.rf hI4828 rfl)), (show Md [] A A4828 from (Md.tr Md.rf hA4828 rfl)), hV4828, (A 4 (I 4).toNatClampNeg), (by omega), (by omega), (by rw [show (I4828 8) = (I 8) from (hI4828 8 rfl)] <;> omega), (by omega), (by rw [show (I4828 8) = (I 8) from (hI4828 8 rfl)] <;> omega), rfl, rfl⟩ dX12_bounded_56
        · skip
          refine g_aload_n hk dX12_bounded_42 rfl ?_
          refine g_iconst (v := 5) hk dX12_bounded_43 (by decide) ?_
          refine g_aload_n hk dX12_bounded_44 rfl ?_
          refine gM_i4 (v := (I 4)) hk hin12 (List.mem_cons_of_mem _ (List.mem_append_left _ (List.mem_of_getElem? (i := 9) rfl))) dX12_bounded_45 rfl ?_
          have k4836 : (5 : Int32).toInt = 5 := rfl
          refine g_callV (n := 2) hk (j134_X12_wrong l D zt r g I A L 5 (I 4) hIv (by decide) (by decide) (by omega) (by omega)) (SP.same _) (fun _ h => h) (gi_V (List.mem_cons_of_mem _ (List.mem_append_left _ (List.mem_of_getElem? (i := 10) rfl))) (List.mem_cons_of_mem _ (List.mem_append_left _ (List.mem_of_getElem? (i := 11) rfl))) (List.mem_cons_of_mem _ (List.mem_append_left _ (List.mem_of_getElem? (i := 12) rfl))) (List.mem_cons_of_mem _ (List.mem_append_left _ (List.mem_of_getElem? (i := 4) rfl))) (gi_sub (fun w h => (List.mem_cons_of_mem _ (List.mem_append_right _ (List.mem_append_right _ (List.mem_append_right _ (List.mem_append_right _ (List.mem_append_left _ h))))))) zg_j134_X12_wrong)) rfl rfl rfl (by decide +kernel) ⟨Nat.le_of_ble_eq_true rfl, Nat.le_of_ble_eq_true rfl⟩ 0 rfl rfl rfl rfl (Nat.le_of_ble_eq_true rfl) ⟨Nat.le_of_ble_eq_true rfl, Nat.le_of_ble_eq_true rfl⟩ dX12_bounded_48 (fun v ty' w' hp hk' => ?_)
          obtain ⟨I4838, A4838, L4838, hI4838, hA4838, hV4838, r4839, r4840, r4841, rfl, rfl⟩ := hp
          rw [show (I4838 6) = (I 6) from (hI4838 6 rfl)] at r4839
          have f4842 := IvM_f8 hIv
          have f4843 := IvM_f8 hV4838
          rw [show (I4838 6) = (I 6) from (hI4838 6 rfl)] at r4841
          show GW κ 4 0 0 (wM r g I4838 A4838 L4838) 51 [(3, .int (A 4 (I 4).toNatClampNeg)), (0, .ref (r 0)), (1, .int z1), (2, .int z2)] []
          refine g_aload_n hk dX12_bounded_51 rfl ?_
          refine g_callV (n := 0) hk (j127_X12_goesOn l D zt r g I4838 A4838 L4838  hV4838) (SP.same _) (fun _ h => h) (gi_V (List.mem_cons_of_mem _ (List.mem_append_left _ (List.mem_of_getElem? (i := 13) rfl))) (List.mem_cons_of_mem _ (List.mem_append_left _ (List.mem_of_getElem? (i := 14) rfl))) (List.mem_cons_of_mem _ (List.mem_append_left _ (List.mem_of_getElem? (i := 15) rfl))) (List.mem_cons_of_mem _ (List.mem_append_left _ (List.mem_of_getElem? (i := 4) rfl))) (gi_sub (fun w h => (List.mem_cons_of_mem _ (List.mem_append_right _ (List.mem_append_right _ (List.mem_append_right _ (List.mem_append_right _ (List.mem_append_right _ (List.mem_append_left _ h)))))))) zg_j127_X12_goesOn)) rfl rfl rfl (by decide +kernel) ⟨Nat.le_of_ble_eq_true rfl, Nat.le_of_ble_eq_true rfl⟩ 0 rfl rfl rfl rfl (Nat.le_of_ble_eq_true rfl) ⟨Nat.le_of_ble_eq_true rfl, Nat.le_of_ble_eq_true rfl⟩ dX12_bounded_52 (fun v ty' w' hp hk' => ?_)
          obtain ⟨I4845, A4845, L4845, hI4845, hA4845, hV4845, r4846, r4847, r4848, r4849, rfl, rfl⟩ := hp
          have f4850 := IvM_f4 hV4845
          rw [show (I4838 4) = (I 4) from (hI4838 4 rfl)] at r4846
          have f4851 := IvM_f6 hV4845
          rw [show (I4838 6) = (I 6) from (hI4838 6 rfl)] at r4847
          rw [show (I4845 8) = (I4838 8) from (hI4845 8 rfl)] at r4848
          rw [show (I4838 4) = (I 4) from (hI4838 4 rfl)] at r4849
          show GW κ 4 0 0 (wM r g I4845 A4845 L4845) 55 [(3, .int (A 4 (I 4).toNatClampNeg)), (0, .ref (r 0)), (1, .int z1), (2, .int z2)] []
          refine g_iload_n hk dX12_bounded_55 rfl ?_
          exact g_iret hk hR rfl ⟨I4845, A4845, L4845, (show Md [4, 6, 7, 8, 9, 12, 13] I I4845 from (Md.tr (Md.tr Md.rf hI4838 rfl) hI4845 rfl)), (show Md [] A A4845 from (Md.tr (Md.tr Md.rf hA4838 rfl) hA4845 rfl)), hV4845, (A 4 (I 4).toNatClampNeg), (by omega), (by omega), (by rw [show (I4845 8) = (I4838 8) from (hI4845 8 rfl)] <;> omega), (by omega), (by rw [show (I4845 8) = (I4838 8) from (hI4845 8 rfl)] <;> omega), rfl, rfl⟩ dX12_bounded_56
def wo_j132_X12_readingTold : List Cond := [Cond.methodLink RX12 188 yX12_is, Cond.instanceMethod yX12_is, Cond.selects RX12 yX12_is yX12_is, Cond.initialized RX12, Cond.methodLink RX12 212 yX12_bounded, Cond.instanceMethod yX12_bounded, Cond.selects RX12 yX12_bounded yX12_bounded, Cond.methodLink RX12 191 yX12_goesOn, Cond.instanceMethod yX12_goesOn, Cond.selects RX12 yX12_goesOn yX12_goesOn]
def wz_j132_X12_readingTold : List Cond := .code yX12_readingTold cX12_readingTold 3 (some .int) :: (wo_j132_X12_readingTold ++ (wz_j125_X12_is ++ (wz_j133_X12_bounded ++ (wz_j127_X12_goesOn ++ ([] : List Cond)))))
theorem zg_j132_X12_readingTold : ∀ w ∈ wz_j132_X12_readingTold, goodWord w = true := zg_cons rfl (zg_app (by decide +kernel) (zg_app zg_j125_X12_is (zg_app zg_j133_X12_bounded (zg_app zg_j127_X12_goesOn zg_nil))))
theorem zi_j132_X12_readingTold : ∀ w ∈ wz_j132_X12_readingTold, w ∈ lw_tbl := zi_cons zw_1611 (zi_app (zi_cons zw_1583 (zi_cons zw_1585 (zi_cons zw_52 (zi_cons zw_115 (zi_cons zw_1612 (zi_cons zw_1614 (zi_cons zw_59 (zi_cons zw_1591 (zi_cons zw_1593 (zi_cons zw_54 zi_nil)))))))))) (zi_app zi_j125_X12_is (zi_app zi_j133_X12_bounded (zi_app zi_j127_X12_goesOn zi_nil))))
set_option maxHeartbeats 4000000 in
set_option maxRecDepth 100000 in
theorem j132_X12_readingTold (l : Launch) (D : va_G) (zt : Nat × Nat × Nat × (Nat → Nat) × (Nat → Nat)) (r : Nat → Nat) (g : Nat → ClassId) (I : Nat → Int32) (A : Nat → Nat → Int32) (L : Nat → Nat → Int64) (hIv : IvM I A) : GM l D zt (tyM g) yX12_readingTold wz_j132_X12_readingTold ({ frames := 3, cells := 0, slots := 0, locals := 64 } : Room) [.ref (r 0)] (wM r g I A L) (fun v _ w' => ∃ (I' : Nat → Int32) (A' : Nat → Nat → Int32) (L' : Nat → Nat → Int64), Md [4, 6, 7, 8, 9, 12, 13] I I' ∧ Md [] A A' ∧ IvM I' A' ∧ ∃ y0 : Int32, ((I 4).toInt ≤ (I' 4).toInt) ∧ ((I 6).toInt ≤ (I' 6).toInt) ∧ ((I 8).toInt ≤ 9 * (I' 8).toInt) ∧ ((I 4).toInt < (I' 4).toInt + (I' 6).toInt) ∧ v = some (.int y0) ∧ w' = wM r g I' A' L') 0 0 := by
  refine GM.of (cc := cX12_readingTold) (maxL := 3) (ret := (some .int)) (own := RX12) (lv := [(0, .ref (r 0))]) (by decide) rfl rfl (Nat.le_of_ble_eq_true rfl) rfl (fun κ sz hk hR hN => ?_)
  refine g_aload_n hk dX12_readingTold_0 rfl ?_
  refine g_bipush (v := 9) hk dX12_readingTold_1 (by decide) ?_
  have k4762 : (9 : Int32).toInt = 9 := rfl
  refine g_callV (n := 1) hk (j125_X12_is l D zt r g I A L 9 hIv) (SP.same _) (fun _ h => h) (gi_V (List.mem_cons_of_mem _ (List.mem_append_left _ (List.mem_of_getElem? (i := 0) rfl))) (List.mem_cons_of_mem _ (List.mem_append_left _ (List.mem_of_getElem? (i := 1) rfl))) (List.mem_cons_of_mem _ (List.mem_append_left _ (List.mem_of_getElem? (i := 2) rfl))) (List.mem_cons_of_mem _ (List.mem_append_left _ (List.mem_of_getElem? (i := 3) rfl))) (gi_sub (fun w h => (List.mem_cons_of_mem _ (List.mem_append_right _ (List.mem_append_left _ h)))) zg_j125_X12_is)) rfl rfl rfl (by decide +kernel) ⟨Nat.le_of_ble_eq_true rfl, Nat.le_of_ble_eq_true rfl⟩ 0 rfl rfl rfl rfl (Nat.le_of_ble_eq_true rfl) ⟨Nat.le_of_ble_eq_true rfl, Nat.le_of_ble_eq_true rfl⟩ dX12_readingTold_3 (fun v ty' w' hp hk' => ?_)
  rcases hp with ⟨c4763, rfl, rfl⟩ | ⟨c4765, rfl, rfl⟩
  · skip
    have f4767 := IvM_f6 hIv
    show GW κ 3 0 0 (wM r g I A L) 6 [(0, .ref (r 0))] [.int 0]
    refine g_istore_n (lv' := [(1, .int 0), (0, .ref (r 0))]) hk dX12_readingTold_6 (by decide) rfl ?_
    refine g_iload_n hk dX12_readingTold_7 rfl ?_
    refine g_if_eq (tgt := 15) (a := 0) hk dX12_readingTold_8 (by decide) rfl (fun _ => ?_) (fun z9 => absurd (show (0 : Int) = (0 : Int) from by decide) z9)
    refine g_aload_n hk dX12_readingTold_15 rfl ?_
    refine g_iconst (v := 0) hk dX12_readingTold_16 (by decide) ?_
    refine g_sipush (v := 999) hk dX12_readingTold_17 (by decide) ?_
    have k4852 : (0 : Int32).toInt = 0 := rfl
    have k4853 : (999 : Int32).toInt = 999 := rfl
    refine g_callV (n := 2) hk (j133_X12_bounded l D zt r g I A L 0 999 hIv) (SP.same _) (fun _ h => h) (gi_V (List.mem_cons_of_mem _ (List.mem_append_left _ (List.mem_of_getElem? (i := 4) rfl))) (List.mem_cons_of_mem _ (List.mem_append_left _ (List.mem_of_getElem? (i := 5) rfl))) (List.mem_cons_of_mem _ (List.mem_append_left _ (List.mem_of_getElem? (i := 6) rfl))) (List.mem_cons_of_mem _ (List.mem_append_left _ (List.mem_of_getElem? (i := 3) rfl))) (gi_sub (fun w h => (List.mem_cons_of_mem _ (List.mem_append_right _ (List.mem_append_right _ (List.mem_append_left _ h))))) zg_j133_X12_bounded)) rfl rfl rfl (by decide +kernel) ⟨Nat.le_of_ble_eq_true rfl, Nat.le_of_ble_eq_true rfl⟩ 0 rfl rfl rfl rfl (Nat.le_of_ble_eq_true rfl) ⟨Nat.le_of_ble_eq_true rfl, Nat.le_of_ble_eq_true rfl⟩ dX12_readingTold_20 (fun v ty' w' hp hk' => ?_)
    obtain ⟨I4855, A4855, L4855, hI4855, hA4855, hV4855, y4854, r4856, r4857, r4858, r4859, r4860, rfl, rfl⟩ := hp
    have f4861 := IvM_f4 hIv
    have f4862 := IvM_f4 hV4855
    have f4863 := IvM_f6 hV4855
    have f4864 := IvM_f8 hIv
    have f4865 := IvM_f8 hV4855
    have b4866l := Int32.le_toInt y4854
    have b4866h := Int32.toInt_lt y4854
    show GW κ 3 0 0 (wM r g I4855 A4855 L4855) 23 [(1, .int 0), (0, .ref (r 0))] [.int y4854]
    refine g_istore_n (lv' := [(2, .int y4854), (1, .int 0), (0, .ref (r 0))]) hk dX12_readingTold_23 (by decide) rfl ?_
    refine g_iload_n hk dX12_readingTold_24 rfl ?_
    refine g_if_eq (tgt := 33) (a := 0) hk dX12_readingTold_25 (by decide) rfl (fun _ => ?_) (fun z9 => absurd (show (0 : Int) = (0 : Int) from by decide) z9)
    refine g_iload_n hk dX12_readingTold_33 rfl ?_
    exact g_iret hk hR rfl ⟨I4855, A4855, L4855, (show Md [4, 6, 7, 8, 9, 12, 13] I I4855 from (Md.tr Md.rf hI4855 rfl)), (show Md [] A A4855 from (Md.tr Md.rf hA4855 rfl)), hV4855, y4854, (by omega), (by omega), (by omega), (by omega), rfl, rfl⟩ dX12_readingTold_34
  · skip
    have f4867 := IvM_f6 hIv
    show GW κ 3 0 0 (wM r g I A L) 6 [(0, .ref (r 0))] [.int 1]
    refine g_istore_n (lv' := [(1, .int 1), (0, .ref (r 0))]) hk dX12_readingTold_6 (by decide) rfl ?_
    refine g_iload_n hk dX12_readingTold_7 rfl ?_
    refine g_if_eq (tgt := 15) (a := 1) hk dX12_readingTold_8 (by decide) rfl (fun z9 => absurd z9 (show ¬ ((1 : Int) = (0 : Int)) from by decide)) (fun _ => ?_)
    refine g_aload_n hk dX12_readingTold_11 rfl ?_
    refine g_callV (n := 0) hk (j127_X12_goesOn l D zt r g I A L  hIv) (SP.same _) (fun _ h => h) (gi_V (List.mem_cons_of_mem _ (List.mem_append_left _ (List.mem_of_getElem? (i := 7) rfl))) (List.mem_cons_of_mem _ (List.mem_append_left _ (List.mem_of_getElem? (i := 8) rfl))) (List.mem_cons_of_mem _ (List.mem_append_left _ (List.mem_of_getElem? (i := 9) rfl))) (List.mem_cons_of_mem _ (List.mem_append_left _ (List.mem_of_getElem? (i := 3) rfl))) (gi_sub (fun w h => (List.mem_cons_of_mem _ (List.mem_append_right _ (List.mem_append_right _ (List.mem_append_right _ (List.mem_append_left _ h)))))) zg_j127_X12_goesOn)) rfl rfl rfl (by decide +kernel) ⟨Nat.le_of_ble_eq_true rfl, Nat.le_of_ble_eq_true rfl⟩ 0 rfl rfl rfl rfl (Nat.le_of_ble_eq_true rfl) ⟨Nat.le_of_ble_eq_true rfl, Nat.le_of_ble_eq_true rfl⟩ dX12_readingTold_12 (fun v ty' w' hp hk' => ?_)
    obtain ⟨I4869, A4869, L4869, hI4869, hA4869, hV4869, r4870, r4871, r4872, r4873, rfl, rfl⟩ := hp
    have f4874 := IvM_f4 hIv
    have f4875 := IvM_f4 hV4869
    have f4876 := IvM_f6 hV4869
    have f4877 := IvM_f8 hIv
    rw [show (I4869 8) = (I 8) from (hI4869 8 rfl)] at r4872
    show GW κ 3 0 0 (wM r g I4869 A4869 L4869) 15 [(1, .int 1), (0, .ref (r 0))] []
    refine g_aload_n hk dX12_readingTold_15 rfl ?_
    refine g_iconst (v := 0) hk dX12_readingTold_16 (by decide) ?_
    refine g_sipush (v := 999) hk dX12_readingTold_17 (by decide) ?_
    have k4878 : (0 : Int32).toInt = 0 := rfl
    have k4879 : (999 : Int32).toInt = 999 := rfl
    refine g_callV (n := 2) hk (j133_X12_bounded l D zt r g I4869 A4869 L4869 0 999 hV4869) (SP.same _) (fun _ h => h) (gi_V (List.mem_cons_of_mem _ (List.mem_append_left _ (List.mem_of_getElem? (i := 4) rfl))) (List.mem_cons_of_mem _ (List.mem_append_left _ (List.mem_of_getElem? (i := 5) rfl))) (List.mem_cons_of_mem _ (List.mem_append_left _ (List.mem_of_getElem? (i := 6) rfl))) (List.mem_cons_of_mem _ (List.mem_append_left _ (List.mem_of_getElem? (i := 3) rfl))) (gi_sub (fun w h => (List.mem_cons_of_mem _ (List.mem_append_right _ (List.mem_append_right _ (List.mem_append_left _ h))))) zg_j133_X12_bounded)) rfl rfl rfl (by decide +kernel) ⟨Nat.le_of_ble_eq_true rfl, Nat.le_of_ble_eq_true rfl⟩ 0 rfl rfl rfl rfl (Nat.le_of_ble_eq_true rfl) ⟨Nat.le_of_ble_eq_true rfl, Nat.le_of_ble_eq_true rfl⟩ dX12_readingTold_20 (fun v ty' w' hp hk' => ?_)
    obtain ⟨I4881, A4881, L4881, hI4881, hA4881, hV4881, y4880, r4882, r4883, r4884, r4885, r4886, rfl, rfl⟩ := hp
    have f4887 := IvM_f4 hV4881
    have f4888 := IvM_f6 hV4881
    have f4889 := IvM_f8 hV4881
    rw [show (I4869 8) = (I 8) from (hI4869 8 rfl)] at r4884
    have b4890l := Int32.le_toInt y4880
    have b4890h := Int32.toInt_lt y4880
    show GW κ 3 0 0 (wM r g I4881 A4881 L4881) 23 [(1, .int 1), (0, .ref (r 0))] [.int y4880]
    refine g_istore_n (lv' := [(2, .int y4880), (1, .int 1), (0, .ref (r 0))]) hk dX12_readingTold_23 (by decide) rfl ?_
    refine g_iload_n hk dX12_readingTold_24 rfl ?_
    refine g_if_eq (tgt := 33) (a := 1) hk dX12_readingTold_25 (by decide) rfl (fun z9 => absurd z9 (show ¬ ((1 : Int) = (0 : Int)) from by decide)) (fun _ => ?_)
    refine g_iload_n hk dX12_readingTold_28 rfl ?_
    refine g_ineg hk dX12_readingTold_29 ?_
    refine g_topi (fun y4891 ey4891 => ?_)
    refine g_goto (tgt := 34) hk dX12_readingTold_30 (by decide) ?_
    have b4892l := Int32.le_toInt y4891
    have b4892h := Int32.toInt_lt y4891
    exact g_iret hk hR rfl ⟨I4881, A4881, L4881, (show Md [4, 6, 7, 8, 9, 12, 13] I I4881 from (Md.tr (Md.tr Md.rf hI4869 rfl) hI4881 rfl)), (show Md [] A A4881 from (Md.tr (Md.tr Md.rf hA4869 rfl) hA4881 rfl)), hV4881, y4891, (by omega), (by omega), (by omega), (by omega), rfl, rfl⟩ dX12_readingTold_34
