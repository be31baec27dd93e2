def wo_j114_X12_lays : List Cond := [Cond.fieldLink RX12 13 "WarpDeskModel" "tape" "[B", Cond.fieldLink RX12 124 "WarpDeskModel" "taped" "I"]
def wz_j114_X12_lays : List Cond := .code yX12_lays cX12_lays 3 none :: (wo_j114_X12_lays ++ (wsX120 ++ ([] : List Cond)))
theorem zg_j114_X12_lays : ∀ w ∈ wz_j114_X12_lays, goodWord w = true := zg_cons rfl (zg_app (by decide +kernel) (zg_app zgU_wsX120 zg_nil))
theorem zi_j114_X12_lays : ∀ w ∈ wz_j114_X12_lays, w ∈ lw_tbl := zi_cons zw_1552 (zi_app (zi_cons zw_1380 (zi_cons zw_1381 zi_nil)) (zi_app inX12 zi_nil))
set_option maxHeartbeats 4000000 in
set_option maxRecDepth 100000 in
theorem j114_X12_lays (l : Launch) (D : va_G) (zt : Nat × Nat × Nat × (Nat → Nat) × (Nat → Nat)) (r : Nat → Nat) (g : Nat → ClassId) (I : Nat → Int32) (A : Nat → Nat → Int32) (L : Nat → Nat → Int64) (z1 : Int32) (hIv : IvM I A) (hp0 : (I 1).toInt ≤ 1996) : GM l D zt (tyM g) yX12_lays wz_j114_X12_lays ({ frames := 0, cells := 0, slots := 0, locals := 0 } : Room) [.ref (r 0), .int z1] (wM r g I A L) (fun v _ w' => ∃ (I' : Nat → Int32) (A' : Nat → Nat → Int32) (L' : Nat → Nat → Int64), Md [1] I I' ∧ Md [0] A A' ∧ IvM I' A' ∧ ((I' 1).toInt = (I 1).toInt + 4) ∧ v = none ∧ w' = wM r g I' A' L') 0 0 := by
  refine GM.of (cc := cX12_lays) (maxL := 3) (ret := none) (own := RX12) (lv := [(0, .ref (r 0)), (1, .int z1)]) (by decide) rfl rfl (Nat.le_of_ble_eq_true rfl) rfl (fun κ sz hk hR hN => ?_)
  have hin12 : ∀ w ∈ u_ws RX12 TX12 55, w ∈ wz_j114_X12_lays := fun w h => (List.mem_cons_of_mem _ (List.mem_append_right _ (List.mem_append_left _ h)))
  refine g_bipush (v := 24) hk dX12_lays_0 (by decide) ?_
  refine g_istore_n (lv' := [(2, .int 24), (0, .ref (r 0)), (1, .int z1)]) hk dX12_lays_2 (by decide) rfl ?_
  have lp278 : ∀ (n279 : Nat) (x249 : Int32) (I252 : Nat → Int32) (A252 : Nat → Nat → Int32) (L252 : Nat → Nat → Int64), (Md [1] I I252) → (Md [0] A A252) → (IvM I252 A252) → ((-8) ≤ x249.toInt) → (x249.toInt ≤ 24) → (8 * (I252 1).toInt - 8 * (I 1).toInt = 24 - x249.toInt) → (x249.toInt + 1 - 0 < (n279 : Int)) → (0 < n279) → GW κ 3 0 0 (wM r g I252 A252 L252) 3 [(2, .int x249), (0, .ref (r 0)), (1, .int z1)] [] := by
    intro n279
    induction n279 with
    | zero =>
      intro x249 I252 A252 L252 hI252 hA252 hV252 h275 h276 h277 m280 m280z
      exact absurd m280z (Nat.lt_irrefl 0)
    | succ n279 ih281 =>
      intro x249 I252 A252 L252 hI252 hA252 hV252 h275 h276 h277 m280 m280z
      have f282 := IvM_f1 hV252
      refine g_iload_n hk dX12_lays_3 rfl ?_
      refine g_if_lt (tgt := 36) (a := x249.toInt) hk dX12_lays_4 (by decide) rfl (fun c283 => ?_) (fun c283 => ?_)
      · skip
        have f284 := IvM_f1 hIv
        exact g_vret hk hR ⟨I252, A252, L252, (show Md [1] I I252 from (Md.tr Md.rf hI252 rfl)), (show Md [0] A A252 from (Md.tr Md.rf hA252 rfl)), hV252, (show ((I252 1)).toInt = (I 1).toInt + 4 from by omega), rfl, rfl⟩ dX12_lays_36
      · skip
        refine g_aload_n hk dX12_lays_7 rfl ?_
        refine gM_r0_1 hk hin12 (List.mem_cons_of_mem _ (List.mem_append_left _ (List.mem_of_getElem? (i := 0) rfl))) dX12_lays_8 ?_
        refine g_aload_n hk dX12_lays_11 rfl ?_
        refine gM_i1 (v := (I252 1)) hk hin12 (List.mem_cons_of_mem _ (List.mem_append_left _ (List.mem_of_getElem? (i := 1) rfl))) dX12_lays_12 rfl ?_
        refine g_iload_n hk dX12_lays_15 rfl ?_
        refine g_iload_n hk dX12_lays_16 rfl ?_
        refine g_ishr hk dX12_lays_17 ?_
        refine g_topi (fun y285 ey285 => ?_)
        refine g_i2b hk dX12_lays_18 rfl ?_
        refine g_topi (fun y286 ey286 => ?_)
        refine sM_0 (y := (vp_nar .byte y286)) (j := (I252 1).toNatClampNeg) hk (vp_in_iff.mpr ⟨by omega, by omega⟩) rfl rfl dX12_lays_19 ?_
        refine g_aload_n hk dX12_lays_20 rfl ?_
        refine g_dup hk dX12_lays_21 rfl ?_
        refine gM_i1 (v := (I252 1)) hk hin12 (List.mem_cons_of_mem _ (List.mem_append_left _ (List.mem_of_getElem? (i := 1) rfl))) dX12_lays_22 rfl ?_
        refine g_iconst (v := 1) hk dX12_lays_25 (by decide) ?_
        refine g_iadd hk dX12_lays_26 ?_
        refine g_topi (fun y287 ey287 => ?_)
        have hy287 : y287.toInt = (I252 1).toInt + 1 := i32_add ey287 rfl rfl (by omega) (by omega)
        refine pM_i1 hk hin12 (List.mem_cons_of_mem _ (List.mem_append_left _ (List.mem_of_getElem? (i := 1) rfl))) dX12_lays_27 ?_
        obtain ⟨y288, ey288⟩ : ∃ y : Int32, y = x249 + Int32.ofInt (-8) := ⟨_, rfl⟩
        have hy288 : y288.toInt = x249.toInt + (-8) := i32_add ey288 rfl (by decide) (by omega) (by omega)
        refine g_iinc (v := y288) (lv' := [(2, .int y288), (0, .ref (r 0)), (1, .int z1)]) hk 0 dX12_lays_30 rfl ey288.symm (by decide) rfl ?_
        refine g_goto (tgt := 3) hk dX12_lays_33 (by decide) ?_
        exact g_lv (List.forall_mem_cons.mpr ⟨List.mem_of_getElem? (i := 0) rfl, (List.forall_mem_cons.mpr ⟨List.mem_of_getElem? (i := 1) rfl, (List.forall_mem_cons.mpr ⟨List.mem_of_getElem? (i := 2) rfl, (fun _ h => absurd h List.not_mem_nil)⟩)⟩)⟩) (ih281 y288 (upd I252 1 y287) (up3 A252 0 ((I252 1).toNatClampNeg) (vp_nar .byte y286)) L252 (show Md [1] I (upd I252 1 y287) from Md.tr hI252 (show Md [1] I252 (upd I252 1 y287) from (Md.up Md.rf rfl)) rfl) (show Md [0] A (up3 A252 0 ((I252 1).toNatClampNeg) (vp_nar .byte y286)) from Md.tr hA252 (show Md [0] A252 (up3 A252 0 ((I252 1).toNatClampNeg) (vp_nar .byte y286)) from (Md.up3 Md.rf rfl)) rfl) ⟨(show 0 ≤ y287.toInt ∧ y287.toInt ≤ 2000 from ⟨by omega, by omega⟩), (IvM_f2 (I := I252) (A := A252) hV252), (IvM_f3 (I := I252) (A := A252) hV252), (IvM_f4 (I := I252) (A := A252) hV252), (IvM_f6 (I := I252) (A := A252) hV252), (IvM_f8 (I := I252) (A := A252) hV252), (IvM_f15 (I := I252) (A := A252) hV252), (IvM_f16 (I := I252) (A := A252) hV252), (IvM_f17 (I := I252) (A := A252) hV252), (IvM_f18 (I := I252) (A := A252) hV252), (IvM_f22 (I := I252) (A := A252) hV252), (IvM_f23 (I := I252) (A := A252) hV252), (IvM_f24 (I := I252) (A := A252) hV252), (IvM_a11 (I := I252) (A := A252) hV252), (IvM_a26 (I := I252) (A := A252) hV252), (IvM_s8_0 (I := I252) (A := A252) hV252), (IvM_s8_1 (I := I252) (A := A252) hV252), (IvM_s10_0 (I := I252) (A := A252) hV252), (IvM_s10_1 (I := I252) (A := A252) hV252), (IvM_s17_0 (I := I252) (A := A252) hV252), (IvM_s17_164 (I := I252) (A := A252) hV252), (IvM_lv (I := I252) (A := A252) hV252), (IvM_sd (I := I252) (A := A252) hV252), (IvM_nq (I := I252) (A := A252) hV252), (IvM_hr (I := I252) (A := A252) hV252), (IvM_hh (I := I252) (A := A252) hV252), trivial⟩ (by omega) (by omega) (by first | (rw [show ((upd I252 1 y287) 1) = y287 from rfl] <;> omega) | omega) (by omega) (by omega))
  have k289 : (24 : Int32).toInt = 24 := rfl
  obtain ⟨n290, n290a, n290b⟩ : ∃ n : Nat, (24 : Int32).toInt + 1 - 0 < (n : Int) ∧ 0 < n := ⟨(((24 : Int32).toInt + 1 - 0 : Int)).toNat + 1, by omega, by omega⟩
  have f291 := IvM_f1 hIv
  exact lp278 n290 24 I A L Md.rf Md.rf hIv (by omega) (by omega) (by omega) n290a n290b
def wo_j113_X12_feed : List Cond := [Cond.fieldLink RX12 124 "WarpDeskModel" "taped" "I", Cond.methodLink RX12 127 yX12_lays, Cond.instanceMethod yX12_lays, Cond.selects RX12 yX12_lays yX12_lays, Cond.initialized RX12]
def wz_j113_X12_feed : List Cond := .code yX12_feed cX12_feed 6 (some .int) :: (wo_j113_X12_feed ++ (wsX120 ++ (wz_j114_X12_lays ++ ([] : List Cond))))
theorem zg_j113_X12_feed : ∀ w ∈ wz_j113_X12_feed, goodWord w = true := zg_cons rfl (zg_app (by decide +kernel) (zg_app zgU_wsX120 (zg_app zg_j114_X12_lays zg_nil)))
theorem zi_j113_X12_feed : ∀ w ∈ wz_j113_X12_feed, w ∈ lw_tbl := zi_cons zw_1548 (zi_app (zi_cons zw_1381 (zi_cons zw_1549 (zi_cons zw_1551 (zi_cons zw_47 (zi_cons zw_115 zi_nil))))) (zi_app inX12 (zi_app zi_j114_X12_lays zi_nil)))
set_option maxHeartbeats 4000000 in
set_option maxRecDepth 100000 in
theorem j113_X12_feed (l : Launch) (D : va_G) (zt : Nat × Nat × Nat × (Nat → Nat) × (Nat → Nat)) (r : Nat → Nat) (g : Nat → ClassId) (I : Nat → Int32) (A : Nat → Nat → Int32) (L : Nat → Nat → Int64) (z1 : Int32) (z2 : Int32) (z3 : Int32) (z4 : Int32) (z5 : Int32) (hIv : IvM I A) : GM l D zt (tyM g) yX12_feed wz_j113_X12_feed ({ frames := 1, cells := 0, slots := 0, locals := 22 } : Room) [.ref (r 0), .int z1, .int z2, .int z3, .int z4, .int z5] (wM r g I A L) (fun v _ w' => ∃ (I' : Nat → Int32) (A' : Nat → Nat → Int32) (L' : Nat → Nat → Int64), Md [1] I I' ∧ Md [0] A A' ∧ IvM I' A' ∧ ∃ y0 : Int32, ((1980 < (I 1).toInt ∧ y0.toInt = -1 ∧ (I' 1).toInt = (I 1).toInt) ∨ ((I 1).toInt ≤ 1980 ∧ y0.toInt = (I 1).toInt + 20 ∧ (I' 1).toInt = (I 1).toInt + 20)) ∧ ((-1) ≤ y0.toInt) ∧ (y0.toInt ≤ 2000) ∧ v = some (.int y0) ∧ w' = wM r g I' A' L') 0 0 := by
  refine GM.of (cc := cX12_feed) (maxL := 6) (ret := (some .int)) (own := RX12) (lv := [(0, .ref (r 0)), (1, .int z1), (2, .int z2), (3, .int z3), (4, .int z4), (5, .int z5)]) (by decide) rfl rfl (Nat.le_of_ble_eq_true rfl) rfl (fun κ sz hk hR hN => ?_)
  have hin12 : ∀ w ∈ u_ws RX12 TX12 55, w ∈ wz_j113_X12_feed := fun w h => (List.mem_cons_of_mem _ (List.mem_append_right _ (List.mem_append_left _ h)))
  refine g_aload_n hk dX12_feed_0 rfl ?_
  refine gM_i1 (v := (I 1)) hk hin12 (List.mem_cons_of_mem _ (List.mem_append_left _ (List.mem_of_getElem? (i := 0) rfl))) dX12_feed_1 rfl ?_
  have f246 := IvM_f1 hIv
  refine g_bipush (v := 20) hk dX12_feed_4 (by decide) ?_
  refine g_iadd hk dX12_feed_6 ?_
  refine g_topi (fun y247 ey247 => ?_)
  have hy247 : y247.toInt = (I 1).toInt + 20 := i32_add ey247 rfl rfl (by omega) (by omega)
  refine g_sipush (v := 2000) hk dX12_feed_7 (by decide) ?_
  refine g_icmp_le (tgt := 15) (a := y247.toInt) (b := 2000) hk dX12_feed_10 (by decide) rfl rfl (fun c248 => ?_) (fun c248 => ?_)
  · skip
    refine g_aload_n hk dX12_feed_15 rfl ?_
    refine g_iload_n hk dX12_feed_16 rfl ?_
    refine g_callV (n := 1) hk (j114_X12_lays l D zt r g I A L z1 hIv (by omega)) (SP.same _) (fun _ h => h) (gi_V (List.mem_cons_of_mem _ (List.mem_append_left _ (List.mem_of_getElem? (i := 1) rfl))) (List.mem_cons_of_mem _ (List.mem_append_left _ (List.mem_of_getElem? (i := 2) rfl))) (List.mem_cons_of_mem _ (List.mem_append_left _ (List.mem_of_getElem? (i := 3) rfl))) (List.mem_cons_of_mem _ (List.mem_append_left _ (List.mem_of_getElem? (i := 4) rfl))) (gi_sub (fun w h => (List.mem_cons_of_mem _ (List.mem_append_right _ (List.mem_append_right _ (List.mem_append_left _ h))))) zg_j114_X12_lays)) rfl rfl rfl (by decide +kernel) ⟨Nat.le_of_ble_eq_true rfl, Nat.le_of_ble_eq_true rfl⟩ 0 rfl rfl rfl rfl (Nat.le_of_ble_eq_true rfl) ⟨Nat.le_of_ble_eq_true rfl, Nat.le_of_ble_eq_true rfl⟩ dX12_feed_17 (fun v ty' w' hp hk' => ?_)
    obtain ⟨I293, A293, L293, hI293, hA293, hV293, r294, rfl, rfl⟩ := hp
    have f295 := IvM_f1 hV293
    have r294 : (I293 1).toInt = (I 1).toInt + 4 := r294
    show GW κ 6 0 0 (wM r g I293 A293 L293) 20 [(0, .ref (r 0)), (1, .int z1), (2, .int z2), (3, .int z3), (4, .int z4), (5, .int z5)] []
    refine g_aload_n hk dX12_feed_20 rfl ?_
    refine g_iload_n hk dX12_feed_21 rfl ?_
    refine g_callV (n := 1) hk (j114_X12_lays l D zt r g I293 A293 L293 z2 hV293 (by omega)) (SP.same _) (fun _ h => h) (gi_V (List.mem_cons_of_mem _ (List.mem_append_left _ (List.mem_of_getElem? (i := 1) rfl))) (List.mem_cons_of_mem _ (List.mem_append_left _ (List.mem_of_getElem? (i := 2) rfl))) (List.mem_cons_of_mem _ (List.mem_append_left _ (List.mem_of_getElem? (i := 3) rfl))) (List.mem_cons_of_mem _ (List.mem_append_left _ (List.mem_of_getElem? (i := 4) rfl))) (gi_sub (fun w h => (List.mem_cons_of_mem _ (List.mem_append_right _ (List.mem_append_right _ (List.mem_append_left _ h))))) zg_j114_X12_lays)) rfl rfl rfl (by decide +kernel) ⟨Nat.le_of_ble_eq_true rfl, Nat.le_of_ble_eq_true rfl⟩ 0 rfl rfl rfl rfl (Nat.le_of_ble_eq_true rfl) ⟨Nat.le_of_ble_eq_true rfl, Nat.le_of_ble_eq_true rfl⟩ dX12_feed_22 (fun v ty' w' hp hk' => ?_)
    obtain ⟨I297, A297, L297, hI297, hA297, hV297, r298, rfl, rfl⟩ := hp
    have f299 := IvM_f1 hV297
    have r298 : (I297 1).toInt = (I293 1).toInt + 4 := r298
    show GW κ 6 0 0 (wM r g I297 A297 L297) 25 [(0, .ref (r 0)), (1, .int z1), (2, .int z2), (3, .int z3), (4, .int z4), (5, .int z5)] []
    refine g_aload_n hk dX12_feed_25 rfl ?_
    refine g_iload_n hk dX12_feed_26 rfl ?_
    refine g_callV (n := 1) hk (j114_X12_lays l D zt r g I297 A297 L297 z3 hV297 (by omega)) (SP.same _) (fun _ h => h) (gi_V (List.mem_cons_of_mem _ (List.mem_append_left _ (List.mem_of_getElem? (i := 1) rfl))) (List.mem_cons_of_mem _ (List.mem_append_left _ (List.mem_of_getElem? (i := 2) rfl))) (List.mem_cons_of_mem _ (List.mem_append_left _ (List.mem_of_getElem? (i := 3) rfl))) (List.mem_cons_of_mem _ (List.mem_append_left _ (List.mem_of_getElem? (i := 4) rfl))) (gi_sub (fun w h => (List.mem_cons_of_mem _ (List.mem_append_right _ (List.mem_append_right _ (List.mem_append_left _ h))))) zg_j114_X12_lays)) rfl rfl rfl (by decide +kernel) ⟨Nat.le_of_ble_eq_true rfl, Nat.le_of_ble_eq_true rfl⟩ 0 rfl rfl rfl rfl (Nat.le_of_ble_eq_true rfl) ⟨Nat.le_of_ble_eq_true rfl, Nat.le_of_ble_eq_true rfl⟩ dX12_feed_27 (fun v ty' w' hp hk' => ?_)
    obtain ⟨I301, A301, L301, hI301, hA301, hV301, r302, rfl, rfl⟩ := hp
    have f303 := IvM_f1 hV301
    have r302 : (I301 1).toInt = (I297 1).toInt + 4 := r302
    show GW κ 6 0 0 (wM r g I301 A301 L301) 30 [(0, .ref (r 0)), (1, .int z1), (2, .int z2), (3, .int z3), (4, .int z4), (5, .int z5)] []
    refine g_aload_n hk dX12_feed_30 rfl ?_
    refine g_iload hk dX12_feed_31 rfl ?_
    refine g_callV (n := 1) hk (j114_X12_lays l D zt r g I301 A301 L301 z4 hV301 (by omega)) (SP.same _) (fun _ h => h) (gi_V (List.mem_cons_of_mem _ (List.mem_append_left _ (List.mem_of_getElem? (i := 1) rfl))) (List.mem_cons_of_mem _ (List.mem_append_left _ (List.mem_of_getElem? (i := 2) rfl))) (List.mem_cons_of_mem _ (List.mem_append_left _ (List.mem_of_getElem? (i := 3) rfl))) (List.mem_cons_of_mem _ (List.mem_append_left _ (List.mem_of_getElem? (i := 4) rfl))) (gi_sub (fun w h => (List.mem_cons_of_mem _ (List.mem_append_right _ (List.mem_append_right _ (List.mem_append_left _ h))))) zg_j114_X12_lays)) rfl rfl rfl (by decide +kernel) ⟨Nat.le_of_ble_eq_true rfl, Nat.le_of_ble_eq_true rfl⟩ 0 rfl rfl rfl rfl (Nat.le_of_ble_eq_true rfl) ⟨Nat.le_of_ble_eq_true rfl, Nat.le_of_ble_eq_true rfl⟩ dX12_feed_33 (fun v ty' w' hp hk' => ?_)
    obtain ⟨I305, A305, L305, hI305, hA305, hV305, r306, rfl, rfl⟩ := hp
    have f307 := IvM_f1 hV305
    have r306 : (I305 1).toInt = (I301 1).toInt + 4 := r306
    show GW κ 6 0 0 (wM r g I305 A305 L305) 36 [(0, .ref (r 0)), (1, .int z1), (2, .int z2), (3, .int z3), (4, .int z4), (5, .int z5)] []
    refine g_aload_n hk dX12_feed_36 rfl ?_
    refine g_iload hk dX12_feed_37 rfl ?_
    refine g_callV (n := 1) hk (j114_X12_lays l D zt r g I305 A305 L305 z5 hV305 (by omega)) (SP.same _) (fun _ h => h) (gi_V (List.mem_cons_of_mem _ (List.mem_append_left _ (List.mem_of_getElem? (i := 1) rfl))) (List.mem_cons_of_mem _ (List.mem_append_left _ (List.mem_of_getElem? (i := 2) rfl))) (List.mem_cons_of_mem _ (List.mem_append_left _ (List.mem_of_getElem? (i := 3) rfl))) (List.mem_cons_of_mem _ (List.mem_append_left _ (List.mem_of_getElem? (i := 4) rfl))) (gi_sub (fun w h => (List.mem_cons_of_mem _ (List.mem_append_right _ (List.mem_append_right _ (List.mem_append_left _ h))))) zg_j114_X12_lays)) rfl rfl rfl (by decide +kernel) ⟨Nat.le_of_ble_eq_true rfl, Nat.le_of_ble_eq_true rfl⟩ 0 rfl rfl rfl rfl (Nat.le_of_ble_eq_true rfl) ⟨Nat.le_of_ble_eq_true rfl, Nat.le_of_ble_eq_true rfl⟩ dX12_feed_39 (fun v ty' w' hp hk' => ?_)
    obtain ⟨I309, A309, L309, hI309, hA309, hV309, r310, rfl, rfl⟩ := hp
    have f311 := IvM_f1 hV309
    have r310 : (I309 1).toInt = (I305 1).toInt + 4 := r310
    show GW κ 6 0 0 (wM r g I309 A309 L309) 42 [(0, .ref (r 0)), (1, .int z1), (2, .int z2), (3, .int z3), (4, .int z4), (5, .int z5)] []
    refine g_aload_n hk dX12_feed_42 rfl ?_
    refine gM_i1 (v := (I309 1)) hk hin12 (List.mem_cons_of_mem _ (List.mem_append_left _ (List.mem_of_getElem? (i := 0) rfl))) dX12_feed_43 rfl ?_
    exact g_iret hk hR rfl ⟨I309, A309, L309, (show Md [1] I I309 from (Md.tr (Md.tr (Md.tr (Md.tr (Md.tr Md.rf hI293 rfl) hI297 rfl) hI301 rfl) hI305 rfl) hI309 rfl)), (show Md [0] A A309 from (Md.tr (Md.tr (Md.tr (Md.tr (Md.tr Md.rf hA293 rfl) hA297 rfl) hA301 rfl) hA305 rfl) hA309 rfl)), hV309, (I309 1), (show (1980 < (I 1).toInt ∧ (I309 1).toInt = -1 ∧ ((I309 1)).toInt = (I 1).toInt) ∨ ((I 1).toInt ≤ 1980 ∧ (I309 1).toInt = (I 1).toInt + 20 ∧ ((I309 1)).toInt = (I 1).toInt + 20) from by omega), (by omega), (by omega), rfl, rfl⟩ dX12_feed_46
  · skip
    refine g_iconst (v := (-1)) hk dX12_feed_13 (by decide) ?_
    have k312 : ((-1) : Int32).toInt = (-1) := rfl
    exact g_iret hk hR rfl ⟨I, A, L, (show Md [1] I I from Md.rf), (show Md [0] A A from Md.rf), hIv, (-1), (show (1980 < (I 1).toInt ∧ ((-1) : Int32).toInt = -1 ∧ ((I 1)).toInt = (I 1).toInt) ∨ ((I 1).toInt ≤ 1980 ∧ ((-1) : Int32).toInt = (I 1).toInt + 20 ∧ ((I 1)).toInt = (I 1).toInt + 20) from by omega), (by decide), (by decide), rfl, rfl⟩ dX12_feed_14
def wo_j115_X12_back : List Cond := [Cond.fieldLink RX12 124 "WarpDeskModel" "taped" "I"]
def wz_j115_X12_back : List Cond := .code yX12_back cX12_back 2 (some .int) :: (wo_j115_X12_back ++ (wsX120 ++ ([] : List Cond)))
theorem zg_j115_X12_back : ∀ w ∈ wz_j115_X12_back, goodWord w = true := zg_cons rfl (zg_app (by decide +kernel) (zg_app zgU_wsX120 zg_nil))
theorem zi_j115_X12_back : ∀ w ∈ wz_j115_X12_back, w ∈ lw_tbl := zi_cons zw_1556 (zi_app (zi_cons zw_1381 zi_nil) (zi_app inX12 zi_nil))
set_option maxHeartbeats 4000000 in
set_option maxRecDepth 100000 in
theorem j115_X12_back (l : Launch) (D : va_G) (zt : Nat × Nat × Nat × (Nat → Nat) × (Nat → Nat)) (r : Nat → Nat) (g : Nat → ClassId) (I : Nat → Int32) (A : Nat → Nat → Int32) (L : Nat → Nat → Int64) (z1 : Int32) (hIv : IvM I A) : GM l D zt (tyM g) yX12_back wz_j115_X12_back ({ frames := 0, cells := 0, slots := 0, locals := 0 } : Room) [.ref (r 0), .int z1] (wM r g I A L) (fun v _ w' => ∃ (I' : Nat → Int32) (A' : Nat → Nat → Int32) (L' : Nat → Nat → Int64), Md [1] I I' ∧ Md [] A A' ∧ IvM I' A' ∧ ∃ y0 : Int32, (((z1.toInt < 0 ∨ (I 1).toInt < z1.toInt) ∧ y0.toInt = -1 ∧ (I' 1).toInt = (I 1).toInt) ∨ (0 ≤ z1.toInt ∧ z1.toInt ≤ (I 1).toInt ∧ y0.toInt = (I 1).toInt - z1.toInt ∧ (I' 1).toInt = (I 1).toInt - z1.toInt)) ∧ ((-2000) ≤ y0.toInt) ∧ (y0.toInt ≤ 2000) ∧ v = some (.int y0) ∧ w' = wM r g I' A' L') 0 0 := by
  refine GM.of (cc := cX12_back) (maxL := 2) (ret := (some .int)) (own := RX12) (lv := [(0, .ref (r 0)), (1, .int z1)]) (by decide) rfl rfl (Nat.le_of_ble_eq_true rfl) rfl (fun κ sz hk hR hN => ?_)
  have hin12 : ∀ w ∈ u_ws RX12 TX12 55, w ∈ wz_j115_X12_back := fun w h => (List.mem_cons_of_mem _ (List.mem_append_right _ (List.mem_append_left _ h)))
  refine g_iload_n hk dX12_back_0 rfl ?_
  have b313l := Int32.le_toInt z1
  have b313h := Int32.toInt_lt z1
  refine g_if_lt (tgt := 12) (a := z1.toInt) hk dX12_back_1 (by decide) rfl (fun c314 => ?_) (fun c314 => ?_)
  · skip
    refine g_iconst (v := (-1)) hk dX12_back_12 (by decide) ?_
    have f315 := IvM_f1 hIv
    have k316 : ((-1) : Int32).toInt = (-1) := rfl
    exact g_iret hk hR rfl ⟨I, A, L, (show Md [1] I I from Md.rf), (show Md [] A A from Md.rf), hIv, (-1), (show ((z1.toInt < 0 ∨ (I 1).toInt < z1.toInt) ∧ ((-1) : Int32).toInt = -1 ∧ ((I 1)).toInt = (I 1).toInt) ∨ (0 ≤ z1.toInt ∧ z1.toInt ≤ (I 1).toInt ∧ ((-1) : Int32).toInt = (I 1).toInt - z1.toInt ∧ ((I 1)).toInt = (I 1).toInt - z1.toInt) from by omega), (by decide), (by decide), rfl, rfl⟩ dX12_back_13
  · skip
    refine g_iload_n hk dX12_back_4 rfl ?_
    refine g_aload_n hk dX12_back_5 rfl ?_
    refine gM_i1 (v := (I 1)) hk hin12 (List.mem_cons_of_mem _ (List.mem_append_left _ (List.mem_of_getElem? (i := 0) rfl))) dX12_back_6 rfl ?_
    have f317 := IvM_f1 hIv
    refine g_icmp_le (tgt := 14) (a := z1.toInt) (b := (I 1).toInt) hk dX12_back_9 (by decide) rfl rfl (fun c318 => ?_) (fun c318 => ?_)
    · skip
      refine g_aload_n hk dX12_back_14 rfl ?_
      refine g_dup hk dX12_back_15 rfl ?_
      refine gM_i1 (v := (I 1)) hk hin12 (List.mem_cons_of_mem _ (List.mem_append_left _ (List.mem_of_getElem? (i := 0) rfl))) dX12_back_16 rfl ?_
      refine g_iload_n hk dX12_back_19 rfl ?_
      refine g_isub hk dX12_back_20 ?_
      refine g_topi (fun y319 ey319 => ?_)
      have hy319 : y319.toInt = (I 1).toInt - z1.toInt := i32_sub ey319 rfl rfl (by omega) (by omega)
      refine pM_i1 hk hin12 (List.mem_cons_of_mem _ (List.mem_append_left _ (List.mem_of_getElem? (i := 0) rfl))) dX12_back_21 ?_
      refine g_aload_n hk dX12_back_24 rfl ?_
      refine gM_i1 (v := y319) hk hin12 (List.mem_cons_of_mem _ (List.mem_append_left _ (List.mem_of_getElem? (i := 0) rfl))) dX12_back_25 rfl ?_
      exact g_iret hk hR rfl ⟨(upd I 1 y319), A, L, (show Md [1] I (upd I 1 y319) from (Md.up Md.rf rfl)), (show Md [] A A from Md.rf), ⟨(show 0 ≤ y319.toInt ∧ y319.toInt ≤ 2000 from ⟨by omega, by omega⟩), (IvM_f2 (I := I) (A := A) hIv), (IvM_f3 (I := I) (A := A) hIv), (IvM_f4 (I := I) (A := A) hIv), (IvM_f6 (I := I) (A := A) hIv), (IvM_f8 (I := I) (A := A) hIv), (IvM_f15 (I := I) (A := A) hIv), (IvM_f16 (I := I) (A := A) hIv), (IvM_f17 (I := I) (A := A) hIv), (IvM_f18 (I := I) (A := A) hIv), (IvM_f22 (I := I) (A := A) hIv), (IvM_f23 (I := I) (A := A) hIv), (IvM_f24 (I := I) (A := A) hIv), (IvM_a11 (I := I) (A := A) hIv), (IvM_a26 (I := I) (A := A) hIv), (IvM_s8_0 (I := I) (A := A) hIv), (IvM_s8_1 (I := I) (A := A) hIv), (IvM_s10_0 (I := I) (A := A) hIv), (IvM_s10_1 (I := I) (A := A) hIv), (IvM_s17_0 (I := I) (A := A) hIv), (IvM_s17_164 (I := I) (A := A) hIv), (IvM_lv (I := I) (A := A) hIv), (IvM_sd (I := I) (A := A) hIv), (IvM_nq (I := I) (A := A) hIv), (IvM_hr (I := I) (A := A) hIv), (IvM_hh (I := I) (A := A) hIv), trivial⟩, y319, (show ((z1.toInt < 0 ∨ (I 1).toInt < z1.toInt) ∧ y319.toInt = -1 ∧ (y319).toInt = (I 1).toInt) ∨ (0 ≤ z1.toInt ∧ z1.toInt ≤ (I 1).toInt ∧ y319.toInt = (I 1).toInt - z1.toInt ∧ (y319).toInt = (I 1).toInt - z1.toInt) from by omega), (by omega), (by omega), rfl, rfl⟩ dX12_back_28
    · skip
      refine g_iconst (v := (-1)) hk dX12_back_12 (by decide) ?_
      have k320 : ((-1) : Int32).toInt = (-1) := rfl
      exact g_iret hk hR rfl ⟨I, A, L, (show Md [1] I I from Md.rf), (show Md [] A A from Md.rf), hIv, (-1), (show ((z1.toInt < 0 ∨ (I 1).toInt < z1.toInt) ∧ ((-1) : Int32).toInt = -1 ∧ ((I 1)).toInt = (I 1).toInt) ∨ (0 ≤ z1.toInt ∧ z1.toInt ≤ (I 1).toInt ∧ ((-1) : Int32).toInt = (I 1).toInt - z1.toInt ∧ ((I 1)).toInt = (I 1).toInt - z1.toInt) from by omega), (by decide), (by decide), rfl, rfl⟩ dX12_back_13
def wo_j118_X12_byteAt : List Cond := [Cond.fieldLink RX12 130 "WarpDeskModel" "size" "I", Cond.fieldLink RX12 17 "WarpDeskModel" "text" "[B"]
def wz_j118_X12_byteAt : List Cond := .code yX12_byteAt cX12_byteAt 2 (some .int) :: (wo_j118_X12_byteAt ++ (wsX120 ++ ([] : List Cond)))
theorem zg_j118_X12_byteAt : ∀ w ∈ wz_j118_X12_byteAt, goodWord w = true := zg_cons rfl (zg_app (by decide +kernel) (zg_app zgU_wsX120 zg_nil))
theorem zi_j118_X12_byteAt : ∀ w ∈ wz_j118_X12_byteAt, w ∈ lw_tbl := zi_cons zw_1568 (zi_app (zi_cons zw_1383 (zi_cons zw_1382 zi_nil)) (zi_app inX12 zi_nil))
set_option maxHeartbeats 4000000 in
set_option maxRecDepth 100000 in
theorem j118_X12_byteAt (l : Launch) (D : va_G) (zt : Nat × Nat × Nat × (Nat → Nat) × (Nat → Nat)) (r : Nat → Nat) (g : Nat → ClassId) (I : Nat → Int32) (A : Nat → Nat → Int32) (L : Nat → Nat → Int64) (z1 : Int32) (hIv : IvM I A) (hp0 : 0 ≤ z1.toInt) : GM l D zt (tyM g) yX12_byteAt wz_j118_X12_byteAt ({ frames := 0, cells := 0, slots := 0, locals := 0 } : Room) [.ref (r 0), .int z1] (wM r g I A L) (fun v _ w' => (v = some (.int 0) ∧ w' = wM r g I A L) ∨ (∃ y0 : Int32, (z1.toInt ≤ 1999) ∧ (0 ≤ y0.toInt) ∧ (y0.toInt ≤ 255) ∧ v = some (.int y0) ∧ w' = wM r g I A L)) 0 0 := by
  refine GM.of (cc := cX12_byteAt) (maxL := 2) (ret := (some .int)) (own := RX12) (lv := [(0, .ref (r 0)), (1, .int z1)]) (by decide) rfl rfl (Nat.le_of_ble_eq_true rfl) rfl (fun κ sz hk hR hN => ?_)
  have hin12 : ∀ w ∈ u_ws RX12 TX12 55, w ∈ wz_j118_X12_byteAt := fun w h => (List.mem_cons_of_mem _ (List.mem_append_right _ (List.mem_append_left _ h)))
  refine g_iload_n hk dX12_byteAt_0 rfl ?_
  refine g_aload_n hk dX12_byteAt_1 rfl ?_
  refine gM_i2 (v := (I 2)) hk hin12 (List.mem_cons_of_mem _ (List.mem_append_left _ (List.mem_of_getElem? (i := 0) rfl))) dX12_byteAt_2 rfl ?_
  have f329 := IvM_f2 hIv
  have b330l := Int32.le_toInt z1
  have b330h := Int32.toInt_lt z1
  refine g_icmp_ge (tgt := 21) (a := z1.toInt) (b := (I 2).toInt) hk dX12_byteAt_5 (by decide) rfl rfl (fun c331 => ?_) (fun c331 => ?_)
  · skip
    refine g_iconst (v := 0) hk dX12_byteAt_21 (by decide) ?_
    exact g_iret hk hR rfl (Or.inl ⟨rfl, rfl⟩) dX12_byteAt_22
  · skip
    refine g_aload_n hk dX12_byteAt_8 rfl ?_
    refine gM_r0_3 hk hin12 (List.mem_cons_of_mem _ (List.mem_append_left _ (List.mem_of_getElem? (i := 1) rfl))) dX12_byteAt_9 ?_
    refine g_iload_n hk dX12_byteAt_12 rfl ?_
    refine lM_1 (v := (A 1 z1.toNatClampNeg)) hk (vp_in_iff.mpr ⟨by omega, by omega⟩) rfl dX12_byteAt_13 ?_
    refine g_sipush (v := 255) hk dX12_byteAt_14 (by decide) ?_
    have b332l := Int32.le_toInt (A 1 z1.toNatClampNeg)
    have b332h := Int32.toInt_lt (A 1 z1.toNatClampNeg)
    refine g_iand hk dX12_byteAt_17 ?_
    refine g_topi (fun y333 ey333 => ?_)
    have hy333 : 0 ≤ y333.toInt ∧ y333.toInt ≤ 255 := i32_mask 8 ey333 (by decide) (by decide)
    refine g_goto (tgt := 22) hk dX12_byteAt_18 (by decide) ?_
    exact g_iret hk hR rfl (Or.inr (⟨y333, (by omega), (by omega), (by omega), rfl, rfl⟩)) dX12_byteAt_22
def wo_j119_X12_isLetter : List Cond := []
def wz_j119_X12_isLetter : List Cond := .code yX12_isLetter cX12_isLetter 1 (some .boolean) :: (wo_j119_X12_isLetter ++ ([] : List Cond))
theorem zg_j119_X12_isLetter : ∀ w ∈ wz_j119_X12_isLetter, goodWord w = true := zg_cons rfl (zg_app (by decide +kernel) zg_nil)
theorem zi_j119_X12_isLetter : ∀ w ∈ wz_j119_X12_isLetter, w ∈ lw_tbl := zi_cons zw_1575 (zi_app zi_nil zi_nil)
set_option maxHeartbeats 4000000 in
set_option maxRecDepth 100000 in
theorem j119_X12_isLetter (l : Launch) (D : va_G) (zt : Nat × Nat × Nat × (Nat → Nat) × (Nat → Nat)) (r : Nat → Nat) (g : Nat → ClassId) (I : Nat → Int32) (A : Nat → Nat → Int32) (L : Nat → Nat → Int64) (z0 : Int32) (hIv : IvM I A) : GM l D zt (tyM g) yX12_isLetter wz_j119_X12_isLetter ({ frames := 0, cells := 0, slots := 0, locals := 0 } : Room) [.int z0] (wM r g I A L) (fun v _ w' => (v = some (.int 0) ∧ w' = wM r g I A L) ∨ ((¬ (z0.toInt < 97)) ∧ (¬ (122 < z0.toInt)) ∧ (97 ≤ z0.toInt) ∧ (z0.toInt ≤ 122) ∧ v = some (.int 1) ∧ w' = wM r g I A L)) 0 0 := by
  refine GM.of (cc := cX12_isLetter) (maxL := 1) (ret := (some .boolean)) (own := RX12) (lv := [(0, .int z0)]) (by decide) rfl rfl (Nat.le_of_ble_eq_true rfl) rfl (fun κ sz hk hR hN => ?_)
  refine g_iload_n hk dX12_isLetter_0 rfl ?_
  refine g_bipush (v := 97) hk dX12_isLetter_1 (by decide) ?_
  have b341l := Int32.le_toInt z0
  have b341h := Int32.toInt_lt z0
  refine g_icmp_lt (tgt := 16) (a := z0.toInt) (b := 97) hk dX12_isLetter_3 (by decide) rfl rfl (fun c342 => ?_) (fun c342 => ?_)
  · skip
    refine g_iconst (v := 0) hk dX12_isLetter_16 (by decide) ?_
    exact g_iret hk hR rfl (Or.inl ⟨rfl, rfl⟩) dX12_isLetter_17
  · skip
    refine g_iload_n hk dX12_isLetter_6 rfl ?_
    refine g_bipush (v := 122) hk dX12_isLetter_7 (by decide) ?_
    refine g_icmp_gt (tgt := 16) (a := z0.toInt) (b := 122) hk dX12_isLetter_9 (by decide) rfl rfl (fun c343 => ?_) (fun c343 => ?_)
    · skip
      refine g_iconst (v := 0) hk dX12_isLetter_16 (by decide) ?_
      exact g_iret hk hR rfl (Or.inl ⟨rfl, rfl⟩) dX12_isLetter_17
    · skip
      refine g_iconst (v := 1) hk dX12_isLetter_12 (by decide) ?_
      refine g_goto (tgt := 17) hk dX12_isLetter_13 (by decide) ?_
      exact g_iret hk hR rfl (Or.inr (⟨c342, c343, (by omega), (by omega), rfl, rfl⟩)) dX12_isLetter_17
def wo_j120_X12_isDigit : List Cond := []
def wz_j120_X12_isDigit : List Cond := .code yX12_isDigit cX12_isDigit 1 (some .boolean) :: (wo_j120_X12_isDigit ++ ([] : List Cond))
theorem zg_j120_X12_isDigit : ∀ w ∈ wz_j120_X12_isDigit, goodWord w = true := zg_cons rfl (zg_app (by decide +kernel) zg_nil)
theorem zi_j120_X12_isDigit : ∀ w ∈ wz_j120_X12_isDigit, w ∈ lw_tbl := zi_cons zw_1578 (zi_app zi_nil zi_nil)
set_option maxHeartbeats 4000000 in
set_option maxRecDepth 100000 in
theorem j120_X12_isDigit (l : Launch) (D : va_G) (zt : Nat × Nat × Nat × (Nat → Nat) × (Nat → Nat)) (r : Nat → Nat) (g : Nat → ClassId) (I : Nat → Int32) (A : Nat → Nat → Int32) (L : Nat → Nat → Int64) (z0 : Int32) (hIv : IvM I A) : GM l D zt (tyM g) yX12_isDigit wz_j120_X12_isDigit ({ frames := 0, cells := 0, slots := 0, locals := 0 } : Room) [.int z0] (wM r g I A L) (fun v _ w' => (v = some (.int 0) ∧ w' = wM r g I A L) ∨ ((¬ (z0.toInt < 48)) ∧ (¬ (57 < z0.toInt)) ∧ (48 ≤ z0.toInt) ∧ (z0.toInt ≤ 57) ∧ v = some (.int 1) ∧ w' = wM r g I A L)) 0 0 := by
  refine GM.of (cc := cX12_isDigit) (maxL := 1) (ret := (some .boolean)) (own := RX12) (lv := [(0, .int z0)]) (by decide) rfl rfl (Nat.le_of_ble_eq_true rfl) rfl (fun κ sz hk hR hN => ?_)
  refine g_iload_n hk dX12_isDigit_0 rfl ?_
  refine g_bipush (v := 48) hk dX12_isDigit_1 (by decide) ?_
  have b351l := Int32.le_toInt z0
  have b351h := Int32.toInt_lt z0
  refine g_icmp_lt (tgt := 16) (a := z0.toInt) (b := 48) hk dX12_isDigit_3 (by decide) rfl rfl (fun c352 => ?_) (fun c352 => ?_)
  · skip
    refine g_iconst (v := 0) hk dX12_isDigit_16 (by decide) ?_
    exact g_iret hk hR rfl (Or.inl ⟨rfl, rfl⟩) dX12_isDigit_17
  · skip
    refine g_iload_n hk dX12_isDigit_6 rfl ?_
    refine g_bipush (v := 57) hk dX12_isDigit_7 (by decide) ?_
    refine g_icmp_gt (tgt := 16) (a := z0.toInt) (b := 57) hk dX12_isDigit_9 (by decide) rfl rfl (fun c353 => ?_) (fun c353 => ?_)
    · skip
      refine g_iconst (v := 0) hk dX12_isDigit_16 (by decide) ?_
      exact g_iret hk hR rfl (Or.inl ⟨rfl, rfl⟩) dX12_isDigit_17
    · skip
      refine g_iconst (v := 1) hk dX12_isDigit_12 (by decide) ?_
      refine g_goto (tgt := 17) hk dX12_isDigit_13 (by decide) ?_
      exact g_iret hk hR rfl (Or.inr (⟨c352, c353, (by omega), (by omega), rfl, rfl⟩)) dX12_isDigit_17
def wo_j122_X12_token : List Cond := [Cond.fieldLink RX12 20 "WarpDeskModel" "tKind" "[I", Cond.fieldLink RX12 139 "WarpDeskModel" "tokens" "I", Cond.fieldLink RX12 24 "WarpDeskModel" "tPlace" "[I", Cond.fieldLink RX12 27 "WarpDeskModel" "tValue" "[I", Cond.fieldLink RX12 30 "WarpDeskModel" "tName" "[J"]
def wz_j122_X12_token : List Cond := .code yX12_token cX12_token 6 none :: (wo_j122_X12_token ++ (wsX120 ++ ([] : List Cond)))
theorem zg_j122_X12_token : ∀ w ∈ wz_j122_X12_token, goodWord w = true := zg_cons rfl (zg_app (by decide +kernel) (zg_app zgU_wsX120 zg_nil))
theorem zi_j122_X12_token : ∀ w ∈ wz_j122_X12_token, w ∈ lw_tbl := zi_cons zw_1572 (zi_app (zi_cons zw_1384 (zi_cons zw_1389 (zi_cons zw_1385 (zi_cons zw_1386 (zi_cons zw_1387 zi_nil))))) (zi_app inX12 zi_nil))
set_option maxHeartbeats 4000000 in
set_option maxRecDepth 100000 in
theorem j122_X12_token (l : Launch) (D : va_G) (zt : Nat × Nat × Nat × (Nat → Nat) × (Nat → Nat)) (r : Nat → Nat) (g : Nat → ClassId) (I : Nat → Int32) (A : Nat → Nat → Int32) (L : Nat → Nat → Int64) (z1 : Int32) (z2 : Int32) (z3 : Int32) (z4 : Int64) (hIv : IvM I A) (hp0 : (I 3).toInt ≤ 400) : GM l D zt (tyM g) yX12_token wz_j122_X12_token ({ frames := 0, cells := 0, slots := 0, locals := 0 } : Room) [.ref (r 0), .int z1, .int z2, .int z3, .long z4] (wM r g I A L) (fun v _ w' => ∃ (I' : Nat → Int32) (A' : Nat → Nat → Int32) (L' : Nat → Nat → Int64), Md [3] I I' ∧ Md [2, 3, 4] A A' ∧ IvM I' A' ∧ ((I' 3).toInt = (I 3).toInt + 1) ∧ v = none ∧ w' = wM r g I' A' L') 0 0 := by
  refine GM.of (cc := cX12_token) (maxL := 6) (ret := none) (own := RX12) (lv := [(0, .ref (r 0)), (1, .int z1), (2, .int z2), (3, .int z3), (4, .long z4)]) (by decide) rfl rfl (Nat.le_of_ble_eq_true rfl) rfl (fun κ sz hk hR hN => ?_)
  have hin12 : ∀ w ∈ u_ws RX12 TX12 55, w ∈ wz_j122_X12_token := fun w h => (List.mem_cons_of_mem _ (List.mem_append_right _ (List.mem_append_left _ h)))
  refine g_aload_n hk dX12_token_0 rfl ?_
  refine gM_r0_5 hk hin12 (List.mem_cons_of_mem _ (List.mem_append_left _ (List.mem_of_getElem? (i := 0) rfl))) dX12_token_1 ?_
  refine g_aload_n hk dX12_token_4 rfl ?_
  refine gM_i3 (v := (I 3)) hk hin12 (List.mem_cons_of_mem _ (List.mem_append_left _ (List.mem_of_getElem? (i := 1) rfl))) dX12_token_5 rfl ?_
  have f369 := IvM_f3 hIv
  refine g_iload_n hk dX12_token_8 rfl ?_
  refine sM_2 (j := (I 3).toNatClampNeg) hk (vp_in_iff.mpr ⟨by omega, by omega⟩) rfl dX12_token_9 ?_
  refine g_aload_n hk dX12_token_10 rfl ?_
  refine gM_r0_6 hk hin12 (List.mem_cons_of_mem _ (List.mem_append_left _ (List.mem_of_getElem? (i := 2) rfl))) dX12_token_11 ?_
  refine g_aload_n hk dX12_token_14 rfl ?_
  refine gM_i3 (v := (I 3)) hk hin12 (List.mem_cons_of_mem _ (List.mem_append_left _ (List.mem_of_getElem? (i := 1) rfl))) dX12_token_15 rfl ?_
  refine g_iload_n hk dX12_token_18 rfl ?_
  refine sM_3 (j := (I 3).toNatClampNeg) hk (vp_in_iff.mpr ⟨by omega, by omega⟩) rfl dX12_token_19 ?_
  refine g_aload_n hk dX12_token_20 rfl ?_
  refine gM_r0_7 hk hin12 (List.mem_cons_of_mem _ (List.mem_append_left _ (List.mem_of_getElem? (i := 3) rfl))) dX12_token_21 ?_
  refine g_aload_n hk dX12_token_24 rfl ?_
  refine gM_i3 (v := (I 3)) hk hin12 (List.mem_cons_of_mem _ (List.mem_append_left _ (List.mem_of_getElem? (i := 1) rfl))) dX12_token_25 rfl ?_
  refine g_iload_n hk dX12_token_28 rfl ?_
  refine sM_4 (j := (I 3).toNatClampNeg) hk (vp_in_iff.mpr ⟨by omega, by omega⟩) rfl dX12_token_29 ?_
  refine g_aload_n hk dX12_token_30 rfl ?_
  refine gM_r0_8 hk hin12 (List.mem_cons_of_mem _ (List.mem_append_left _ (List.mem_of_getElem? (i := 4) rfl))) dX12_token_31 ?_
  refine g_aload_n hk dX12_token_34 rfl ?_
  refine gM_i3 (v := (I 3)) hk hin12 (List.mem_cons_of_mem _ (List.mem_append_left _ (List.mem_of_getElem? (i := 1) rfl))) dX12_token_35 rfl ?_
  refine g_lload hk dX12_token_38 rfl ?_
  refine sM_5 (j := (I 3).toNatClampNeg) hk (vp_in_iff.mpr ⟨by omega, by omega⟩) rfl dX12_token_40 ?_
  refine g_aload_n hk dX12_token_41 rfl ?_
  refine g_dup hk dX12_token_42 rfl ?_
  refine gM_i3 (v := (I 3)) hk hin12 (List.mem_cons_of_mem _ (List.mem_append_left _ (List.mem_of_getElem? (i := 1) rfl))) dX12_token_43 rfl ?_
  refine g_iconst (v := 1) hk dX12_token_46 (by decide) ?_
  refine g_iadd hk dX12_token_47 ?_
  refine g_topi (fun y370 ey370 => ?_)
  have hy370 : y370.toInt = (I 3).toInt + 1 := i32_add ey370 rfl rfl (by omega) (by omega)
  refine pM_i3 hk hin12 (List.mem_cons_of_mem _ (List.mem_append_left _ (List.mem_of_getElem? (i := 1) rfl))) dX12_token_48 ?_
  exact g_vret hk hR ⟨(upd I 3 y370), (up3 (up3 (up3 A 2 ((I 3).toNatClampNeg) z1) 3 ((I 3).toNatClampNeg) z2) 4 ((I 3).toNatClampNeg) z3), (up3L L 5 ((I 3).toNatClampNeg) z4), (show Md [3] I (upd I 3 y370) from (Md.up Md.rf rfl)), (show Md [2, 3, 4] A (up3 (up3 (up3 A 2 ((I 3).toNatClampNeg) z1) 3 ((I 3).toNatClampNeg) z2) 4 ((I 3).toNatClampNeg) z3) from (Md.up3 (Md.up3 (Md.up3 Md.rf rfl) rfl) rfl)), ⟨(IvM_f1 (I := I) (A := A) hIv), (IvM_f2 (I := I) (A := A) hIv), (show 0 ≤ y370.toInt ∧ y370.toInt ≤ 401 from ⟨by omega, by omega⟩), (IvM_f4 (I := I) (A := A) hIv), (IvM_f6 (I := I) (A := A) hIv), (IvM_f8 (I := I) (A := A) hIv), (IvM_f15 (I := I) (A := A) hIv), (IvM_f16 (I := I) (A := A) hIv), (IvM_f17 (I := I) (A := A) hIv), (IvM_f18 (I := I) (A := A) hIv), (IvM_f22 (I := I) (A := A) hIv), (IvM_f23 (I := I) (A := A) hIv), (IvM_f24 (I := I) (A := A) hIv), (IvM_a11 (I := I) (A := A) hIv), (IvM_a26 (I := I) (A := A) hIv), (IvM_s8_0 (I := I) (A := A) hIv), (IvM_s8_1 (I := I) (A := A) hIv), (IvM_s10_0 (I := I) (A := A) hIv), (IvM_s10_1 (I := I) (A := A) hIv), (IvM_s17_0 (I := I) (A := A) hIv), (IvM_s17_164 (I := I) (A := A) hIv), (IvM_lv (I := I) (A := A) hIv), (IvM_sd (I := I) (A := A) hIv), (IvM_nq (I := I) (A := A) hIv), (IvM_hr (I := I) (A := A) hIv), (IvM_hh (I := I) (A := A) hIv), trivial⟩, (by rw [show ((upd I 3 y370) 3) = y370 from rfl] <;> omega), rfl, rfl⟩ dX12_token_51
def wo_j121_X12_sign : List Cond := [Cond.methodLink RX12 146 yX12_token, Cond.instanceMethod yX12_token, Cond.selects RX12 yX12_token yX12_token, Cond.initialized RX12]
def wz_j121_X12_sign : List Cond := .code yX12_sign cX12_sign 4 (some .int) :: (wo_j121_X12_sign ++ (wz_j122_X12_token ++ ([] : List Cond)))
theorem zg_j121_X12_sign : ∀ w ∈ wz_j121_X12_sign, goodWord w = true := zg_cons rfl (zg_app (by decide +kernel) (zg_app zg_j122_X12_token zg_nil))
theorem zi_j121_X12_sign : ∀ w ∈ wz_j121_X12_sign, w ∈ lw_tbl := zi_cons zw_1582 (zi_app (zi_cons zw_1569 (zi_cons zw_1571 (zi_cons zw_50 (zi_cons zw_115 zi_nil)))) (zi_app zi_j122_X12_token zi_nil))
set_option maxHeartbeats 4000000 in
set_option maxRecDepth 100000 in
theorem j121_X12_sign (l : Launch) (D : va_G) (zt : Nat × Nat × Nat × (Nat → Nat) × (Nat → Nat)) (r : Nat → Nat) (g : Nat → ClassId) (I : Nat → Int32) (A : Nat → Nat → Int32) (L : Nat → Nat → Int64) (z1 : Int32) (z2 : Int32) (z3 : Int32) (hIv : IvM I A) (hp0 : 0 ≤ z1.toInt) (hp1 : z1.toInt ≤ 2000) (hp2 : (I 3).toInt ≤ 400) : GM l D zt (tyM g) yX12_sign wz_j121_X12_sign ({ frames := 1, cells := 0, slots := 0, locals := 25 } : Room) [.ref (r 0), .int z1, .int z2, .int z3] (wM r g I A L) (fun v _ w' => ∃ (I' : Nat → Int32) (A' : Nat → Nat → Int32) (L' : Nat → Nat → Int64), Md [3] I I' ∧ Md [2, 3, 4] A A' ∧ IvM I' A' ∧ ∃ y0 : Int32, ((I' 3).toInt = (I 3).toInt + 1) ∧ (1 ≤ y0.toInt) ∧ (y0.toInt ≤ 1) ∧ v = some (.int y0) ∧ w' = wM r g I' A' L') 0 0 := by
  refine GM.of (cc := cX12_sign) (maxL := 4) (ret := (some .int)) (own := RX12) (lv := [(0, .ref (r 0)), (1, .int z1), (2, .int z2), (3, .int z3)]) (by decide) rfl rfl (Nat.le_of_ble_eq_true rfl) rfl (fun κ sz hk hR hN => ?_)
  refine g_aload_n hk dX12_sign_0 rfl ?_
  refine g_iload_n hk dX12_sign_1 rfl ?_
  refine g_bipush (v := 59) hk dX12_sign_2 (by decide) ?_
  have b366l := Int32.le_toInt z2
  have b366h := Int32.toInt_lt z2
  refine g_icmp_ne (tgt := 11) (a := z2.toInt) (b := 59) hk dX12_sign_4 (by decide) rfl rfl (fun c367 => ?_) (fun c367 => ?_)
  · skip
    refine g_iload_n hk dX12_sign_11 rfl ?_
    refine g_bipush (v := 45) hk dX12_sign_12 (by decide) ?_
    refine g_icmp_ne (tgt := 22) (a := z2.toInt) (b := 45) hk dX12_sign_14 (by decide) rfl rfl (fun c368 => ?_) (fun c368 => ?_)
    · skip
      refine g_iconst (v := 3) hk dX12_sign_22 (by decide) ?_
      refine g_iload_n hk dX12_sign_23 rfl ?_
      refine g_iconst (v := 0) hk dX12_sign_24 (by decide) ?_
      refine g_lconst (v := 0) hk dX12_sign_25 (by decide) ?_
      have k371 : (3 : Int32).toInt = 3 := rfl
      have k372 : (0 : Int32).toInt = 0 := rfl
      have f373 := IvM_f3 hIv
      refine g_callV (n := 4) hk (j122_X12_token l D zt r g I A L 3 z1 0 0 hIv (by omega)) (SP.same _) (fun _ h => h) (gi_V (List.mem_cons_of_mem _ (List.mem_append_left _ (List.mem_of_getElem? (i := 0) rfl))) (List.mem_cons_of_mem _ (List.mem_append_left _ (List.mem_of_getElem? (i := 1) rfl))) (List.mem_cons_of_mem _ (List.mem_append_left _ (List.mem_of_getElem? (i := 2) rfl))) (List.mem_cons_of_mem _ (List.mem_append_left _ (List.mem_of_getElem? (i := 3) rfl))) (gi_sub (fun w h => (List.mem_cons_of_mem _ (List.mem_append_right _ (List.mem_append_left _ h)))) zg_j122_X12_token)) rfl rfl rfl (by decide +kernel) ⟨Nat.le_of_ble_eq_true rfl, Nat.le_of_ble_eq_true rfl⟩ 0 rfl rfl rfl rfl (Nat.le_of_ble_eq_true rfl) ⟨Nat.le_of_ble_eq_true rfl, Nat.le_of_ble_eq_true rfl⟩ dX12_sign_26 (fun v ty' w' hp hk' => ?_)
      obtain ⟨I375, A375, L375, hI375, hA375, hV375, r376, rfl, rfl⟩ := hp
      have f377 := IvM_f3 hV375
      show GW κ 4 0 0 (wM r g I375 A375 L375) 29 [(0, .ref (r 0)), (1, .int z1), (2, .int z2), (3, .int z3)] []
      refine g_iconst (v := 1) hk dX12_sign_29 (by decide) ?_
      exact g_iret hk hR rfl ⟨I375, A375, L375, (show Md [3] I I375 from (Md.tr Md.rf hI375 rfl)), (show Md [2, 3, 4] A A375 from (Md.tr Md.rf hA375 rfl)), hV375, 1, (by omega), (by decide), (by decide), rfl, rfl⟩ dX12_sign_30
    · skip
      refine g_bipush (v := 9) hk dX12_sign_17 (by decide) ?_
      refine g_goto (tgt := 23) hk dX12_sign_19 (by decide) ?_
      refine g_iload_n hk dX12_sign_23 rfl ?_
      refine g_iconst (v := 0) hk dX12_sign_24 (by decide) ?_
      refine g_lconst (v := 0) hk dX12_sign_25 (by decide) ?_
      have k378 : (9 : Int32).toInt = 9 := rfl
      have k379 : (0 : Int32).toInt = 0 := rfl
      have f380 := IvM_f3 hIv
      refine g_callV (n := 4) hk (j122_X12_token l D zt r g I A L 9 z1 0 0 hIv (by omega)) (SP.same _) (fun _ h => h) (gi_V (List.mem_cons_of_mem _ (List.mem_append_left _ (List.mem_of_getElem? (i := 0) rfl))) (List.mem_cons_of_mem _ (List.mem_append_left _ (List.mem_of_getElem? (i := 1) rfl))) (List.mem_cons_of_mem _ (List.mem_append_left _ (List.mem_of_getElem? (i := 2) rfl))) (List.mem_cons_of_mem _ (List.mem_append_left _ (List.mem_of_getElem? (i := 3) rfl))) (gi_sub (fun w h => (List.mem_cons_of_mem _ (List.mem_append_right _ (List.mem_append_left _ h)))) zg_j122_X12_token)) rfl rfl rfl (by decide +kernel) ⟨Nat.le_of_ble_eq_true rfl, Nat.le_of_ble_eq_true rfl⟩ 0 rfl rfl rfl rfl (Nat.le_of_ble_eq_true rfl) ⟨Nat.le_of_ble_eq_true rfl, Nat.le_of_ble_eq_true rfl⟩ dX12_sign_26 (fun v ty' w' hp hk' => ?_)
      obtain ⟨I382, A382, L382, hI382, hA382, hV382, r383, rfl, rfl⟩ := hp
      have f384 := IvM_f3 hV382
      show GW κ 4 0 0 (wM r g I382 A382 L382) 29 [(0, .ref (r 0)), (1, .int z1), (2, .int z2), (3, .int z3)] []
      refine g_iconst (v := 1) hk dX12_sign_29 (by decide) ?_
      exact g_iret hk hR rfl ⟨I382, A382, L382, (show Md [3] I I382 from (Md.tr Md.rf hI382 rfl)), (show Md [2, 3, 4] A A382 from (Md.tr Md.rf hA382 rfl)), hV382, 1, (by omega), (by decide), (by decide), rfl, rfl⟩ dX12_sign_30
  · skip
    refine g_iconst (v := 4) hk dX12_sign_7 (by decide) ?_
    refine g_goto (tgt := 23) hk dX12_sign_8 (by decide) ?_
    refine g_iload_n hk dX12_sign_23 rfl ?_
    refine g_iconst (v := 0) hk dX12_sign_24 (by decide) ?_
    refine g_lconst (v := 0) hk dX12_sign_25 (by decide) ?_
    have k385 : (4 : Int32).toInt = 4 := rfl
    have k386 : (0 : Int32).toInt = 0 := rfl
    have f387 := IvM_f3 hIv
    refine g_callV (n := 4) hk (j122_X12_token l D zt r g I A L 4 z1 0 0 hIv (by omega)) (SP.same _) (fun _ h => h) (gi_V (List.mem_cons_of_mem _ (List.mem_append_left _ (List.mem_of_getElem? (i := 0) rfl))) (List.mem_cons_of_mem _ (List.mem_append_left _ (List.mem_of_getElem? (i := 1) rfl))) (List.mem_cons_of_mem _ (List.mem_append_left _ (List.mem_of_getElem? (i := 2) rfl))) (List.mem_cons_of_mem _ (List.mem_append_left _ (List.mem_of_getElem? (i := 3) rfl))) (gi_sub (fun w h => (List.mem_cons_of_mem _ (List.mem_append_right _ (List.mem_append_left _ h)))) zg_j122_X12_token)) rfl rfl rfl (by decide +kernel) ⟨Nat.le_of_ble_eq_true rfl, Nat.le_of_ble_eq_true rfl⟩ 0 rfl rfl rfl rfl (Nat.le_of_ble_eq_true rfl) ⟨Nat.le_of_ble_eq_true rfl, Nat.le_of_ble_eq_true rfl⟩ dX12_sign_26 (fun v ty' w' hp hk' => ?_)
    obtain ⟨I389, A389, L389, hI389, hA389, hV389, r390, rfl, rfl⟩ := hp
    have f391 := IvM_f3 hV389
    show GW κ 4 0 0 (wM r g I389 A389 L389) 29 [(0, .ref (r 0)), (1, .int z1), (2, .int z2), (3, .int z3)] []
    refine g_iconst (v := 1) hk dX12_sign_29 (by decide) ?_
    exact g_iret hk hR rfl ⟨I389, A389, L389, (show Md [3] I I389 from (Md.tr Md.rf hI389 rfl)), (show Md [2, 3, 4] A A389 from (Md.tr Md.rf hA389 rfl)), hV389, 1, (by omega), (by decide), (by decide), rfl, rfl⟩ dX12_sign_30
def wo_j123_X12_appends : List Cond := [Cond.constantLong RX12 133 (27)]
def wz_j123_X12_appends : List Cond := .code yX12_appends cX12_appends 3 (some .long) :: (wo_j123_X12_appends ++ ([] : List Cond))
theorem zg_j123_X12_appends : ∀ w ∈ wz_j123_X12_appends, goodWord w = true := zg_cons rfl (zg_app (by decide +kernel) zg_nil)
theorem zi_j123_X12_appends : ∀ w ∈ wz_j123_X12_appends, w ∈ lw_tbl := zi_cons zw_1370 (zi_app (zi_cons zw_1371 zi_nil) zi_nil)
set_option maxHeartbeats 4000000 in
set_option maxRecDepth 100000 in
theorem j123_X12_appends (l : Launch) (D : va_G) (zt : Nat × Nat × Nat × (Nat → Nat) × (Nat → Nat)) (r : Nat → Nat) (g : Nat → ClassId) (I : Nat → Int32) (A : Nat → Nat → Int32) (L : Nat → Nat → Int64) (z0 : Int64) (z1 : Int32) (hIv : IvM I A) : GM l D zt (tyM g) yX12_appends wz_j123_X12_appends ({ frames := 0, cells := 0, slots := 0, locals := 0 } : Room) [.long z0, .int z1] (wM r g I A L) (fun v _ w' => ∃ y0 : Int64, v = some (.long y0) ∧ w' = wM r g I A L) 0 0 := by
  refine GM.of (cc := cX12_appends) (maxL := 3) (ret := (some .long)) (own := RX12) (lv := [(0, .long z0), (2, .int z1)]) (by decide) rfl rfl (Nat.le_of_ble_eq_true rfl) rfl (fun κ sz hk hR hN => ?_)
  refine g_iload_n hk dX12_appends_0 rfl ?_
  have b1322l := Int32.le_toInt z1
  have b1322h := Int32.toInt_lt z1
  refine g_if_ne (tgt := 8) (a := z1.toInt) hk dX12_appends_1 (by decide) rfl (fun c1323 => ?_) (fun c1323 => ?_)
  · skip
    refine g_ldc2 (v := 27) hk (List.mem_cons_of_mem _ (List.mem_append_left _ (List.mem_of_getElem? (i := 0) rfl))) dX12_appends_8 ?_
    refine g_lload_n hk dX12_appends_11 rfl ?_
    refine g_lmul hk dX12_appends_12 ?_
    refine g_topl (fun y1324 ey1324 => ?_)
    refine g_iload_n hk dX12_appends_13 rfl ?_
    refine g_bipush (v := 97) hk dX12_appends_14 (by decide) ?_
    refine g_isub hk dX12_appends_16 ?_
    refine g_topi (fun y1325 ey1325 => ?_)
    have hy1325 := i32_sub0 ey1325
    refine g_iconst (v := 1) hk dX12_appends_17 (by decide) ?_
    have b1326l := Int32.le_toInt y1325
    have b1326h := Int32.toInt_lt y1325
    refine g_iadd hk dX12_appends_18 ?_
    refine g_topi (fun y1327 ey1327 => ?_)
    refine g_i2l hk dX12_appends_19 rfl ?_
    refine g_topl (fun y1328 ey1328 => ?_)
    refine g_ladd hk dX12_appends_20 ?_
    refine g_topl (fun y1329 ey1329 => ?_)
    exact g_lret hk hR ⟨y1329, rfl, rfl⟩ dX12_appends_21
  · skip
    refine g_lload_n hk dX12_appends_4 rfl ?_
    refine g_goto (tgt := 21) hk dX12_appends_5 (by decide) ?_
    exact g_lret hk hR ⟨z0, rfl, rfl⟩ dX12_appends_21
def wo_j117_X12_cut : List Cond := [Cond.fieldLink RX12 139 "WarpDeskModel" "tokens" "I", Cond.methodLink RX12 142 yX12_byteAt, Cond.instanceMethod yX12_byteAt, Cond.selects RX12 yX12_byteAt yX12_byteAt, Cond.initialized RX12, Cond.fieldLink RX12 130 "WarpDeskModel" "size" "I", Cond.methodLink RX12 150 yX12_isLetter, Cond.static yX12_isLetter, Cond.methodLink RX12 154 yX12_isDigit, Cond.static yX12_isDigit, Cond.methodLink RX12 157 yX12_sign, Cond.instanceMethod yX12_sign, Cond.selects RX12 yX12_sign yX12_sign, Cond.methodLink RX12 146 yX12_token, Cond.instanceMethod yX12_token, Cond.selects RX12 yX12_token yX12_token, Cond.fieldLink RX12 34 "WarpDeskModel" "keys" "[J", Cond.methodLink RX12 135 yX12_appends, Cond.static yX12_appends]
def wz_j117_X12_cut : List Cond := .code yX12_cut cX12_cut 8 none :: (wo_j117_X12_cut ++ (wsX120 ++ (wz_j118_X12_byteAt ++ (wz_j119_X12_isLetter ++ (wz_j120_X12_isDigit ++ (wz_j121_X12_sign ++ (wz_j122_X12_token ++ (wz_j123_X12_appends ++ ([] : List Cond)))))))))
theorem zg_j117_X12_cut : ∀ w ∈ wz_j117_X12_cut, goodWord w = true := zg_cons rfl (zg_app (by decide +kernel) (zg_app zgU_wsX120 (zg_app zg_j118_X12_byteAt (zg_app zg_j119_X12_isLetter (zg_app zg_j120_X12_isDigit (zg_app zg_j121_X12_sign (zg_app zg_j122_X12_token (zg_app zg_j123_X12_appends zg_nil))))))))
theorem zi_j117_X12_cut : ∀ w ∈ wz_j117_X12_cut, w ∈ lw_tbl := zi_cons zw_1564 (zi_app (zi_cons zw_1389 (zi_cons zw_1565 (zi_cons zw_1567 (zi_cons zw_49 (zi_cons zw_115 (zi_cons zw_1383 (zi_cons zw_1573 (zi_cons zw_1574 (zi_cons zw_1576 (zi_cons zw_1577 (zi_cons zw_1579 (zi_cons zw_1581 (zi_cons zw_51 (zi_cons zw_1569 (zi_cons zw_1571 (zi_cons zw_50 (zi_cons zw_1388 (zi_cons zw_1368 (zi_cons zw_1369 zi_nil))))))))))))))))))) (zi_app inX12 (zi_app zi_j118_X12_byteAt (zi_app zi_j119_X12_isLetter (zi_app zi_j120_X12_isDigit (zi_app zi_j121_X12_sign (zi_app zi_j122_X12_token (zi_app zi_j123_X12_appends zi_nil))))))))
set_option maxHeartbeats 4000000 in
set_option maxRecDepth 100000 in
theorem j117_X12_cut (l : Launch) (D : va_G) (zt : Nat × Nat × Nat × (Nat → Nat) × (Nat → Nat)) (r : Nat → Nat) (g : Nat → ClassId) (I : Nat → Int32) (A : Nat → Nat → Int32) (L : Nat → Nat → Int64) (hIv : IvM I A) : GM l D zt (tyM g) yX12_cut wz_j117_X12_cut ({ frames := 2, cells := 0, slots := 0, locals := 48 } : Room) [.ref (r 0)] (wM r g I A L) (fun v _ w' => ∃ (I' : Nat → Int32) (A' : Nat → Nat → Int32) (L' : Nat → Nat → Int64), Md [3] I I' ∧ Md [2, 3, 4] A A' ∧ IvM I' A' ∧ v = none ∧ w' = wM r g I' A' L') 0 0 := by
  refine GM.of (cc := cX12_cut) (maxL := 8) (ret := none) (own := RX12) (lv := [(0, .ref (r 0))]) (by decide) rfl rfl (Nat.le_of_ble_eq_true rfl) rfl (fun κ sz hk hR hN => ?_)
  have hin12 : ∀ w ∈ u_ws RX12 TX12 55, w ∈ wz_j117_X12_cut := fun w h => (List.mem_cons_of_mem _ (List.mem_append_right _ (List.mem_append_left _ h)))
  refine g_aload_n hk dX12_cut_0 rfl ?_
  refine g_iconst (v := 0) hk dX12_cut_1 (by decide) ?_
  refine pM_i3 hk hin12 (List.mem_cons_of_mem _ (List.mem_append_left _ (List.mem_of_getElem? (i := 0) rfl))) dX12_cut_2 ?_
  refine g_iconst (v := 0) hk dX12_cut_5 (by decide) ?_
  refine g_istore_n (lv' := [(1, .int 0), (0, .ref (r 0))]) hk dX12_cut_6 (by decide) rfl ?_
  have lp3183 : ∀ (n3184 : Nat) (x326 : Int32) (I328 : Nat → Int32) (A328 : Nat → Nat → Int32) (L328 : Nat → Nat → Int64), (Md [3] (upd I 3 0) I328) → (Md [2, 3, 4] A A328) → (IvM I328 A328) → (0 ≤ x326.toInt) → (x326.toInt ≤ 2000) → (2001 - x326.toInt + (402 - (I328 3).toInt) < (n3184 : Int)) → (0 < n3184) → GW κ 8 0 0 (wM r g I328 A328 L328) 7 [(1, .int x326), (0, .ref (r 0))] [] := by
    intro n3184
    induction n3184 with
    | zero =>
      intro x326 I328 A328 L328 hI328 hA328 hV328 h3181 h3182 m3185 m3185z
      exact absurd m3185z (Nat.lt_irrefl 0)
    | succ n3184 ih3186 =>
      intro x326 I328 A328 L328 hI328 hA328 hV328 h3181 h3182 m3185 m3185z
      have f3187 := IvM_f3 hV328
      refine g_aload_n hk dX12_cut_7 rfl ?_
      refine gM_i3 (v := (I328 3)) hk hin12 (List.mem_cons_of_mem _ (List.mem_append_left _ (List.mem_of_getElem? (i := 0) rfl))) dX12_cut_8 rfl ?_
      refine g_sipush (v := 400) hk dX12_cut_11 (by decide) ?_
      refine g_icmp_gt (tgt := 294) (a := (I328 3).toInt) (b := 400) hk dX12_cut_14 (by decide) rfl rfl (fun c3188 => ?_) (fun c3188 => ?_)
      · skip
        exact g_vret hk hR ⟨I328, A328, L328, (show Md [3] I I328 from (Md.tr (Md.up Md.rf rfl) hI328 rfl)), (show Md [2, 3, 4] A A328 from (Md.tr Md.rf hA328 rfl)), hV328, rfl, rfl⟩ dX12_cut_294
      · skip
        refine g_aload_n hk dX12_cut_17 rfl ?_
        refine g_iload_n hk dX12_cut_18 rfl ?_
        refine g_callV (n := 1) hk (j118_X12_byteAt l D zt r g I328 A328 L328 x326 hV328 (by omega)) (SP.same _) (fun _ h => h) (gi_V (List.mem_cons_of_mem _ (List.mem_append_left _ (List.mem_of_getElem? (i := 1) rfl))) (List.mem_cons_of_mem _ (List.mem_append_left _ (List.mem_of_getElem? (i := 2) rfl))) (List.mem_cons_of_mem _ (List.mem_append_left _ (List.mem_of_getElem? (i := 3) rfl))) (List.mem_cons_of_mem _ (List.mem_append_left _ (List.mem_of_getElem? (i := 4) rfl))) (gi_sub (fun w h => (List.mem_cons_of_mem _ (List.mem_append_right _ (List.mem_append_right _ (List.mem_append_left _ h))))) zg_j118_X12_byteAt)) rfl rfl rfl (by decide +kernel) ⟨Nat.le_of_ble_eq_true rfl, Nat.le_of_ble_eq_true rfl⟩ 0 rfl rfl rfl rfl (Nat.le_of_ble_eq_true rfl) ⟨Nat.le_of_ble_eq_true rfl, Nat.le_of_ble_eq_true rfl⟩ dX12_cut_19 (fun v ty' w' hp hk' => ?_)
        rcases hp with ⟨rfl, rfl⟩ | ⟨y3191, c3190, c3192, c3193, rfl, rfl⟩
        · skip
          show GW κ 8 0 0 (wM r g I328 A328 L328) 22 [(1, .int x326), (0, .ref (r 0))] [.int 0]
          refine g_istore_n (lv' := [(2, .int 0), (1, .int x326), (0, .ref (r 0))]) hk dX12_cut_22 (by decide) rfl ?_
          refine g_iload_n hk dX12_cut_23 rfl ?_
          refine g_aload_n hk dX12_cut_24 rfl ?_
          refine gM_i2 (v := (I 2)) hk hin12 (List.mem_cons_of_mem _ (List.mem_append_left _ (List.mem_of_getElem? (i := 5) rfl))) dX12_cut_25 (hI328 2 rfl) ?_
          have f3194 := IvM_f2 hIv
          refine g_icmp_lt (tgt := 43) (a := x326.toInt) (b := (I 2).toInt) hk dX12_cut_28 (by decide) rfl rfl (fun c3195 => ?_) (fun c3195 => ?_)
          · skip
            refine g_iload_n hk dX12_cut_43 rfl ?_
            refine g_bipush (v := 9) hk dX12_cut_44 (by decide) ?_
            refine g_icmp_eq (tgt := 67) (a := 0) (b := 9) hk dX12_cut_46 (by decide) rfl rfl (fun z9 => absurd z9 (show ¬ ((0 : Int) = (9 : Int)) from by decide)) (fun _ => ?_)
            refine g_iload_n hk dX12_cut_49 rfl ?_
            refine g_bipush (v := 10) hk dX12_cut_50 (by decide) ?_
            refine g_icmp_eq (tgt := 67) (a := 0) (b := 10) hk dX12_cut_52 (by decide) rfl rfl (fun z9 => absurd z9 (show ¬ ((0 : Int) = (10 : Int)) from by decide)) (fun _ => ?_)
            refine g_iload_n hk dX12_cut_55 rfl ?_
            refine g_bipush (v := 13) hk dX12_cut_56 (by decide) ?_
            refine g_icmp_eq (tgt := 67) (a := 0) (b := 13) hk dX12_cut_58 (by decide) rfl rfl (fun z9 => absurd z9 (show ¬ ((0 : Int) = (13 : Int)) from by decide)) (fun _ => ?_)
            refine g_iload_n hk dX12_cut_61 rfl ?_
            refine g_bipush (v := 32) hk dX12_cut_62 (by decide) ?_
            refine g_icmp_ne (tgt := 73) (a := 0) (b := 32) hk dX12_cut_64 (by decide) rfl rfl (fun _ => ?_) (fun z9 => absurd (show (0 : Int) ≠ (32 : Int) from by decide) z9)
            refine g_iload_n hk dX12_cut_73 rfl ?_
            have k3196 : (0 : Int32).toInt = 0 := rfl
            refine g_callS (n := 1) hk (j119_X12_isLetter l D zt r g I328 A328 L328 0 hV328) (SP.same _) (fun _ h => h) (gi_S (List.mem_cons_of_mem _ (List.mem_append_left _ (List.mem_of_getElem? (i := 6) rfl))) (List.mem_cons_of_mem _ (List.mem_append_left _ (List.mem_of_getElem? (i := 7) rfl))) (List.mem_cons_of_mem _ (List.mem_append_left _ (List.mem_of_getElem? (i := 4) rfl))) (gi_sub (fun w h => (List.mem_cons_of_mem _ (List.mem_append_right _ (List.mem_append_right _ (List.mem_append_right _ (List.mem_append_left _ h)))))) zg_j119_X12_isLetter)) rfl rfl rfl (by decide +kernel) ⟨Nat.le_of_ble_eq_true rfl, Nat.le_of_ble_eq_true rfl⟩ rfl rfl (Nat.le_of_ble_eq_true rfl) ⟨Nat.le_of_ble_eq_true rfl, Nat.le_of_ble_eq_true rfl⟩ dX12_cut_74 (fun v ty' w' hp hk' => ?_)
            rcases hp with ⟨rfl, rfl⟩ | ⟨c3198, c3199, c3200, c3201, rfl, rfl⟩
            · skip
              show GW κ 8 0 0 (wM r g I328 A328 L328) 77 [(2, .int 0), (1, .int x326), (0, .ref (r 0))] [.int 0]
              refine g_if_eq (tgt := 196) (a := 0) hk dX12_cut_77 (by decide) rfl (fun _ => ?_) (fun z9 => absurd (show (0 : Int) = (0 : Int) from by decide) z9)
              refine g_iload_n hk dX12_cut_196 rfl ?_
              refine g_callS (n := 1) hk (j120_X12_isDigit l D zt r g I328 A328 L328 0 hV328) (SP.same _) (fun _ h => h) (gi_S (List.mem_cons_of_mem _ (List.mem_append_left _ (List.mem_of_getElem? (i := 8) rfl))) (List.mem_cons_of_mem _ (List.mem_append_left _ (List.mem_of_getElem? (i := 9) rfl))) (List.mem_cons_of_mem _ (List.mem_append_left _ (List.mem_of_getElem? (i := 4) rfl))) (gi_sub (fun w h => (List.mem_cons_of_mem _ (List.mem_append_right _ (List.mem_append_right _ (List.mem_append_right _ (List.mem_append_right _ (List.mem_append_left _ h))))))) zg_j120_X12_isDigit)) rfl rfl rfl (by decide +kernel) ⟨Nat.le_of_ble_eq_true rfl, Nat.le_of_ble_eq_true rfl⟩ rfl rfl (Nat.le_of_ble_eq_true rfl) ⟨Nat.le_of_ble_eq_true rfl, Nat.le_of_ble_eq_true rfl⟩ dX12_cut_197 (fun v ty' w' hp hk' => ?_)
              rcases hp with ⟨rfl, rfl⟩ | ⟨c3204, c3205, c3206, c3207, rfl, rfl⟩
              · skip
                show GW κ 8 0 0 (wM r g I328 A328 L328) 200 [(2, .int 0), (1, .int x326), (0, .ref (r 0))] [.int 0]
                refine g_if_eq (tgt := 275) (a := 0) hk dX12_cut_200 (by decide) rfl (fun _ => ?_) (fun z9 => absurd (show (0 : Int) = (0 : Int) from by decide) z9)
                refine g_iload_n hk dX12_cut_275 rfl ?_
                refine g_aload_n hk dX12_cut_276 rfl ?_
                refine g_iload_n hk dX12_cut_277 rfl ?_
                refine g_iload_n hk dX12_cut_278 rfl ?_
                refine g_aload_n hk dX12_cut_279 rfl ?_
                refine g_iload_n hk dX12_cut_280 rfl ?_
                refine g_iconst (v := 1) hk dX12_cut_281 (by decide) ?_
                refine g_iadd hk dX12_cut_282 ?_
                refine g_topi (fun y3209 ey3209 => ?_)
                have hy3209 : y3209.toInt = x326.toInt + 1 := i32_add ey3209 rfl rfl (by omega) (by omega)
                refine g_callV (n := 1) hk (j118_X12_byteAt l D zt r g I328 A328 L328 y3209 hV328 (by omega)) (SP.same _) (fun _ h => h) (gi_V (List.mem_cons_of_mem _ (List.mem_append_left _ (List.mem_of_getElem? (i := 1) rfl))) (List.mem_cons_of_mem _ (List.mem_append_left _ (List.mem_of_getElem? (i := 2) rfl))) (List.mem_cons_of_mem _ (List.mem_append_left _ (List.mem_of_getElem? (i := 3) rfl))) (List.mem_cons_of_mem _ (List.mem_append_left _ (List.mem_of_getElem? (i := 4) rfl))) (gi_sub (fun w h => (List.mem_cons_of_mem _ (List.mem_append_right _ (List.mem_append_right _ (List.mem_append_left _ h))))) zg_j118_X12_byteAt)) rfl rfl rfl (by decide +kernel) ⟨Nat.le_of_ble_eq_true rfl, Nat.le_of_ble_eq_true rfl⟩ 0 rfl rfl rfl rfl (Nat.le_of_ble_eq_true rfl) ⟨Nat.le_of_ble_eq_true rfl, Nat.le_of_ble_eq_true rfl⟩ dX12_cut_283 (fun v ty' w' hp hk' => ?_)
                rcases hp with ⟨rfl, rfl⟩ | ⟨y3212, c3211, c3213, c3214, rfl, rfl⟩
                · skip
                  show GW κ 8 0 0 (wM r g I328 A328 L328) 286 [(2, .int 0), (1, .int x326), (0, .ref (r 0))] [.int 0, .int 0, .int x326, .ref (r 0), .int x326]
                  refine g_callV (n := 3) hk (j121_X12_sign l D zt r g I328 A328 L328 x326 0 0 hV328 (by omega) (by omega) (by omega)) (SP.same _) (fun _ h => h) (gi_V (List.mem_cons_of_mem _ (List.mem_append_left _ (List.mem_of_getElem? (i := 10) rfl))) (List.mem_cons_of_mem _ (List.mem_append_left _ (List.mem_of_getElem? (i := 11) rfl))) (List.mem_cons_of_mem _ (List.mem_append_left _ (List.mem_of_getElem? (i := 12) rfl))) (List.mem_cons_of_mem _ (List.mem_append_left _ (List.mem_of_getElem? (i := 4) rfl))) (gi_sub (fun w h => (List.mem_cons_of_mem _ (List.mem_append_right _ (List.mem_append_right _ (List.mem_append_right _ (List.mem_append_right _ (List.mem_append_right _ (List.mem_append_left _ h)))))))) zg_j121_X12_sign)) rfl rfl rfl (by decide +kernel) ⟨Nat.le_of_ble_eq_true rfl, Nat.le_of_ble_eq_true rfl⟩ 0 rfl rfl rfl rfl (Nat.le_of_ble_eq_true rfl) ⟨Nat.le_of_ble_eq_true rfl, Nat.le_of_ble_eq_true rfl⟩ dX12_cut_286 (fun v ty' w' hp hk' => ?_)
                  obtain ⟨I3218, A3218, L3218, hI3218, hA3218, hV3218, y3215, r3219, c3216, c3217, rfl, rfl⟩ := hp
                  have f3220 := IvM_f3 hV3218
                  show GW κ 8 0 0 (wM r g I3218 A3218 L3218) 289 [(2, .int 0), (1, .int x326), (0, .ref (r 0))] [.int y3215, .int x326]
                  refine g_iadd hk dX12_cut_289 ?_
                  refine g_topi (fun y3221 ey3221 => ?_)
                  have hy3221 : y3221.toInt = x326.toInt + y3215.toInt := i32_add ey3221 rfl rfl (by omega) (by omega)
                  refine g_istore_n (lv' := [(1, .int y3221), (2, .int 0), (0, .ref (r 0))]) hk dX12_cut_290 (by decide) rfl ?_
                  refine g_goto (tgt := 7) hk dX12_cut_291 (by decide) ?_
                  exact g_lv (List.forall_mem_cons.mpr ⟨List.mem_of_getElem? (i := 0) rfl, (List.forall_mem_cons.mpr ⟨List.mem_of_getElem? (i := 2) rfl, (fun _ h => absurd h List.not_mem_nil)⟩)⟩) (ih3186 y3221 I3218 A3218 L3218 (show Md [3] (upd I 3 0) I3218 from Md.tr hI328 (show Md [3] I328 I3218 from (Md.tr Md.rf hI3218 rfl)) rfl) (show Md [2, 3, 4] A A3218 from Md.tr hA328 (show Md [2, 3, 4] A328 A3218 from (Md.tr Md.rf hA3218 rfl)) rfl) hV3218 (by omega) (by omega) (by omega) (by omega))
                · skip
                  show GW κ 8 0 0 (wM r g I328 A328 L328) 286 [(2, .int 0), (1, .int x326), (0, .ref (r 0))] [.int y3212, .int 0, .int x326, .ref (r 0), .int x326]
                  refine g_callV (n := 3) hk (j121_X12_sign l D zt r g I328 A328 L328 x326 0 y3212 hV328 (by omega) (by omega) (by omega)) (SP.same _) (fun _ h => h) (gi_V (List.mem_cons_of_mem _ (List.mem_append_left _ (List.mem_of_getElem? (i := 10) rfl))) (List.mem_cons_of_mem _ (List.mem_append_left _ (List.mem_of_getElem? (i := 11) rfl))) (List.mem_cons_of_mem _ (List.mem_append_left _ (List.mem_of_getElem? (i := 12) rfl))) (List.mem_cons_of_mem _ (List.mem_append_left _ (List.mem_of_getElem? (i := 4) rfl))) (gi_sub (fun w h => (List.mem_cons_of_mem _ (List.mem_append_right _ (List.mem_append_right _ (List.mem_append_right _ (List.mem_append_right _ (List.mem_append_right _ (List.mem_append_left _ h)))))))) zg_j121_X12_sign)) rfl rfl rfl (by decide +kernel) ⟨Nat.le_of_ble_eq_true rfl, Nat.le_of_ble_eq_true rfl⟩ 0 rfl rfl rfl rfl (Nat.le_of_ble_eq_true rfl) ⟨Nat.le_of_ble_eq_true rfl, Nat.le_of_ble_eq_true rfl⟩ dX12_cut_286 (fun v ty' w' hp hk' => ?_)
                  obtain ⟨I3225, A3225, L3225, hI3225, hA3225, hV3225, y3222, r3226, c3223, c3224, rfl, rfl⟩ := hp
                  have f3227 := IvM_f3 hV3225
                  show GW κ 8 0 0 (wM r g I3225 A3225 L3225) 289 [(2, .int 0), (1, .int x326), (0, .ref (r 0))] [.int y3222, .int x326]
                  refine g_iadd hk dX12_cut_289 ?_
                  refine g_topi (fun y3228 ey3228 => ?_)
                  have hy3228 : y3228.toInt = x326.toInt + y3222.toInt := i32_add ey3228 rfl rfl (by omega) (by omega)
                  refine g_istore_n (lv' := [(1, .int y3228), (2, .int 0), (0, .ref (r 0))]) hk dX12_cut_290 (by decide) rfl ?_
                  refine g_goto (tgt := 7) hk dX12_cut_291 (by decide) ?_
                  exact g_lv (List.forall_mem_cons.mpr ⟨List.mem_of_getElem? (i := 0) rfl, (List.forall_mem_cons.mpr ⟨List.mem_of_getElem? (i := 2) rfl, (fun _ h => absurd h List.not_mem_nil)⟩)⟩) (ih3186 y3228 I3225 A3225 L3225 (show Md [3] (upd I 3 0) I3225 from Md.tr hI328 (show Md [3] I328 I3225 from (Md.tr Md.rf hI3225 rfl)) rfl) (show Md [2, 3, 4] A A3225 from Md.tr hA328 (show Md [2, 3, 4] A328 A3225 from (Md.tr Md.rf hA3225 rfl)) rfl) hV3225 (by omega) (by omega) (by omega) (by omega))
              · skip
                show GW κ 8 0 0 (wM r g I328 A328 L328) 200 [(2, .int 0), (1, .int x326), (0, .ref (r 0))] [.int 1]
                exfalso; omega
            · skip
              show GW κ 8 0 0 (wM r g I328 A328 L328) 77 [(2, .int 0), (1, .int x326), (0, .ref (r 0))] [.int 1]
              exfalso; omega
          · skip
            refine g_aload_n hk dX12_cut_31 rfl ?_
            refine g_iconst (v := 0) hk dX12_cut_32 (by decide) ?_
            refine g_aload_n hk dX12_cut_33 rfl ?_
            refine gM_i2 (v := (I 2)) hk hin12 (List.mem_cons_of_mem _ (List.mem_append_left _ (List.mem_of_getElem? (i := 5) rfl))) dX12_cut_34 (hI328 2 rfl) ?_
            refine g_iconst (v := 0) hk dX12_cut_37 (by decide) ?_
            refine g_lconst (v := 0) hk dX12_cut_38 (by decide) ?_
            have k3229 : (0 : Int32).toInt = 0 := rfl
            refine g_callV (n := 4) hk (j122_X12_token l D zt r g I328 A328 L328 0 (I 2) 0 0 hV328 (by omega)) (SP.same _) (fun _ h => h) (gi_V (List.mem_cons_of_mem _ (List.mem_append_left _ (List.mem_of_getElem? (i := 13) rfl))) (List.mem_cons_of_mem _ (List.mem_append_left _ (List.mem_of_getElem? (i := 14) rfl))) (List.mem_cons_of_mem _ (List.mem_append_left _ (List.mem_of_getElem? (i := 15) rfl))) (List.mem_cons_of_mem _ (List.mem_append_left _ (List.mem_of_getElem? (i := 4) rfl))) (gi_sub (fun w h => (List.mem_cons_of_mem _ (List.mem_append_right _ (List.mem_append_right _ (List.mem_append_right _ (List.mem_append_right _ (List.mem_append_right _ (List.mem_append_right _ (List.mem_append_left _ h))))))))) zg_j122_X12_token)) rfl rfl rfl (by decide +kernel) ⟨Nat.le_of_ble_eq_true rfl, Nat.le_of_ble_eq_true rfl⟩ 0 rfl rfl rfl rfl (Nat.le_of_ble_eq_true rfl) ⟨Nat.le_of_ble_eq_true rfl, Nat.le_of_ble_eq_true rfl⟩ dX12_cut_39 (fun v ty' w' hp hk' => ?_)
            obtain ⟨I3231, A3231, L3231, hI3231, hA3231, hV3231, r3232, rfl, rfl⟩ := hp
            have f3233 := IvM_f3 hV3231
            show GW κ 8 0 0 (wM r g I3231 A3231 L3231) 42 [(2, .int 0), (1, .int x326), (0, .ref (r 0))] []
            exact g_vret hk hR ⟨I3231, A3231, L3231, (show Md [3] I I3231 from (Md.tr (Md.tr (Md.up Md.rf rfl) hI328 rfl) hI3231 rfl)), (show Md [2, 3, 4] A A3231 from (Md.tr (Md.tr Md.rf hA328 rfl) hA3231 rfl)), hV3231, rfl, rfl⟩ dX12_cut_42
        · skip
          show GW κ 8 0 0 (wM r g I328 A328 L328) 22 [(1, .int x326), (0, .ref (r 0))] [.int y3191]
          refine g_istore_n (lv' := [(2, .int y3191), (1, .int x326), (0, .ref (r 0))]) hk dX12_cut_22 (by decide) rfl ?_
          refine g_iload_n hk dX12_cut_23 rfl ?_
          refine g_aload_n hk dX12_cut_24 rfl ?_
          refine gM_i2 (v := (I 2)) hk hin12 (List.mem_cons_of_mem _ (List.mem_append_left _ (List.mem_of_getElem? (i := 5) rfl))) dX12_cut_25 (hI328 2 rfl) ?_
          have f3234 := IvM_f2 hIv
          refine g_icmp_lt (tgt := 43) (a := x326.toInt) (b := (I 2).toInt) hk dX12_cut_28 (by decide) rfl rfl (fun c3235 => ?_) (fun c3235 => ?_)
          · skip
            refine g_iload_n hk dX12_cut_43 rfl ?_
            refine g_bipush (v := 9) hk dX12_cut_44 (by decide) ?_
            refine g_icmp_eq (tgt := 67) (a := y3191.toInt) (b := 9) hk dX12_cut_46 (by decide) rfl rfl (fun c3236 => ?_) (fun c3236 => ?_)
            · skip
              obtain ⟨y3237, ey3237⟩ : ∃ y : Int32, y = x326 + Int32.ofInt 1 := ⟨_, rfl⟩
              have hy3237 : y3237.toInt = x326.toInt + 1 := i32_add ey3237 rfl (by decide) (by omega) (by omega)
              refine g_iinc (v := y3237) (lv' := [(1, .int y3237), (2, .int y3191), (0, .ref (r 0))]) hk 1 dX12_cut_67 rfl ey3237.symm (by decide) rfl ?_
              refine g_goto (tgt := 291) hk dX12_cut_70 (by decide) ?_
              refine g_goto (tgt := 7) hk dX12_cut_291 (by decide) ?_
              exact g_lv (List.forall_mem_cons.mpr ⟨List.mem_of_getElem? (i := 0) rfl, (List.forall_mem_cons.mpr ⟨List.mem_of_getElem? (i := 2) rfl, (fun _ h => absurd h List.not_mem_nil)⟩)⟩) (ih3186 y3237 I328 A328 L328 (show Md [3] (upd I 3 0) I328 from Md.tr hI328 (show Md [3] I328 I328 from Md.rf) rfl) (show Md [2, 3, 4] A A328 from Md.tr hA328 (show Md [2, 3, 4] A328 A328 from Md.rf) rfl) hV328 (by omega) (by omega) (by omega) (by omega))
            · skip
              refine g_iload_n hk dX12_cut_49 rfl ?_
              refine g_bipush (v := 10) hk dX12_cut_50 (by decide) ?_
              refine g_icmp_eq (tgt := 67) (a := y3191.toInt) (b := 10) hk dX12_cut_52 (by decide) rfl rfl (fun c3238 => ?_) (fun c3238 => ?_)
              · skip
                obtain ⟨y3239, ey3239⟩ : ∃ y : Int32, y = x326 + Int32.ofInt 1 := ⟨_, rfl⟩
                have hy3239 : y3239.toInt = x326.toInt + 1 := i32_add ey3239 rfl (by decide) (by omega) (by omega)
                refine g_iinc (v := y3239) (lv' := [(1, .int y3239), (2, .int y3191), (0, .ref (r 0))]) hk 1 dX12_cut_67 rfl ey3239.symm (by decide) rfl ?_
                refine g_goto (tgt := 291) hk dX12_cut_70 (by decide) ?_
                refine g_goto (tgt := 7) hk dX12_cut_291 (by decide) ?_
                exact g_lv (List.forall_mem_cons.mpr ⟨List.mem_of_getElem? (i := 0) rfl, (List.forall_mem_cons.mpr ⟨List.mem_of_getElem? (i := 2) rfl, (fun _ h => absurd h List.not_mem_nil)⟩)⟩) (ih3186 y3239 I328 A328 L328 (show Md [3] (upd I 3 0) I328 from Md.tr hI328 (show Md [3] I328 I328 from Md.rf) rfl) (show Md [2, 3, 4] A A328 from Md.tr hA328 (show Md [2, 3, 4] A328 A328 from Md.rf) rfl) hV328 (by omega) (by omega) (by omega) (by omega))
              · skip
                refine g_iload_n hk dX12_cut_55 rfl ?_
                refine g_bipush (v := 13) hk dX12_cut_56 (by decide) ?_
                refine g_icmp_eq (tgt := 67) (a := y3191.toInt) (b := 13) hk dX12_cut_58 (by decide) rfl rfl (fun c3240 => ?_) (fun c3240 => ?_)
                · skip
                  obtain ⟨y3241, ey3241⟩ : ∃ y : Int32, y = x326 + Int32.ofInt 1 := ⟨_, rfl⟩
                  have hy3241 : y3241.toInt = x326.toInt + 1 := i32_add ey3241 rfl (by decide) (by omega) (by omega)
                  refine g_iinc (v := y3241) (lv' := [(1, .int y3241), (2, .int y3191), (0, .ref (r 0))]) hk 1 dX12_cut_67 rfl ey3241.symm (by decide) rfl ?_
                  refine g_goto (tgt := 291) hk dX12_cut_70 (by decide) ?_
                  refine g_goto (tgt := 7) hk dX12_cut_291 (by decide) ?_
                  exact g_lv (List.forall_mem_cons.mpr ⟨List.mem_of_getElem? (i := 0) rfl, (List.forall_mem_cons.mpr ⟨List.mem_of_getElem? (i := 2) rfl, (fun _ h => absurd h List.not_mem_nil)⟩)⟩) (ih3186 y3241 I328 A328 L328 (show Md [3] (upd I 3 0) I328 from Md.tr hI328 (show Md [3] I328 I328 from Md.rf) rfl) (show Md [2, 3, 4] A A328 from Md.tr hA328 (show Md [2, 3, 4] A328 A328 from Md.rf) rfl) hV328 (by omega) (by omega) (by omega) (by omega))
                · skip
                  refine g_iload_n hk dX12_cut_61 rfl ?_
                  refine g_bipush (v := 32) hk dX12_cut_62 (by decide) ?_
                  refine g_icmp_ne (tgt := 73) (a := y3191.toInt) (b := 32) hk dX12_cut_64 (by decide) rfl rfl (fun c3242 => ?_) (fun c3242 => ?_)
                  · skip
                    refine g_iload_n hk dX12_cut_73 rfl ?_
                    refine g_callS (n := 1) hk (j119_X12_isLetter l D zt r g I328 A328 L328 y3191 hV328) (SP.same _) (fun _ h => h) (gi_S (List.mem_cons_of_mem _ (List.mem_append_left _ (List.mem_of_getElem? (i := 6) rfl))) (List.mem_cons_of_mem _ (List.mem_append_left _ (List.mem_of_getElem? (i := 7) rfl))) (List.mem_cons_of_mem _ (List.mem_append_left _ (List.mem_of_getElem? (i := 4) rfl))) (gi_sub (fun w h => (List.mem_cons_of_mem _ (List.mem_append_right _ (List.mem_append_right _ (List.mem_append_right _ (List.mem_append_left _ h)))))) zg_j119_X12_isLetter)) rfl rfl rfl (by decide +kernel) ⟨Nat.le_of_ble_eq_true rfl, Nat.le_of_ble_eq_true rfl⟩ rfl rfl (Nat.le_of_ble_eq_true rfl) ⟨Nat.le_of_ble_eq_true rfl, Nat.le_of_ble_eq_true rfl⟩ dX12_cut_74 (fun v ty' w' hp hk' => ?_)
                    rcases hp with ⟨rfl, rfl⟩ | ⟨c3244, c3245, c3246, c3247, rfl, rfl⟩
                    · skip
                      show GW κ 8 0 0 (wM r g I328 A328 L328) 77 [(2, .int y3191), (1, .int x326), (0, .ref (r 0))] [.int 0]
                      refine g_if_eq (tgt := 196) (a := 0) hk dX12_cut_77 (by decide) rfl (fun _ => ?_) (fun z9 => absurd (show (0 : Int) = (0 : Int) from by decide) z9)
                      refine g_iload_n hk dX12_cut_196 rfl ?_
                      refine g_callS (n := 1) hk (j120_X12_isDigit l D zt r g I328 A328 L328 y3191 hV328) (SP.same _) (fun _ h => h) (gi_S (List.mem_cons_of_mem _ (List.mem_append_left _ (List.mem_of_getElem? (i := 8) rfl))) (List.mem_cons_of_mem _ (List.mem_append_left _ (List.mem_of_getElem? (i := 9) rfl))) (List.mem_cons_of_mem _ (List.mem_append_left _ (List.mem_of_getElem? (i := 4) rfl))) (gi_sub (fun w h => (List.mem_cons_of_mem _ (List.mem_append_right _ (List.mem_append_right _ (List.mem_append_right _ (List.mem_append_right _ (List.mem_append_left _ h))))))) zg_j120_X12_isDigit)) rfl rfl rfl (by decide +kernel) ⟨Nat.le_of_ble_eq_true rfl, Nat.le_of_ble_eq_true rfl⟩ rfl rfl (Nat.le_of_ble_eq_true rfl) ⟨Nat.le_of_ble_eq_true rfl, Nat.le_of_ble_eq_true rfl⟩ dX12_cut_197 (fun v ty' w' hp hk' => ?_)
                      rcases hp with ⟨rfl, rfl⟩ | ⟨c3250, c3251, c3252, c3253, rfl, rfl⟩
                      · skip
                        show GW κ 8 0 0 (wM r g I328 A328 L328) 200 [(2, .int y3191), (1, .int x326), (0, .ref (r 0))] [.int 0]
                        refine g_if_eq (tgt := 275) (a := 0) hk dX12_cut_200 (by decide) rfl (fun _ => ?_) (fun z9 => absurd (show (0 : Int) = (0 : Int) from by decide) z9)
                        refine g_iload_n hk dX12_cut_275 rfl ?_
                        refine g_aload_n hk dX12_cut_276 rfl ?_
                        refine g_iload_n hk dX12_cut_277 rfl ?_
                        refine g_iload_n hk dX12_cut_278 rfl ?_
                        refine g_aload_n hk dX12_cut_279 rfl ?_
                        refine g_iload_n hk dX12_cut_280 rfl ?_
                        refine g_iconst (v := 1) hk dX12_cut_281 (by decide) ?_
                        refine g_iadd hk dX12_cut_282 ?_
                        refine g_topi (fun y3255 ey3255 => ?_)
                        have hy3255 : y3255.toInt = x326.toInt + 1 := i32_add ey3255 rfl rfl (by omega) (by omega)
                        refine g_callV (n := 1) hk (j118_X12_byteAt l D zt r g I328 A328 L328 y3255 hV328 (by omega)) (SP.same _) (fun _ h => h) (gi_V (List.mem_cons_of_mem _ (List.mem_append_left _ (List.mem_of_getElem? (i := 1) rfl))) (List.mem_cons_of_mem _ (List.mem_append_left _ (List.mem_of_getElem? (i := 2) rfl))) (List.mem_cons_of_mem _ (List.mem_append_left _ (List.mem_of_getElem? (i := 3) rfl))) (List.mem_cons_of_mem _ (List.mem_append_left _ (List.mem_of_getElem? (i := 4) rfl))) (gi_sub (fun w h => (List.mem_cons_of_mem _ (List.mem_append_right _ (List.mem_append_right _ (List.mem_append_left _ h))))) zg_j118_X12_byteAt)) rfl rfl rfl (by decide +kernel) ⟨Nat.le_of_ble_eq_true rfl, Nat.le_of_ble_eq_true rfl⟩ 0 rfl rfl rfl rfl (Nat.le_of_ble_eq_true rfl) ⟨Nat.le_of_ble_eq_true rfl, Nat.le_of_ble_eq_true rfl⟩ dX12_cut_283 (fun v ty' w' hp hk' => ?_)
                        rcases hp with ⟨rfl, rfl⟩ | ⟨y3258, c3257, c3259, c3260, rfl, rfl⟩
                        · skip
                          show GW κ 8 0 0 (wM r g I328 A328 L328) 286 [(2, .int y3191), (1, .int x326), (0, .ref (r 0))] [.int 0, .int y3191, .int x326, .ref (r 0), .int x326]
                          have k3261 : (0 : Int32).toInt = 0 := rfl
                          refine g_callV (n := 3) hk (j121_X12_sign l D zt r g I328 A328 L328 x326 y3191 0 hV328 (by omega) (by omega) (by omega)) (SP.same _) (fun _ h => h) (gi_V (List.mem_cons_of_mem _ (List.mem_append_left _ (List.mem_of_getElem? (i := 10) rfl))) (List.mem_cons_of_mem _ (List.mem_append_left _ (List.mem_of_getElem? (i := 11) rfl))) (List.mem_cons_of_mem _ (List.mem_append_left _ (List.mem_of_getElem? (i := 12) rfl))) (List.mem_cons_of_mem _ (List.mem_append_left _ (List.mem_of_getElem? (i := 4) rfl))) (gi_sub (fun w h => (List.mem_cons_of_mem _ (List.mem_append_right _ (List.mem_append_right _ (List.mem_append_right _ (List.mem_append_right _ (List.mem_append_right _ (List.mem_append_left _ h)))))))) zg_j121_X12_sign)) rfl rfl rfl (by decide +kernel) ⟨Nat.le_of_ble_eq_true rfl, Nat.le_of_ble_eq_true rfl⟩ 0 rfl rfl rfl rfl (Nat.le_of_ble_eq_true rfl) ⟨Nat.le_of_ble_eq_true rfl, Nat.le_of_ble_eq_true rfl⟩ dX12_cut_286 (fun v ty' w' hp hk' => ?_)
                          obtain ⟨I3265, A3265, L3265, hI3265, hA3265, hV3265, y3262, r3266, c3263, c3264, rfl, rfl⟩ := hp
                          have f3267 := IvM_f3 hV3265
                          show GW κ 8 0 0 (wM r g I3265 A3265 L3265) 289 [(2, .int y3191), (1, .int x326), (0, .ref (r 0))] [.int y3262, .int x326]
                          refine g_iadd hk dX12_cut_289 ?_
                          refine g_topi (fun y3268 ey3268 => ?_)
                          have hy3268 : y3268.toInt = x326.toInt + y3262.toInt := i32_add ey3268 rfl rfl (by omega) (by omega)
                          refine g_istore_n (lv' := [(1, .int y3268), (2, .int y3191), (0, .ref (r 0))]) hk dX12_cut_290 (by decide) rfl ?_
                          refine g_goto (tgt := 7) hk dX12_cut_291 (by decide) ?_
                          exact g_lv (List.forall_mem_cons.mpr ⟨List.mem_of_getElem? (i := 0) rfl, (List.forall_mem_cons.mpr ⟨List.mem_of_getElem? (i := 2) rfl, (fun _ h => absurd h List.not_mem_nil)⟩)⟩) (ih3186 y3268 I3265 A3265 L3265 (show Md [3] (upd I 3 0) I3265 from Md.tr hI328 (show Md [3] I328 I3265 from (Md.tr Md.rf hI3265 rfl)) rfl) (show Md [2, 3, 4] A A3265 from Md.tr hA328 (show Md [2, 3, 4] A328 A3265 from (Md.tr Md.rf hA3265 rfl)) rfl) hV3265 (by omega) (by omega) (by omega) (by omega))
                        · skip
                          show GW κ 8 0 0 (wM r g I328 A328 L328) 286 [(2, .int y3191), (1, .int x326), (0, .ref (r 0))] [.int y3258, .int y3191, .int x326, .ref (r 0), .int x326]
                          refine g_callV (n := 3) hk (j121_X12_sign l D zt r g I328 A328 L328 x326 y3191 y3258 hV328 (by omega) (by omega) (by omega)) (SP.same _) (fun _ h => h) (gi_V (List.mem_cons_of_mem _ (List.mem_append_left _ (List.mem_of_getElem? (i := 10) rfl))) (List.mem_cons_of_mem _ (List.mem_append_left _ (List.mem_of_getElem? (i := 11) rfl))) (List.mem_cons_of_mem _ (List.mem_append_left _ (List.mem_of_getElem? (i := 12) rfl))) (List.mem_cons_of_mem _ (List.mem_append_left _ (List.mem_of_getElem? (i := 4) rfl))) (gi_sub (fun w h => (List.mem_cons_of_mem _ (List.mem_append_right _ (List.mem_append_right _ (List.mem_append_right _ (List.mem_append_right _ (List.mem_append_right _ (List.mem_append_left _ h)))))))) zg_j121_X12_sign)) rfl rfl rfl (by decide +kernel) ⟨Nat.le_of_ble_eq_true rfl, Nat.le_of_ble_eq_true rfl⟩ 0 rfl rfl rfl rfl (Nat.le_of_ble_eq_true rfl) ⟨Nat.le_of_ble_eq_true rfl, Nat.le_of_ble_eq_true rfl⟩ dX12_cut_286 (fun v ty' w' hp hk' => ?_)
                          obtain ⟨I3272, A3272, L3272, hI3272, hA3272, hV3272, y3269, r3273, c3270, c3271, rfl, rfl⟩ := hp
                          have f3274 := IvM_f3 hV3272
                          show GW κ 8 0 0 (wM r g I3272 A3272 L3272) 289 [(2, .int y3191), (1, .int x326), (0, .ref (r 0))] [.int y3269, .int x326]
                          refine g_iadd hk dX12_cut_289 ?_
                          refine g_topi (fun y3275 ey3275 => ?_)
                          have hy3275 : y3275.toInt = x326.toInt + y3269.toInt := i32_add ey3275 rfl rfl (by omega) (by omega)
                          refine g_istore_n (lv' := [(1, .int y3275), (2, .int y3191), (0, .ref (r 0))]) hk dX12_cut_290 (by decide) rfl ?_
                          refine g_goto (tgt := 7) hk dX12_cut_291 (by decide) ?_
                          exact g_lv (List.forall_mem_cons.mpr ⟨List.mem_of_getElem? (i := 0) rfl, (List.forall_mem_cons.mpr ⟨List.mem_of_getElem? (i := 2) rfl, (fun _ h => absurd h List.not_mem_nil)⟩)⟩) (ih3186 y3275 I3272 A3272 L3272 (show Md [3] (upd I 3 0) I3272 from Md.tr hI328 (show Md [3] I328 I3272 from (Md.tr Md.rf hI3272 rfl)) rfl) (show Md [2, 3, 4] A A3272 from Md.tr hA328 (show Md [2, 3, 4] A328 A3272 from (Md.tr Md.rf hA3272 rfl)) rfl) hV3272 (by omega) (by omega) (by omega) (by omega))
                      · skip
                        show GW κ 8 0 0 (wM r g I328 A328 L328) 200 [(2, .int y3191), (1, .int x326), (0, .ref (r 0))] [.int 1]
                        refine g_if_eq (tgt := 275) (a := 1) hk dX12_cut_200 (by decide) rfl (fun z9 => absurd z9 (show ¬ ((1 : Int) = (0 : Int)) from by decide)) (fun _ => ?_)
                        refine g_iconst (v := 0) hk dX12_cut_203 (by decide) ?_
                        refine g_istore_n (lv' := [(3, .int 0), (2, .int y3191), (1, .int x326), (0, .ref (r 0))]) hk dX12_cut_204 (by decide) rfl ?_
                        refine g_iconst (v := 0) hk dX12_cut_205 (by decide) ?_
                        refine g_istore (lv' := [(4, .int 0), (3, .int 0), (2, .int y3191), (1, .int x326), (0, .ref (r 0))]) hk dX12_cut_206 (by decide) rfl ?_
                        have lp3833 : ∀ (n3834 : Nat) (x3276 : Int32) (x3277 : Int32), (0 ≤ x3277.toInt) → (x3277.toInt ≤ 2000) → (x326.toInt + x3277.toInt ≤ 2000) → (2001 - x326.toInt - x3277.toInt < (n3834 : Int)) → (0 < n3834) → GW κ 8 0 0 (wM r g I328 A328 L328) 208 [(4, .int x3276), (3, .int x3277), (2, .int y3191), (1, .int x326), (0, .ref (r 0))] [] := by
                          intro n3834
                          induction n3834 with
                          | zero =>
                            intro x3276 x3277 h3830 h3831 h3832 m3835 m3835z
                            exact absurd m3835z (Nat.lt_irrefl 0)
                          | succ n3834 ih3836 =>
                            intro x3276 x3277 h3830 h3831 h3832 m3835 m3835z
                            refine g_aload_n hk dX12_cut_208 rfl ?_
                            refine g_iload_n hk dX12_cut_209 rfl ?_
                            refine g_iload_n hk dX12_cut_210 rfl ?_
                            refine g_iadd hk dX12_cut_211 ?_
                            refine g_topi (fun y3837 ey3837 => ?_)
                            have hy3837 : y3837.toInt = x326.toInt + x3277.toInt := i32_add ey3837 rfl rfl (by omega) (by omega)
                            refine g_callV (n := 1) hk (j118_X12_byteAt l D zt r g I328 A328 L328 y3837 hV328 (by omega)) (SP.same _) (fun _ h => h) (gi_V (List.mem_cons_of_mem _ (List.mem_append_left _ (List.mem_of_getElem? (i := 1) rfl))) (List.mem_cons_of_mem _ (List.mem_append_left _ (List.mem_of_getElem? (i := 2) rfl))) (List.mem_cons_of_mem _ (List.mem_append_left _ (List.mem_of_getElem? (i := 3) rfl))) (List.mem_cons_of_mem _ (List.mem_append_left _ (List.mem_of_getElem? (i := 4) rfl))) (gi_sub (fun w h => (List.mem_cons_of_mem _ (List.mem_append_right _ (List.mem_append_right _ (List.mem_append_left _ h))))) zg_j118_X12_byteAt)) rfl rfl rfl (by decide +kernel) ⟨Nat.le_of_ble_eq_true rfl, Nat.le_of_ble_eq_true rfl⟩ 0 rfl rfl rfl rfl (Nat.le_of_ble_eq_true rfl) ⟨Nat.le_of_ble_eq_true rfl, Nat.le_of_ble_eq_true rfl⟩ dX12_cut_212 (fun v ty' w' hp hk' => ?_)
                            rcases hp with ⟨rfl, rfl⟩ | ⟨y3840, c3839, c3841, c3842, rfl, rfl⟩
                            · skip
                              show GW κ 8 0 0 (wM r g I328 A328 L328) 215 [(4, .int x3276), (3, .int x3277), (2, .int y3191), (1, .int x326), (0, .ref (r 0))] [.int 0]
                              have k3843 : (0 : Int32).toInt = 0 := rfl
                              refine g_callS (n := 1) hk (j120_X12_isDigit l D zt r g I328 A328 L328 0 hV328) (SP.same _) (fun _ h => h) (gi_S (List.mem_cons_of_mem _ (List.mem_append_left _ (List.mem_of_getElem? (i := 8) rfl))) (List.mem_cons_of_mem _ (List.mem_append_left _ (List.mem_of_getElem? (i := 9) rfl))) (List.mem_cons_of_mem _ (List.mem_append_left _ (List.mem_of_getElem? (i := 4) rfl))) (gi_sub (fun w h => (List.mem_cons_of_mem _ (List.mem_append_right _ (List.mem_append_right _ (List.mem_append_right _ (List.mem_append_right _ (List.mem_append_left _ h))))))) zg_j120_X12_isDigit)) rfl rfl rfl (by decide +kernel) ⟨Nat.le_of_ble_eq_true rfl, Nat.le_of_ble_eq_true rfl⟩ rfl rfl (Nat.le_of_ble_eq_true rfl) ⟨Nat.le_of_ble_eq_true rfl, Nat.le_of_ble_eq_true rfl⟩ dX12_cut_215 (fun v ty' w' hp hk' => ?_)
                              rcases hp with ⟨rfl, rfl⟩ | ⟨c3845, c3846, c3847, c3848, rfl, rfl⟩
                              · skip
                                show GW κ 8 0 0 (wM r g I328 A328 L328) 218 [(4, .int x3276), (3, .int x3277), (2, .int y3191), (1, .int x326), (0, .ref (r 0))] [.int 0]
                                refine g_if_eq (tgt := 250) (a := 0) hk dX12_cut_218 (by decide) rfl (fun _ => ?_) (fun z9 => absurd (show (0 : Int) = (0 : Int) from by decide) z9)
                                refine g_aload_n hk dX12_cut_250 rfl ?_
                                refine g_iload_n hk dX12_cut_251 rfl ?_
                                refine g_iconst (v := 4) hk dX12_cut_252 (by decide) ?_
                                refine g_icmp_le (tgt := 260) (a := x3277.toInt) (b := 4) hk dX12_cut_253 (by decide) rfl rfl (fun c3850 => ?_) (fun c3850 => ?_)
                                · skip
                                  refine g_iconst (v := 2) hk dX12_cut_260 (by decide) ?_
                                  refine g_iload_n hk dX12_cut_261 rfl ?_
                                  refine g_iload hk dX12_cut_262 rfl ?_
                                  refine g_lconst (v := 0) hk dX12_cut_264 (by decide) ?_
                                  have k3851 : (2 : Int32).toInt = 2 := rfl
                                  refine g_callV (n := 4) hk (j122_X12_token l D zt r g I328 A328 L328 2 x326 x3276 0 hV328 (by omega)) (SP.same _) (fun _ h => h) (gi_V (List.mem_cons_of_mem _ (List.mem_append_left _ (List.mem_of_getElem? (i := 13) rfl))) (List.mem_cons_of_mem _ (List.mem_append_left _ (List.mem_of_getElem? (i := 14) rfl))) (List.mem_cons_of_mem _ (List.mem_append_left _ (List.mem_of_getElem? (i := 15) rfl))) (List.mem_cons_of_mem _ (List.mem_append_left _ (List.mem_of_getElem? (i := 4) rfl))) (gi_sub (fun w h => (List.mem_cons_of_mem _ (List.mem_append_right _ (List.mem_append_right _ (List.mem_append_right _ (List.mem_append_right _ (List.mem_append_right _ (List.mem_append_right _ (List.mem_append_left _ h))))))))) zg_j122_X12_token)) rfl rfl rfl (by decide +kernel) ⟨Nat.le_of_ble_eq_true rfl, Nat.le_of_ble_eq_true rfl⟩ 0 rfl rfl rfl rfl (Nat.le_of_ble_eq_true rfl) ⟨Nat.le_of_ble_eq_true rfl, Nat.le_of_ble_eq_true rfl⟩ dX12_cut_265 (fun v ty' w' hp hk' => ?_)
                                  obtain ⟨I3853, A3853, L3853, hI3853, hA3853, hV3853, r3854, rfl, rfl⟩ := hp
                                  have f3855 := IvM_f3 hV3853
                                  show GW κ 8 0 0 (wM r g I3853 A3853 L3853) 268 [(4, .int x3276), (3, .int x3277), (2, .int y3191), (1, .int x326), (0, .ref (r 0))] []
                                  refine g_iload_n hk dX12_cut_268 rfl ?_
                                  refine g_iload_n hk dX12_cut_269 rfl ?_
                                  refine g_iadd hk dX12_cut_270 ?_
                                  refine g_topi (fun y3856 ey3856 => ?_)
                                  have hy3856 : y3856.toInt = x326.toInt + x3277.toInt := i32_add ey3856 rfl rfl (by omega) (by omega)
                                  refine g_istore_n (lv' := [(1, .int y3856), (4, .int x3276), (3, .int x3277), (2, .int y3191), (0, .ref (r 0))]) hk dX12_cut_271 (by decide) rfl ?_
                                  refine g_goto (tgt := 291) hk dX12_cut_272 (by decide) ?_
                                  refine g_goto (tgt := 7) hk dX12_cut_291 (by decide) ?_
                                  exact g_lv (List.forall_mem_cons.mpr ⟨List.mem_of_getElem? (i := 0) rfl, (List.forall_mem_cons.mpr ⟨List.mem_of_getElem? (i := 4) rfl, (fun _ h => absurd h List.not_mem_nil)⟩)⟩) (ih3186 y3856 I3853 A3853 L3853 (show Md [3] (upd I 3 0) I3853 from Md.tr hI328 (show Md [3] I328 I3853 from (Md.tr Md.rf hI3853 rfl)) rfl) (show Md [2, 3, 4] A A3853 from Md.tr hA328 (show Md [2, 3, 4] A328 A3853 from (Md.tr Md.rf hA3853 rfl)) rfl) hV3853 (by omega) (by omega) (by omega) (by omega))
                                · skip
                                  refine g_iconst (v := 3) hk dX12_cut_256 (by decide) ?_
                                  refine g_goto (tgt := 261) hk dX12_cut_257 (by decide) ?_
                                  refine g_iload_n hk dX12_cut_261 rfl ?_
                                  refine g_iload hk dX12_cut_262 rfl ?_
                                  refine g_lconst (v := 0) hk dX12_cut_264 (by decide) ?_
                                  have k3857 : (3 : Int32).toInt = 3 := rfl
                                  refine g_callV (n := 4) hk (j122_X12_token l D zt r g I328 A328 L328 3 x326 x3276 0 hV328 (by omega)) (SP.same _) (fun _ h => h) (gi_V (List.mem_cons_of_mem _ (List.mem_append_left _ (List.mem_of_getElem? (i := 13) rfl))) (List.mem_cons_of_mem _ (List.mem_append_left _ (List.mem_of_getElem? (i := 14) rfl))) (List.mem_cons_of_mem _ (List.mem_append_left _ (List.mem_of_getElem? (i := 15) rfl))) (List.mem_cons_of_mem _ (List.mem_append_left _ (List.mem_of_getElem? (i := 4) rfl))) (gi_sub (fun w h => (List.mem_cons_of_mem _ (List.mem_append_right _ (List.mem_append_right _ (List.mem_append_right _ (List.mem_append_right _ (List.mem_append_right _ (List.mem_append_right _ (List.mem_append_left _ h))))))))) zg_j122_X12_token)) rfl rfl rfl (by decide +kernel) ⟨Nat.le_of_ble_eq_true rfl, Nat.le_of_ble_eq_true rfl⟩ 0 rfl rfl rfl rfl (Nat.le_of_ble_eq_true rfl) ⟨Nat.le_of_ble_eq_true rfl, Nat.le_of_ble_eq_true rfl⟩ dX12_cut_265 (fun v ty' w' hp hk' => ?_)
                                  obtain ⟨I3859, A3859, L3859, hI3859, hA3859, hV3859, r3860, rfl, rfl⟩ := hp
                                  have f3861 := IvM_f3 hV3859
                                  show GW κ 8 0 0 (wM r g I3859 A3859 L3859) 268 [(4, .int x3276), (3, .int x3277), (2, .int y3191), (1, .int x326), (0, .ref (r 0))] []
                                  refine g_iload_n hk dX12_cut_268 rfl ?_
                                  refine g_iload_n hk dX12_cut_269 rfl ?_
                                  refine g_iadd hk dX12_cut_270 ?_
                                  refine g_topi (fun y3862 ey3862 => ?_)
                                  have hy3862 : y3862.toInt = x326.toInt + x3277.toInt := i32_add ey3862 rfl rfl (by omega) (by omega)
                                  refine g_istore_n (lv' := [(1, .int y3862), (4, .int x3276), (3, .int x3277), (2, .int y3191), (0, .ref (r 0))]) hk dX12_cut_271 (by decide) rfl ?_
                                  refine g_goto (tgt := 291) hk dX12_cut_272 (by decide) ?_
                                  refine g_goto (tgt := 7) hk dX12_cut_291 (by decide) ?_
                                  exact g_lv (List.forall_mem_cons.mpr ⟨List.mem_of_getElem? (i := 0) rfl, (List.forall_mem_cons.mpr ⟨List.mem_of_getElem? (i := 4) rfl, (fun _ h => absurd h List.not_mem_nil)⟩)⟩) (ih3186 y3862 I3859 A3859 L3859 (show Md [3] (upd I 3 0) I3859 from Md.tr hI328 (show Md [3] I328 I3859 from (Md.tr Md.rf hI3859 rfl)) rfl) (show Md [2, 3, 4] A A3859 from Md.tr hA328 (show Md [2, 3, 4] A328 A3859 from (Md.tr Md.rf hA3859 rfl)) rfl) hV3859 (by omega) (by omega) (by omega) (by omega))
                              · skip
                                show GW κ 8 0 0 (wM r g I328 A328 L328) 218 [(4, .int x3276), (3, .int x3277), (2, .int y3191), (1, .int x326), (0, .ref (r 0))] [.int 1]
                                exfalso; omega
                            · skip
                              show GW κ 8 0 0 (wM r g I328 A328 L328) 215 [(4, .int x3276), (3, .int x3277), (2, .int y3191), (1, .int x326), (0, .ref (r 0))] [.int y3840]
                              refine g_callS (n := 1) hk (j120_X12_isDigit l D zt r g I328 A328 L328 y3840 hV328) (SP.same _) (fun _ h => h) (gi_S (List.mem_cons_of_mem _ (List.mem_append_left _ (List.mem_of_getElem? (i := 8) rfl))) (List.mem_cons_of_mem _ (List.mem_append_left _ (List.mem_of_getElem? (i := 9) rfl))) (List.mem_cons_of_mem _ (List.mem_append_left _ (List.mem_of_getElem? (i := 4) rfl))) (gi_sub (fun w h => (List.mem_cons_of_mem _ (List.mem_append_right _ (List.mem_append_right _ (List.mem_append_right _ (List.mem_append_right _ (List.mem_append_left _ h))))))) zg_j120_X12_isDigit)) rfl rfl rfl (by decide +kernel) ⟨Nat.le_of_ble_eq_true rfl, Nat.le_of_ble_eq_true rfl⟩ rfl rfl (Nat.le_of_ble_eq_true rfl) ⟨Nat.le_of_ble_eq_true rfl, Nat.le_of_ble_eq_true rfl⟩ dX12_cut_215 (fun v ty' w' hp hk' => ?_)
                              rcases hp with ⟨rfl, rfl⟩ | ⟨c3864, c3865, c3866, c3867, rfl, rfl⟩
                              · skip
                                show GW κ 8 0 0 (wM r g I328 A328 L328) 218 [(4, .int x3276), (3, .int x3277), (2, .int y3191), (1, .int x326), (0, .ref (r 0))] [.int 0]
                                refine g_if_eq (tgt := 250) (a := 0) hk dX12_cut_218 (by decide) rfl (fun _ => ?_) (fun z9 => absurd (show (0 : Int) = (0 : Int) from by decide) z9)
                                refine g_aload_n hk dX12_cut_250 rfl ?_
                                refine g_iload_n hk dX12_cut_251 rfl ?_
                                refine g_iconst (v := 4) hk dX12_cut_252 (by decide) ?_
                                refine g_icmp_le (tgt := 260) (a := x3277.toInt) (b := 4) hk dX12_cut_253 (by decide) rfl rfl (fun c3869 => ?_) (fun c3869 => ?_)
                                · skip
                                  refine g_iconst (v := 2) hk dX12_cut_260 (by decide) ?_
                                  refine g_iload_n hk dX12_cut_261 rfl ?_
                                  refine g_iload hk dX12_cut_262 rfl ?_
                                  refine g_lconst (v := 0) hk dX12_cut_264 (by decide) ?_
                                  have k3870 : (2 : Int32).toInt = 2 := rfl
                                  refine g_callV (n := 4) hk (j122_X12_token l D zt r g I328 A328 L328 2 x326 x3276 0 hV328 (by omega)) (SP.same _) (fun _ h => h) (gi_V (List.mem_cons_of_mem _ (List.mem_append_left _ (List.mem_of_getElem? (i := 13) rfl))) (List.mem_cons_of_mem _ (List.mem_append_left _ (List.mem_of_getElem? (i := 14) rfl))) (List.mem_cons_of_mem _ (List.mem_append_left _ (List.mem_of_getElem? (i := 15) rfl))) (List.mem_cons_of_mem _ (List.mem_append_left _ (List.mem_of_getElem? (i := 4) rfl))) (gi_sub (fun w h => (List.mem_cons_of_mem _ (List.mem_append_right _ (List.mem_append_right _ (List.mem_append_right _ (List.mem_append_right _ (List.mem_append_right _ (List.mem_append_right _ (List.mem_append_left _ h))))))))) zg_j122_X12_token)) rfl rfl rfl (by decide +kernel) ⟨Nat.le_of_ble_eq_true rfl, Nat.le_of_ble_eq_true rfl⟩ 0 rfl rfl rfl rfl (Nat.le_of_ble_eq_true rfl) ⟨Nat.le_of_ble_eq_true rfl, Nat.le_of_ble_eq_true rfl⟩ dX12_cut_265 (fun v ty' w' hp hk' => ?_)
                                  obtain ⟨I3872, A3872, L3872, hI3872, hA3872, hV3872, r3873, rfl, rfl⟩ := hp
                                  have f3874 := IvM_f3 hV3872
                                  show GW κ 8 0 0 (wM r g I3872 A3872 L3872) 268 [(4, .int x3276), (3, .int x3277), (2, .int y3191), (1, .int x326), (0, .ref (r 0))] []
                                  refine g_iload_n hk dX12_cut_268 rfl ?_
                                  refine g_iload_n hk dX12_cut_269 rfl ?_
                                  refine g_iadd hk dX12_cut_270 ?_
                                  refine g_topi (fun y3875 ey3875 => ?_)
                                  have hy3875 : y3875.toInt = x326.toInt + x3277.toInt := i32_add ey3875 rfl rfl (by omega) (by omega)
                                  refine g_istore_n (lv' := [(1, .int y3875), (4, .int x3276), (3, .int x3277), (2, .int y3191), (0, .ref (r 0))]) hk dX12_cut_271 (by decide) rfl ?_
                                  refine g_goto (tgt := 291) hk dX12_cut_272 (by decide) ?_
                                  refine g_goto (tgt := 7) hk dX12_cut_291 (by decide) ?_
                                  exact g_lv (List.forall_mem_cons.mpr ⟨List.mem_of_getElem? (i := 0) rfl, (List.forall_mem_cons.mpr ⟨List.mem_of_getElem? (i := 4) rfl, (fun _ h => absurd h List.not_mem_nil)⟩)⟩) (ih3186 y3875 I3872 A3872 L3872 (show Md [3] (upd I 3 0) I3872 from Md.tr hI328 (show Md [3] I328 I3872 from (Md.tr Md.rf hI3872 rfl)) rfl) (show Md [2, 3, 4] A A3872 from Md.tr hA328 (show Md [2, 3, 4] A328 A3872 from (Md.tr Md.rf hA3872 rfl)) rfl) hV3872 (by omega) (by omega) (by omega) (by omega))
                                · skip
                                  refine g_iconst (v := 3) hk dX12_cut_256 (by decide) ?_
                                  refine g_goto (tgt := 261) hk dX12_cut_257 (by decide) ?_
                                  refine g_iload_n hk dX12_cut_261 rfl ?_
                                  refine g_iload hk dX12_cut_262 rfl ?_
                                  refine g_lconst (v := 0) hk dX12_cut_264 (by decide) ?_
                                  have k3876 : (3 : Int32).toInt = 3 := rfl
                                  refine g_callV (n := 4) hk (j122_X12_token l D zt r g I328 A328 L328 3 x326 x3276 0 hV328 (by omega)) (SP.same _) (fun _ h => h) (gi_V (List.mem_cons_of_mem _ (List.mem_append_left _ (List.mem_of_getElem? (i := 13) rfl))) (List.mem_cons_of_mem _ (List.mem_append_left _ (List.mem_of_getElem? (i := 14) rfl))) (List.mem_cons_of_mem _ (List.mem_append_left _ (List.mem_of_getElem? (i := 15) rfl))) (List.mem_cons_of_mem _ (List.mem_append_left _ (List.mem_of_getElem? (i := 4) rfl))) (gi_sub (fun w h => (List.mem_cons_of_mem _ (List.mem_append_right _ (List.mem_append_right _ (List.mem_append_right _ (List.mem_append_right _ (List.mem_append_right _ (List.mem_append_right _ (List.mem_append_left _ h))))))))) zg_j122_X12_token)) rfl rfl rfl (by decide +kernel) ⟨Nat.le_of_ble_eq_true rfl, Nat.le_of_ble_eq_true rfl⟩ 0 rfl rfl rfl rfl (Nat.le_of_ble_eq_true rfl) ⟨Nat.le_of_ble_eq_true rfl, Nat.le_of_ble_eq_true rfl⟩ dX12_cut_265 (fun v ty' w' hp hk' => ?_)
                                  obtain ⟨I3878, A3878, L3878, hI3878, hA3878, hV3878, r3879, rfl, rfl⟩ := hp
                                  have f3880 := IvM_f3 hV3878
                                  show GW κ 8 0 0 (wM r g I3878 A3878 L3878) 268 [(4, .int x3276), (3, .int x3277), (2, .int y3191), (1, .int x326), (0, .ref (r 0))] []
                                  refine g_iload_n hk dX12_cut_268 rfl ?_
                                  refine g_iload_n hk dX12_cut_269 rfl ?_
                                  refine g_iadd hk dX12_cut_270 ?_
                                  refine g_topi (fun y3881 ey3881 => ?_)
                                  have hy3881 : y3881.toInt = x326.toInt + x3277.toInt := i32_add ey3881 rfl rfl (by omega) (by omega)
                                  refine g_istore_n (lv' := [(1, .int y3881), (4, .int x3276), (3, .int x3277), (2, .int y3191), (0, .ref (r 0))]) hk dX12_cut_271 (by decide) rfl ?_
                                  refine g_goto (tgt := 291) hk dX12_cut_272 (by decide) ?_
                                  refine g_goto (tgt := 7) hk dX12_cut_291 (by decide) ?_
                                  exact g_lv (List.forall_mem_cons.mpr ⟨List.mem_of_getElem? (i := 0) rfl, (List.forall_mem_cons.mpr ⟨List.mem_of_getElem? (i := 4) rfl, (fun _ h => absurd h List.not_mem_nil)⟩)⟩) (ih3186 y3881 I3878 A3878 L3878 (show Md [3] (upd I 3 0) I3878 from Md.tr hI328 (show Md [3] I328 I3878 from (Md.tr Md.rf hI3878 rfl)) rfl) (show Md [2, 3, 4] A A3878 from Md.tr hA328 (show Md [2, 3, 4] A328 A3878 from (Md.tr Md.rf hA3878 rfl)) rfl) hV3878 (by omega) (by omega) (by omega) (by omega))
                              · skip
                                show GW κ 8 0 0 (wM r g I328 A328 L328) 218 [(4, .int x3276), (3, .int x3277), (2, .int y3191), (1, .int x326), (0, .ref (r 0))] [.int 1]
                                refine g_if_eq (tgt := 250) (a := 1) hk dX12_cut_218 (by decide) rfl (fun z9 => absurd z9 (show ¬ ((1 : Int) = (0 : Int)) from by decide)) (fun _ => ?_)
                                refine g_iload_n hk dX12_cut_221 rfl ?_
                                refine g_iconst (v := 4) hk dX12_cut_222 (by decide) ?_
                                refine g_icmp_ge (tgt := 244) (a := x3277.toInt) (b := 4) hk dX12_cut_223 (by decide) rfl rfl (fun c3882 => ?_) (fun c3882 => ?_)
                                · skip
                                  obtain ⟨y3883, ey3883⟩ : ∃ y : Int32, y = x3277 + Int32.ofInt 1 := ⟨_, rfl⟩
                                  have hy3883 : y3883.toInt = x3277.toInt + 1 := i32_add ey3883 rfl (by decide) (by omega) (by omega)
                                  refine g_iinc (v := y3883) (lv' := [(3, .int y3883), (4, .int x3276), (2, .int y3191), (1, .int x326), (0, .ref (r 0))]) hk 1 dX12_cut_244 rfl ey3883.symm (by decide) rfl ?_
                                  refine g_goto (tgt := 208) hk dX12_cut_247 (by decide) ?_
                                  have b3884l := Int32.le_toInt x3276
                                  have b3884h := Int32.toInt_lt x3276
                                  exact g_lv (List.forall_mem_cons.mpr ⟨List.mem_of_getElem? (i := 1) rfl, (List.forall_mem_cons.mpr ⟨List.mem_of_getElem? (i := 0) rfl, (List.forall_mem_cons.mpr ⟨List.mem_of_getElem? (i := 2) rfl, (List.forall_mem_cons.mpr ⟨List.mem_of_getElem? (i := 3) rfl, (List.forall_mem_cons.mpr ⟨List.mem_of_getElem? (i := 4) rfl, (fun _ h => absurd h List.not_mem_nil)⟩)⟩)⟩)⟩)⟩) (ih3836 x3276 y3883 (by omega) (by omega) (by omega) (by omega) (by omega))
                                · skip
                                  refine g_bipush (v := 10) hk dX12_cut_226 (by decide) ?_
                                  refine g_iload hk dX12_cut_228 rfl ?_
                                  have b3885l := Int32.le_toInt x3276
                                  have b3885h := Int32.toInt_lt x3276
                                  refine g_imul hk dX12_cut_230 ?_
                                  refine g_topi (fun y3886 ey3886 => ?_)
                                  refine g_aload_n hk dX12_cut_231 rfl ?_
                                  refine g_iload_n hk dX12_cut_232 rfl ?_
                                  refine g_iload_n hk dX12_cut_233 rfl ?_
                                  refine g_iadd hk dX12_cut_234 ?_
                                  refine g_topi (fun y3887 ey3887 => ?_)
                                  have hy3887 : y3887.toInt = x326.toInt + x3277.toInt := i32_add ey3887 rfl rfl (by omega) (by omega)
                                  refine g_callV (n := 1) hk (j118_X12_byteAt l D zt r g I328 A328 L328 y3887 hV328 (by omega)) (SP.same _) (fun _ h => h) (gi_V (List.mem_cons_of_mem _ (List.mem_append_left _ (List.mem_of_getElem? (i := 1) rfl))) (List.mem_cons_of_mem _ (List.mem_append_left _ (List.mem_of_getElem? (i := 2) rfl))) (List.mem_cons_of_mem _ (List.mem_append_left _ (List.mem_of_getElem? (i := 3) rfl))) (List.mem_cons_of_mem _ (List.mem_append_left _ (List.mem_of_getElem? (i := 4) rfl))) (gi_sub (fun w h => (List.mem_cons_of_mem _ (List.mem_append_right _ (List.mem_append_right _ (List.mem_append_left _ h))))) zg_j118_X12_byteAt)) rfl rfl rfl (by decide +kernel) ⟨Nat.le_of_ble_eq_true rfl, Nat.le_of_ble_eq_true rfl⟩ 0 rfl rfl rfl rfl (Nat.le_of_ble_eq_true rfl) ⟨Nat.le_of_ble_eq_true rfl, Nat.le_of_ble_eq_true rfl⟩ dX12_cut_235 (fun v ty' w' hp hk' => ?_)
                                  rcases hp with ⟨rfl, rfl⟩ | ⟨y3890, c3889, c3891, c3892, rfl, rfl⟩
                                  · skip
                                    show GW κ 8 0 0 (wM r g I328 A328 L328) 238 [(4, .int x3276), (3, .int x3277), (2, .int y3191), (1, .int x326), (0, .ref (r 0))] [.int 0, .int y3886]
                                    have b3893l := Int32.le_toInt y3886
                                    have b3893h := Int32.toInt_lt y3886
                                    refine g_iadd hk dX12_cut_238 ?_
                                    refine g_topi (fun y3894 ey3894 => ?_)
                                    have hy3894 : y3894.toInt = y3886.toInt + 0 := i32_add ey3894 rfl rfl (by omega) (by omega)
                                    refine g_bipush (v := 48) hk dX12_cut_239 (by decide) ?_
                                    have b3895l := Int32.le_toInt y3894
                                    have b3895h := Int32.toInt_lt y3894
                                    refine g_isub hk dX12_cut_241 ?_
                                    refine g_topi (fun y3896 ey3896 => ?_)
                                    have hy3896 := i32_sub0 ey3896
                                    refine g_istore (lv' := [(4, .int y3896), (3, .int x3277), (2, .int y3191), (1, .int x326), (0, .ref (r 0))]) hk dX12_cut_242 (by decide) rfl ?_
                                    obtain ⟨y3897, ey3897⟩ : ∃ y : Int32, y = x3277 + Int32.ofInt 1 := ⟨_, rfl⟩
                                    have hy3897 : y3897.toInt = x3277.toInt + 1 := i32_add ey3897 rfl (by decide) (by omega) (by omega)
                                    refine g_iinc (v := y3897) (lv' := [(3, .int y3897), (4, .int y3896), (2, .int y3191), (1, .int x326), (0, .ref (r 0))]) hk 1 dX12_cut_244 rfl ey3897.symm (by decide) rfl ?_
                                    refine g_goto (tgt := 208) hk dX12_cut_247 (by decide) ?_
                                    have b3898l := Int32.le_toInt y3896
                                    have b3898h := Int32.toInt_lt y3896
                                    exact g_lv (List.forall_mem_cons.mpr ⟨List.mem_of_getElem? (i := 1) rfl, (List.forall_mem_cons.mpr ⟨List.mem_of_getElem? (i := 0) rfl, (List.forall_mem_cons.mpr ⟨List.mem_of_getElem? (i := 2) rfl, (List.forall_mem_cons.mpr ⟨List.mem_of_getElem? (i := 3) rfl, (List.forall_mem_cons.mpr ⟨List.mem_of_getElem? (i := 4) rfl, (fun _ h => absurd h List.not_mem_nil)⟩)⟩)⟩)⟩)⟩) (ih3836 y3896 y3897 (by omega) (by omega) (by omega) (by omega) (by omega))
                                  · skip
                                    show GW κ 8 0 0 (wM r g I328 A328 L328) 238 [(4, .int x3276), (3, .int x3277), (2, .int y3191), (1, .int x326), (0, .ref (r 0))] [.int y3890, .int y3886]
                                    have b3899l := Int32.le_toInt y3886
                                    have b3899h := Int32.toInt_lt y3886
                                    refine g_iadd hk dX12_cut_238 ?_
                                    refine g_topi (fun y3900 ey3900 => ?_)
                                    refine g_bipush (v := 48) hk dX12_cut_239 (by decide) ?_
                                    have b3901l := Int32.le_toInt y3900
                                    have b3901h := Int32.toInt_lt y3900
                                    refine g_isub hk dX12_cut_241 ?_
                                    refine g_topi (fun y3902 ey3902 => ?_)
                                    have hy3902 := i32_sub0 ey3902
                                    refine g_istore (lv' := [(4, .int y3902), (3, .int x3277), (2, .int y3191), (1, .int x326), (0, .ref (r 0))]) hk dX12_cut_242 (by decide) rfl ?_
                                    obtain ⟨y3903, ey3903⟩ : ∃ y : Int32, y = x3277 + Int32.ofInt 1 := ⟨_, rfl⟩
                                    have hy3903 : y3903.toInt = x3277.toInt + 1 := i32_add ey3903 rfl (by decide) (by omega) (by omega)
                                    refine g_iinc (v := y3903) (lv' := [(3, .int y3903), (4, .int y3902), (2, .int y3191), (1, .int x326), (0, .ref (r 0))]) hk 1 dX12_cut_244 rfl ey3903.symm (by decide) rfl ?_
                                    refine g_goto (tgt := 208) hk dX12_cut_247 (by decide) ?_
                                    have b3904l := Int32.le_toInt y3902
                                    have b3904h := Int32.toInt_lt y3902
                                    exact g_lv (List.forall_mem_cons.mpr ⟨List.mem_of_getElem? (i := 1) rfl, (List.forall_mem_cons.mpr ⟨List.mem_of_getElem? (i := 0) rfl, (List.forall_mem_cons.mpr ⟨List.mem_of_getElem? (i := 2) rfl, (List.forall_mem_cons.mpr ⟨List.mem_of_getElem? (i := 3) rfl, (List.forall_mem_cons.mpr ⟨List.mem_of_getElem? (i := 4) rfl, (fun _ h => absurd h List.not_mem_nil)⟩)⟩)⟩)⟩)⟩) (ih3836 y3902 y3903 (by omega) (by omega) (by omega) (by omega) (by omega))
                        have k3905 : (0 : Int32).toInt = 0 := rfl
                        obtain ⟨n3906, n3906a, n3906b⟩ : ∃ n : Nat, 2001 - x326.toInt - (0 : Int32).toInt < (n : Int) ∧ 0 < n := ⟨((2001 - x326.toInt - (0 : Int32).toInt : Int)).toNat + 1, by omega, by omega⟩
                        exact lp3833 n3906 0 0 (by omega) (by omega) (by omega) n3906a n3906b
                    · skip
                      show GW κ 8 0 0 (wM r g I328 A328 L328) 77 [(2, .int y3191), (1, .int x326), (0, .ref (r 0))] [.int 1]
                      refine g_if_eq (tgt := 196) (a := 1) hk dX12_cut_77 (by decide) rfl (fun z9 => absurd z9 (show ¬ ((1 : Int) = (0 : Int)) from by decide)) (fun _ => ?_)
                      refine g_iconst (v := 0) hk dX12_cut_80 (by decide) ?_
                      refine g_istore_n (lv' := [(3, .int 0), (2, .int y3191), (1, .int x326), (0, .ref (r 0))]) hk dX12_cut_81 (by decide) rfl ?_
                      refine g_lconst (v := 0) hk dX12_cut_82 (by decide) ?_
                      refine g_lstore (lv' := [(4, .long 0), (3, .int 0), (2, .int y3191), (1, .int x326), (0, .ref (r 0))]) hk dX12_cut_83 (by decide) rfl ?_
                      have lp4352 : ∀ (n4353 : Nat) (x3907 : Int64) (x3908 : Int32), (0 ≤ x3908.toInt) → (x3908.toInt ≤ 2000) → (x326.toInt + x3908.toInt ≤ 2000) → (2001 - x326.toInt - x3908.toInt < (n4353 : Int)) → (0 < n4353) → GW κ 8 0 0 (wM r g I328 A328 L328) 85 [(4, .long x3907), (3, .int x3908), (2, .int y3191), (1, .int x326), (0, .ref (r 0))] [] := by
                        intro n4353
                        induction n4353 with
                        | zero =>
                          intro x3907 x3908 h4349 h4350 h4351 m4354 m4354z
                          exact absurd m4354z (Nat.lt_irrefl 0)
                        | succ n4353 ih4355 =>
                          intro x3907 x3908 h4349 h4350 h4351 m4354 m4354z
                          refine g_aload_n hk dX12_cut_85 rfl ?_
                          refine g_iload_n hk dX12_cut_86 rfl ?_
                          refine g_iload_n hk dX12_cut_87 rfl ?_
                          refine g_iadd hk dX12_cut_88 ?_
                          refine g_topi (fun y4356 ey4356 => ?_)
                          have hy4356 : y4356.toInt = x326.toInt + x3908.toInt := i32_add ey4356 rfl rfl (by omega) (by omega)
                          refine g_callV (n := 1) hk (j118_X12_byteAt l D zt r g I328 A328 L328 y4356 hV328 (by omega)) (SP.same _) (fun _ h => h) (gi_V (List.mem_cons_of_mem _ (List.mem_append_left _ (List.mem_of_getElem? (i := 1) rfl))) (List.mem_cons_of_mem _ (List.mem_append_left _ (List.mem_of_getElem? (i := 2) rfl))) (List.mem_cons_of_mem _ (List.mem_append_left _ (List.mem_of_getElem? (i := 3) rfl))) (List.mem_cons_of_mem _ (List.mem_append_left _ (List.mem_of_getElem? (i := 4) rfl))) (gi_sub (fun w h => (List.mem_cons_of_mem _ (List.mem_append_right _ (List.mem_append_right _ (List.mem_append_left _ h))))) zg_j118_X12_byteAt)) rfl rfl rfl (by decide +kernel) ⟨Nat.le_of_ble_eq_true rfl, Nat.le_of_ble_eq_true rfl⟩ 0 rfl rfl rfl rfl (Nat.le_of_ble_eq_true rfl) ⟨Nat.le_of_ble_eq_true rfl, Nat.le_of_ble_eq_true rfl⟩ dX12_cut_89 (fun v ty' w' hp hk' => ?_)
                          rcases hp with ⟨rfl, rfl⟩ | ⟨y4359, c4358, c4360, c4361, rfl, rfl⟩
                          · skip
                            show GW κ 8 0 0 (wM r g I328 A328 L328) 92 [(4, .long x3907), (3, .int x3908), (2, .int y3191), (1, .int x326), (0, .ref (r 0))] [.int 0]
                            have k4362 : (0 : Int32).toInt = 0 := rfl
                            refine g_callS (n := 1) hk (j119_X12_isLetter l D zt r g I328 A328 L328 0 hV328) (SP.same _) (fun _ h => h) (gi_S (List.mem_cons_of_mem _ (List.mem_append_left _ (List.mem_of_getElem? (i := 6) rfl))) (List.mem_cons_of_mem _ (List.mem_append_left _ (List.mem_of_getElem? (i := 7) rfl))) (List.mem_cons_of_mem _ (List.mem_append_left _ (List.mem_of_getElem? (i := 4) rfl))) (gi_sub (fun w h => (List.mem_cons_of_mem _ (List.mem_append_right _ (List.mem_append_right _ (List.mem_append_right _ (List.mem_append_left _ h)))))) zg_j119_X12_isLetter)) rfl rfl rfl (by decide +kernel) ⟨Nat.le_of_ble_eq_true rfl, Nat.le_of_ble_eq_true rfl⟩ rfl rfl (Nat.le_of_ble_eq_true rfl) ⟨Nat.le_of_ble_eq_true rfl, Nat.le_of_ble_eq_true rfl⟩ dX12_cut_92 (fun v ty' w' hp hk' => ?_)
                            rcases hp with ⟨rfl, rfl⟩ | ⟨c4364, c4365, c4366, c4367, rfl, rfl⟩
                            · skip
                              show GW κ 8 0 0 (wM r g I328 A328 L328) 95 [(4, .long x3907), (3, .int x3908), (2, .int y3191), (1, .int x326), (0, .ref (r 0))] [.int 0]
                              refine g_if_eq (tgt := 124) (a := 0) hk dX12_cut_95 (by decide) rfl (fun _ => ?_) (fun z9 => absurd (show (0 : Int) = (0 : Int) from by decide) z9)
                              refine g_iload_n hk dX12_cut_124 rfl ?_
                              refine g_bipush (v := 8) hk dX12_cut_125 (by decide) ?_
                              refine g_icmp_le (tgt := 134) (a := x3908.toInt) (b := 8) hk dX12_cut_127 (by decide) rfl rfl (fun c4369 => ?_) (fun c4369 => ?_)
                              · skip
                                refine g_iconst (v := 1) hk dX12_cut_134 (by decide) ?_
                                refine g_istore (lv' := [(6, .int 1), (4, .long x3907), (3, .int x3908), (2, .int y3191), (1, .int x326), (0, .ref (r 0))]) hk dX12_cut_135 (by decide) rfl ?_
                                refine g_iload_n hk dX12_cut_137 rfl ?_
                                refine g_bipush (v := 8) hk dX12_cut_138 (by decide) ?_
                                refine g_icmp_gt (tgt := 179) (a := x3908.toInt) (b := 8) hk dX12_cut_140 (by decide) rfl rfl (fun z9 => absurd z9 (show ¬ (8 < x3908.toInt) from by omega)) (fun _ => ?_)
                                refine g_iconst (v := 0) hk dX12_cut_143 (by decide) ?_
                                refine g_istore (lv' := [(7, .int 0), (6, .int 1), (4, .long x3907), (3, .int x3908), (2, .int y3191), (1, .int x326), (0, .ref (r 0))]) hk dX12_cut_144 (by decide) rfl ?_
                                have lp4434 : ∀ (n4435 : Nat) (x4370 : Int32) (x4371 : Int32), (0 ≤ x4370.toInt) → (x4370.toInt ≤ 13) → (1 ≤ x4371.toInt) → (x4371.toInt ≤ 32) → (14 - x4370.toInt < (n4435 : Int)) → (0 < n4435) → GW κ 8 0 0 (wM r g I328 A328 L328) 146 [(7, .int x4370), (6, .int x4371), (4, .long x3907), (3, .int x3908), (2, .int y3191), (1, .int x326), (0, .ref (r 0))] [] := by
                                  intro n4435
                                  induction n4435 with
                                  | zero =>
                                    intro x4370 x4371 h4430 h4431 h4432 h4433 m4436 m4436z
                                    exact absurd m4436z (Nat.lt_irrefl 0)
                                  | succ n4435 ih4437 =>
                                    intro x4370 x4371 h4430 h4431 h4432 h4433 m4436 m4436z
                                    refine g_iload hk dX12_cut_146 rfl ?_
                                    refine g_bipush (v := 13) hk dX12_cut_148 (by decide) ?_
                                    refine g_icmp_ge (tgt := 179) (a := x4370.toInt) (b := 13) hk dX12_cut_150 (by decide) rfl rfl (fun c4438 => ?_) (fun c4438 => ?_)
                                    · skip
                                      refine g_aload_n hk dX12_cut_179 rfl ?_
                                      refine g_iload hk dX12_cut_180 rfl ?_
                                      refine g_iload_n hk dX12_cut_182 rfl ?_
                                      refine g_iconst (v := 0) hk dX12_cut_183 (by decide) ?_
                                      refine g_lload hk dX12_cut_184 rfl ?_
                                      refine g_callV (n := 4) hk (j122_X12_token l D zt r g I328 A328 L328 x4371 x326 0 x3907 hV328 (by omega)) (SP.same _) (fun _ h => h) (gi_V (List.mem_cons_of_mem _ (List.mem_append_left _ (List.mem_of_getElem? (i := 13) rfl))) (List.mem_cons_of_mem _ (List.mem_append_left _ (List.mem_of_getElem? (i := 14) rfl))) (List.mem_cons_of_mem _ (List.mem_append_left _ (List.mem_of_getElem? (i := 15) rfl))) (List.mem_cons_of_mem _ (List.mem_append_left _ (List.mem_of_getElem? (i := 4) rfl))) (gi_sub (fun w h => (List.mem_cons_of_mem _ (List.mem_append_right _ (List.mem_append_right _ (List.mem_append_right _ (List.mem_append_right _ (List.mem_append_right _ (List.mem_append_right _ (List.mem_append_left _ h))))))))) zg_j122_X12_token)) rfl rfl rfl (by decide +kernel) ⟨Nat.le_of_ble_eq_true rfl, Nat.le_of_ble_eq_true rfl⟩ 0 rfl rfl rfl rfl (Nat.le_of_ble_eq_true rfl) ⟨Nat.le_of_ble_eq_true rfl, Nat.le_of_ble_eq_true rfl⟩ dX12_cut_186 (fun v ty' w' hp hk' => ?_)
                                      obtain ⟨I4440, A4440, L4440, hI4440, hA4440, hV4440, r4441, rfl, rfl⟩ := hp
                                      have f4442 := IvM_f3 hV4440
                                      show GW κ 8 0 0 (wM r g I4440 A4440 L4440) 189 [(7, .int x4370), (6, .int x4371), (4, .long x3907), (3, .int x3908), (2, .int y3191), (1, .int x326), (0, .ref (r 0))] []
                                      refine g_iload_n hk dX12_cut_189 rfl ?_
                                      refine g_iload_n hk dX12_cut_190 rfl ?_
                                      refine g_iadd hk dX12_cut_191 ?_
                                      refine g_topi (fun y4443 ey4443 => ?_)
                                      have hy4443 : y4443.toInt = x326.toInt + x3908.toInt := i32_add ey4443 rfl rfl (by omega) (by omega)
                                      refine g_istore_n (lv' := [(1, .int y4443), (7, .int x4370), (6, .int x4371), (4, .long x3907), (3, .int x3908), (2, .int y3191), (0, .ref (r 0))]) hk dX12_cut_192 (by decide) rfl ?_
                                      refine g_goto (tgt := 291) hk dX12_cut_193 (by decide) ?_
                                      refine g_goto (tgt := 7) hk dX12_cut_291 (by decide) ?_
                                      exact g_lv (List.forall_mem_cons.mpr ⟨List.mem_of_getElem? (i := 0) rfl, (List.forall_mem_cons.mpr ⟨List.mem_of_getElem? (i := 6) rfl, (fun _ h => absurd h List.not_mem_nil)⟩)⟩) (ih3186 y4443 I4440 A4440 L4440 (show Md [3] (upd I 3 0) I4440 from Md.tr hI328 (show Md [3] I328 I4440 from (Md.tr Md.rf hI4440 rfl)) rfl) (show Md [2, 3, 4] A A4440 from Md.tr hA328 (show Md [2, 3, 4] A328 A4440 from (Md.tr Md.rf hA4440 rfl)) rfl) hV4440 (by omega) (by omega) (by omega) (by omega))
                                    · skip
                                      refine g_aload_n hk dX12_cut_153 rfl ?_
                                      refine gM_r0_9 hk hin12 (List.mem_cons_of_mem _ (List.mem_append_left _ (List.mem_of_getElem? (i := 16) rfl))) dX12_cut_154 ?_
                                      refine g_iload hk dX12_cut_157 rfl ?_
                                      refine lM_6 hk (vp_in_iff.mpr ⟨by omega, by omega⟩) rfl dX12_cut_159 ?_
                                      refine g_topl (fun y4444 ey4444 => ?_)
                                      refine g_lload hk dX12_cut_160 rfl ?_
                                      refine g_lcmp hk dX12_cut_162 ?_
                                      refine g_topi (fun y4445 ey4445 => ?_)
                                      have b4446l := Int32.le_toInt y4445
                                      have b4446h := Int32.toInt_lt y4445
                                      refine g_if_ne (tgt := 173) (a := y4445.toInt) hk dX12_cut_163 (by decide) rfl (fun c4447 => ?_) (fun c4447 => ?_)
                                      · skip
                                        obtain ⟨y4448, ey4448⟩ : ∃ y : Int32, y = x4370 + Int32.ofInt 1 := ⟨_, rfl⟩
                                        have hy4448 : y4448.toInt = x4370.toInt + 1 := i32_add ey4448 rfl (by decide) (by omega) (by omega)
                                        refine g_iinc (v := y4448) (lv' := [(7, .int y4448), (6, .int x4371), (4, .long x3907), (3, .int x3908), (2, .int y3191), (1, .int x326), (0, .ref (r 0))]) hk 0 dX12_cut_173 rfl ey4448.symm (by decide) rfl ?_
                                        refine g_goto (tgt := 146) hk dX12_cut_176 (by decide) ?_
                                        exact g_lv (List.forall_mem_cons.mpr ⟨List.mem_of_getElem? (i := 0) rfl, (List.forall_mem_cons.mpr ⟨List.mem_of_getElem? (i := 1) rfl, (List.forall_mem_cons.mpr ⟨List.mem_of_getElem? (i := 2) rfl, (List.forall_mem_cons.mpr ⟨List.mem_of_getElem? (i := 3) rfl, (List.forall_mem_cons.mpr ⟨List.mem_of_getElem? (i := 4) rfl, (List.forall_mem_cons.mpr ⟨List.mem_of_getElem? (i := 5) rfl, (List.forall_mem_cons.mpr ⟨List.mem_of_getElem? (i := 6) rfl, (fun _ h => absurd h List.not_mem_nil)⟩)⟩)⟩)⟩)⟩)⟩)⟩) (ih4437 y4448 x4371 (by omega) (by omega) (by omega) (by omega) (by omega) (by omega))
                                      · skip
                                        refine g_bipush (v := 20) hk dX12_cut_166 (by decide) ?_
                                        refine g_iload hk dX12_cut_168 rfl ?_
                                        refine g_iadd hk dX12_cut_170 ?_
                                        refine g_topi (fun y4449 ey4449 => ?_)
                                        have hy4449 : y4449.toInt = 20 + x4370.toInt := i32_add ey4449 rfl rfl (by omega) (by omega)
                                        refine g_istore (lv' := [(6, .int y4449), (7, .int x4370), (4, .long x3907), (3, .int x3908), (2, .int y3191), (1, .int x326), (0, .ref (r 0))]) hk dX12_cut_171 (by decide) rfl ?_
                                        obtain ⟨y4450, ey4450⟩ : ∃ y : Int32, y = x4370 + Int32.ofInt 1 := ⟨_, rfl⟩
                                        have hy4450 : y4450.toInt = x4370.toInt + 1 := i32_add ey4450 rfl (by decide) (by omega) (by omega)
                                        refine g_iinc (v := y4450) (lv' := [(7, .int y4450), (6, .int y4449), (4, .long x3907), (3, .int x3908), (2, .int y3191), (1, .int x326), (0, .ref (r 0))]) hk 1 dX12_cut_173 rfl ey4450.symm (by decide) rfl ?_
                                        refine g_goto (tgt := 146) hk dX12_cut_176 (by decide) ?_
                                        exact g_lv (List.forall_mem_cons.mpr ⟨List.mem_of_getElem? (i := 0) rfl, (List.forall_mem_cons.mpr ⟨List.mem_of_getElem? (i := 1) rfl, (List.forall_mem_cons.mpr ⟨List.mem_of_getElem? (i := 2) rfl, (List.forall_mem_cons.mpr ⟨List.mem_of_getElem? (i := 3) rfl, (List.forall_mem_cons.mpr ⟨List.mem_of_getElem? (i := 4) rfl, (List.forall_mem_cons.mpr ⟨List.mem_of_getElem? (i := 5) rfl, (List.forall_mem_cons.mpr ⟨List.mem_of_getElem? (i := 6) rfl, (fun _ h => absurd h List.not_mem_nil)⟩)⟩)⟩)⟩)⟩)⟩)⟩) (ih4437 y4450 y4449 (by omega) (by omega) (by omega) (by omega) (by omega) (by omega))
                                have k4451 : (1 : Int32).toInt = 1 := rfl
                                obtain ⟨n4452, n4452a, n4452b⟩ : ∃ n : Nat, 14 - (0 : Int32).toInt < (n : Int) ∧ 0 < n := ⟨((14 - (0 : Int32).toInt : Int)).toNat + 1, by omega, by omega⟩
                                exact lp4434 n4452 0 1 (by omega) (by omega) (by omega) (by omega) n4452a n4452b
                              · skip
                                refine g_iconst (v := 3) hk dX12_cut_130 (by decide) ?_
                                refine g_goto (tgt := 135) hk dX12_cut_131 (by decide) ?_
                                refine g_istore (lv' := [(6, .int 3), (4, .long x3907), (3, .int x3908), (2, .int y3191), (1, .int x326), (0, .ref (r 0))]) hk dX12_cut_135 (by decide) rfl ?_
                                refine g_iload_n hk dX12_cut_137 rfl ?_
                                refine g_bipush (v := 8) hk dX12_cut_138 (by decide) ?_
                                refine g_icmp_gt (tgt := 179) (a := x3908.toInt) (b := 8) hk dX12_cut_140 (by decide) rfl rfl (fun _ => ?_) (fun z9 => absurd (show 8 < x3908.toInt from by omega) z9)
                                refine g_aload_n hk dX12_cut_179 rfl ?_
                                refine g_iload hk dX12_cut_180 rfl ?_
                                refine g_iload_n hk dX12_cut_182 rfl ?_
                                refine g_iconst (v := 0) hk dX12_cut_183 (by decide) ?_
                                refine g_lload hk dX12_cut_184 rfl ?_
                                have k4453 : (3 : Int32).toInt = 3 := rfl
                                refine g_callV (n := 4) hk (j122_X12_token l D zt r g I328 A328 L328 3 x326 0 x3907 hV328 (by omega)) (SP.same _) (fun _ h => h) (gi_V (List.mem_cons_of_mem _ (List.mem_append_left _ (List.mem_of_getElem? (i := 13) rfl))) (List.mem_cons_of_mem _ (List.mem_append_left _ (List.mem_of_getElem? (i := 14) rfl))) (List.mem_cons_of_mem _ (List.mem_append_left _ (List.mem_of_getElem? (i := 15) rfl))) (List.mem_cons_of_mem _ (List.mem_append_left _ (List.mem_of_getElem? (i := 4) rfl))) (gi_sub (fun w h => (List.mem_cons_of_mem _ (List.mem_append_right _ (List.mem_append_right _ (List.mem_append_right _ (List.mem_append_right _ (List.mem_append_right _ (List.mem_append_right _ (List.mem_append_left _ h))))))))) zg_j122_X12_token)) rfl rfl rfl (by decide +kernel) ⟨Nat.le_of_ble_eq_true rfl, Nat.le_of_ble_eq_true rfl⟩ 0 rfl rfl rfl rfl (Nat.le_of_ble_eq_true rfl) ⟨Nat.le_of_ble_eq_true rfl, Nat.le_of_ble_eq_true rfl⟩ dX12_cut_186 (fun v ty' w' hp hk' => ?_)
                                obtain ⟨I4455, A4455, L4455, hI4455, hA4455, hV4455, r4456, rfl, rfl⟩ := hp
                                have f4457 := IvM_f3 hV4455
                                show GW κ 8 0 0 (wM r g I4455 A4455 L4455) 189 [(6, .int 3), (4, .long x3907), (3, .int x3908), (2, .int y3191), (1, .int x326), (0, .ref (r 0))] []
                                refine g_iload_n hk dX12_cut_189 rfl ?_
                                refine g_iload_n hk dX12_cut_190 rfl ?_
                                refine g_iadd hk dX12_cut_191 ?_
                                refine g_topi (fun y4458 ey4458 => ?_)
                                have hy4458 : y4458.toInt = x326.toInt + x3908.toInt := i32_add ey4458 rfl rfl (by omega) (by omega)
                                refine g_istore_n (lv' := [(1, .int y4458), (6, .int 3), (4, .long x3907), (3, .int x3908), (2, .int y3191), (0, .ref (r 0))]) hk dX12_cut_192 (by decide) rfl ?_
                                refine g_goto (tgt := 291) hk dX12_cut_193 (by decide) ?_
                                refine g_goto (tgt := 7) hk dX12_cut_291 (by decide) ?_
                                exact g_lv (List.forall_mem_cons.mpr ⟨List.mem_of_getElem? (i := 0) rfl, (List.forall_mem_cons.mpr ⟨List.mem_of_getElem? (i := 5) rfl, (fun _ h => absurd h List.not_mem_nil)⟩)⟩) (ih3186 y4458 I4455 A4455 L4455 (show Md [3] (upd I 3 0) I4455 from Md.tr hI328 (show Md [3] I328 I4455 from (Md.tr Md.rf hI4455 rfl)) rfl) (show Md [2, 3, 4] A A4455 from Md.tr hA328 (show Md [2, 3, 4] A328 A4455 from (Md.tr Md.rf hA4455 rfl)) rfl) hV4455 (by omega) (by omega) (by omega) (by omega))
                            · skip
                              show GW κ 8 0 0 (wM r g I328 A328 L328) 95 [(4, .long x3907), (3, .int x3908), (2, .int y3191), (1, .int x326), (0, .ref (r 0))] [.int 1]
                              exfalso; omega
                          · skip
                            show GW κ 8 0 0 (wM r g I328 A328 L328) 92 [(4, .long x3907), (3, .int x3908), (2, .int y3191), (1, .int x326), (0, .ref (r 0))] [.int y4359]
                            refine g_callS (n := 1) hk (j119_X12_isLetter l D zt r g I328 A328 L328 y4359 hV328) (SP.same _) (fun _ h => h) (gi_S (List.mem_cons_of_mem _ (List.mem_append_left _ (List.mem_of_getElem? (i := 6) rfl))) (List.mem_cons_of_mem _ (List.mem_append_left _ (List.mem_of_getElem? (i := 7) rfl))) (List.mem_cons_of_mem _ (List.mem_append_left _ (List.mem_of_getElem? (i := 4) rfl))) (gi_sub (fun w h => (List.mem_cons_of_mem _ (List.mem_append_right _ (List.mem_append_right _ (List.mem_append_right _ (List.mem_append_left _ h)))))) zg_j119_X12_isLetter)) rfl rfl rfl (by decide +kernel) ⟨Nat.le_of_ble_eq_true rfl, Nat.le_of_ble_eq_true rfl⟩ rfl rfl (Nat.le_of_ble_eq_true rfl) ⟨Nat.le_of_ble_eq_true rfl, Nat.le_of_ble_eq_true rfl⟩ dX12_cut_92 (fun v ty' w' hp hk' => ?_)
                            rcases hp with ⟨rfl, rfl⟩ | ⟨c4460, c4461, c4462, c4463, rfl, rfl⟩
                            · skip
                              show GW κ 8 0 0 (wM r g I328 A328 L328) 95 [(4, .long x3907), (3, .int x3908), (2, .int y3191), (1, .int x326), (0, .ref (r 0))] [.int 0]
                              refine g_if_eq (tgt := 124) (a := 0) hk dX12_cut_95 (by decide) rfl (fun _ => ?_) (fun z9 => absurd (show (0 : Int) = (0 : Int) from by decide) z9)
                              refine g_iload_n hk dX12_cut_124 rfl ?_
                              refine g_bipush (v := 8) hk dX12_cut_125 (by decide) ?_
                              refine g_icmp_le (tgt := 134) (a := x3908.toInt) (b := 8) hk dX12_cut_127 (by decide) rfl rfl (fun c4465 => ?_) (fun c4465 => ?_)
                              · skip
                                refine g_iconst (v := 1) hk dX12_cut_134 (by decide) ?_
                                refine g_istore (lv' := [(6, .int 1), (4, .long x3907), (3, .int x3908), (2, .int y3191), (1, .int x326), (0, .ref (r 0))]) hk dX12_cut_135 (by decide) rfl ?_
                                refine g_iload_n hk dX12_cut_137 rfl ?_
                                refine g_bipush (v := 8) hk dX12_cut_138 (by decide) ?_
                                refine g_icmp_gt (tgt := 179) (a := x3908.toInt) (b := 8) hk dX12_cut_140 (by decide) rfl rfl (fun z9 => absurd z9 (show ¬ (8 < x3908.toInt) from by omega)) (fun _ => ?_)
                                refine g_iconst (v := 0) hk dX12_cut_143 (by decide) ?_
                                refine g_istore (lv' := [(7, .int 0), (6, .int 1), (4, .long x3907), (3, .int x3908), (2, .int y3191), (1, .int x326), (0, .ref (r 0))]) hk dX12_cut_144 (by decide) rfl ?_
                                have lp4533 : ∀ (n4534 : Nat) (x4466 : Int32) (x4467 : Int32), (0 ≤ x4466.toInt) → (x4466.toInt ≤ 13) → (1 ≤ x4467.toInt) → (x4467.toInt ≤ 32) → (14 - x4466.toInt < (n4534 : Int)) → (0 < n4534) → GW κ 8 0 0 (wM r g I328 A328 L328) 146 [(7, .int x4466), (6, .int x4467), (4, .long x3907), (3, .int x3908), (2, .int y3191), (1, .int x326), (0, .ref (r 0))] [] := by
                                  intro n4534
                                  induction n4534 with
                                  | zero =>
                                    intro x4466 x4467 h4529 h4530 h4531 h4532 m4535 m4535z
                                    exact absurd m4535z (Nat.lt_irrefl 0)
                                  | succ n4534 ih4536 =>
                                    intro x4466 x4467 h4529 h4530 h4531 h4532 m4535 m4535z
                                    refine g_iload hk dX12_cut_146 rfl ?_
                                    refine g_bipush (v := 13) hk dX12_cut_148 (by decide) ?_
                                    refine g_icmp_ge (tgt := 179) (a := x4466.toInt) (b := 13) hk dX12_cut_150 (by decide) rfl rfl (fun c4537 => ?_) (fun c4537 => ?_)
                                    · skip
                                      refine g_aload_n hk dX12_cut_179 rfl ?_
                                      refine g_iload hk dX12_cut_180 rfl ?_
                                      refine g_iload_n hk dX12_cut_182 rfl ?_
                                      refine g_iconst (v := 0) hk dX12_cut_183 (by decide) ?_
                                      refine g_lload hk dX12_cut_184 rfl ?_
                                      have k4538 : (0 : Int32).toInt = 0 := rfl
                                      refine g_callV (n := 4) hk (j122_X12_token l D zt r g I328 A328 L328 x4467 x326 0 x3907 hV328 (by omega)) (SP.same _) (fun _ h => h) (gi_V (List.mem_cons_of_mem _ (List.mem_append_left _ (List.mem_of_getElem? (i := 13) rfl))) (List.mem_cons_of_mem _ (List.mem_append_left _ (List.mem_of_getElem? (i := 14) rfl))) (List.mem_cons_of_mem _ (List.mem_append_left _ (List.mem_of_getElem? (i := 15) rfl))) (List.mem_cons_of_mem _ (List.mem_append_left _ (List.mem_of_getElem? (i := 4) rfl))) (gi_sub (fun w h => (List.mem_cons_of_mem _ (List.mem_append_right _ (List.mem_append_right _ (List.mem_append_right _ (List.mem_append_right _ (List.mem_append_right _ (List.mem_append_right _ (List.mem_append_left _ h))))))))) zg_j122_X12_token)) rfl rfl rfl (by decide +kernel) ⟨Nat.le_of_ble_eq_true rfl, Nat.le_of_ble_eq_true rfl⟩ 0 rfl rfl rfl rfl (Nat.le_of_ble_eq_true rfl) ⟨Nat.le_of_ble_eq_true rfl, Nat.le_of_ble_eq_true rfl⟩ dX12_cut_186 (fun v ty' w' hp hk' => ?_)
                                      obtain ⟨I4540, A4540, L4540, hI4540, hA4540, hV4540, r4541, rfl, rfl⟩ := hp
                                      have f4542 := IvM_f3 hV4540
                                      show GW κ 8 0 0 (wM r g I4540 A4540 L4540) 189 [(7, .int x4466), (6, .int x4467), (4, .long x3907), (3, .int x3908), (2, .int y3191), (1, .int x326), (0, .ref (r 0))] []
                                      refine g_iload_n hk dX12_cut_189 rfl ?_
                                      refine g_iload_n hk dX12_cut_190 rfl ?_
                                      refine g_iadd hk dX12_cut_191 ?_
                                      refine g_topi (fun y4543 ey4543 => ?_)
                                      have hy4543 : y4543.toInt = x326.toInt + x3908.toInt := i32_add ey4543 rfl rfl (by omega) (by omega)
                                      refine g_istore_n (lv' := [(1, .int y4543), (7, .int x4466), (6, .int x4467), (4, .long x3907), (3, .int x3908), (2, .int y3191), (0, .ref (r 0))]) hk dX12_cut_192 (by decide) rfl ?_
                                      refine g_goto (tgt := 291) hk dX12_cut_193 (by decide) ?_
                                      refine g_goto (tgt := 7) hk dX12_cut_291 (by decide) ?_
                                      exact g_lv (List.forall_mem_cons.mpr ⟨List.mem_of_getElem? (i := 0) rfl, (List.forall_mem_cons.mpr ⟨List.mem_of_getElem? (i := 6) rfl, (fun _ h => absurd h List.not_mem_nil)⟩)⟩) (ih3186 y4543 I4540 A4540 L4540 (show Md [3] (upd I 3 0) I4540 from Md.tr hI328 (show Md [3] I328 I4540 from (Md.tr Md.rf hI4540 rfl)) rfl) (show Md [2, 3, 4] A A4540 from Md.tr hA328 (show Md [2, 3, 4] A328 A4540 from (Md.tr Md.rf hA4540 rfl)) rfl) hV4540 (by omega) (by omega) (by omega) (by omega))
                                    · skip
                                      refine g_aload_n hk dX12_cut_153 rfl ?_
                                      refine gM_r0_9 hk hin12 (List.mem_cons_of_mem _ (List.mem_append_left _ (List.mem_of_getElem? (i := 16) rfl))) dX12_cut_154 ?_
                                      refine g_iload hk dX12_cut_157 rfl ?_
                                      refine lM_6 hk (vp_in_iff.mpr ⟨by omega, by omega⟩) rfl dX12_cut_159 ?_
                                      refine g_topl (fun y4544 ey4544 => ?_)
                                      refine g_lload hk dX12_cut_160 rfl ?_
                                      refine g_lcmp hk dX12_cut_162 ?_
                                      refine g_topi (fun y4545 ey4545 => ?_)
                                      have b4546l := Int32.le_toInt y4545
                                      have b4546h := Int32.toInt_lt y4545
                                      refine g_if_ne (tgt := 173) (a := y4545.toInt) hk dX12_cut_163 (by decide) rfl (fun c4547 => ?_) (fun c4547 => ?_)
                                      · skip
                                        obtain ⟨y4548, ey4548⟩ : ∃ y : Int32, y = x4466 + Int32.ofInt 1 := ⟨_, rfl⟩
                                        have hy4548 : y4548.toInt = x4466.toInt + 1 := i32_add ey4548 rfl (by decide) (by omega) (by omega)
                                        refine g_iinc (v := y4548) (lv' := [(7, .int y4548), (6, .int x4467), (4, .long x3907), (3, .int x3908), (2, .int y3191), (1, .int x326), (0, .ref (r 0))]) hk 0 dX12_cut_173 rfl ey4548.symm (by decide) rfl ?_
                                        refine g_goto (tgt := 146) hk dX12_cut_176 (by decide) ?_
                                        exact g_lv (List.forall_mem_cons.mpr ⟨List.mem_of_getElem? (i := 0) rfl, (List.forall_mem_cons.mpr ⟨List.mem_of_getElem? (i := 1) rfl, (List.forall_mem_cons.mpr ⟨List.mem_of_getElem? (i := 2) rfl, (List.forall_mem_cons.mpr ⟨List.mem_of_getElem? (i := 3) rfl, (List.forall_mem_cons.mpr ⟨List.mem_of_getElem? (i := 4) rfl, (List.forall_mem_cons.mpr ⟨List.mem_of_getElem? (i := 5) rfl, (List.forall_mem_cons.mpr ⟨List.mem_of_getElem? (i := 6) rfl, (fun _ h => absurd h List.not_mem_nil)⟩)⟩)⟩)⟩)⟩)⟩)⟩) (ih4536 y4548 x4467 (by omega) (by omega) (by omega) (by omega) (by omega) (by omega))
                                      · skip
                                        refine g_bipush (v := 20) hk dX12_cut_166 (by decide) ?_
                                        refine g_iload hk dX12_cut_168 rfl ?_
                                        refine g_iadd hk dX12_cut_170 ?_
                                        refine g_topi (fun y4549 ey4549 => ?_)
                                        have hy4549 : y4549.toInt = 20 + x4466.toInt := i32_add ey4549 rfl rfl (by omega) (by omega)
                                        refine g_istore (lv' := [(6, .int y4549), (7, .int x4466), (4, .long x3907), (3, .int x3908), (2, .int y3191), (1, .int x326), (0, .ref (r 0))]) hk dX12_cut_171 (by decide) rfl ?_
                                        obtain ⟨y4550, ey4550⟩ : ∃ y : Int32, y = x4466 + Int32.ofInt 1 := ⟨_, rfl⟩
                                        have hy4550 : y4550.toInt = x4466.toInt + 1 := i32_add ey4550 rfl (by decide) (by omega) (by omega)
                                        refine g_iinc (v := y4550) (lv' := [(7, .int y4550), (6, .int y4549), (4, .long x3907), (3, .int x3908), (2, .int y3191), (1, .int x326), (0, .ref (r 0))]) hk 1 dX12_cut_173 rfl ey4550.symm (by decide) rfl ?_
                                        refine g_goto (tgt := 146) hk dX12_cut_176 (by decide) ?_
                                        exact g_lv (List.forall_mem_cons.mpr ⟨List.mem_of_getElem? (i := 0) rfl, (List.forall_mem_cons.mpr ⟨List.mem_of_getElem? (i := 1) rfl, (List.forall_mem_cons.mpr ⟨List.mem_of_getElem? (i := 2) rfl, (List.forall_mem_cons.mpr ⟨List.mem_of_getElem? (i := 3) rfl, (List.forall_mem_cons.mpr ⟨List.mem_of_getElem? (i := 4) rfl, (List.forall_mem_cons.mpr ⟨List.mem_of_getElem? (i := 5) rfl, (List.forall_mem_cons.mpr ⟨List.mem_of_getElem? (i := 6) rfl, (fun _ h => absurd h List.not_mem_nil)⟩)⟩)⟩)⟩)⟩)⟩)⟩) (ih4536 y4550 y4549 (by omega) (by omega) (by omega) (by omega) (by omega) (by omega))
                                have k4551 : (0 : Int32).toInt = 0 := rfl
                                have k4552 : (1 : Int32).toInt = 1 := rfl
                                obtain ⟨n4553, n4553a, n4553b⟩ : ∃ n : Nat, 14 - (0 : Int32).toInt < (n : Int) ∧ 0 < n := ⟨((14 - (0 : Int32).toInt : Int)).toNat + 1, by omega, by omega⟩
                                exact lp4533 n4553 0 1 (by omega) (by omega) (by omega) (by omega) n4553a n4553b
                              · skip
                                refine g_iconst (v := 3) hk dX12_cut_130 (by decide) ?_
                                refine g_goto (tgt := 135) hk dX12_cut_131 (by decide) ?_
                                refine g_istore (lv' := [(6, .int 3), (4, .long x3907), (3, .int x3908), (2, .int y3191), (1, .int x326), (0, .ref (r 0))]) hk dX12_cut_135 (by decide) rfl ?_
                                refine g_iload_n hk dX12_cut_137 rfl ?_
                                refine g_bipush (v := 8) hk dX12_cut_138 (by decide) ?_
                                refine g_icmp_gt (tgt := 179) (a := x3908.toInt) (b := 8) hk dX12_cut_140 (by decide) rfl rfl (fun _ => ?_) (fun z9 => absurd (show 8 < x3908.toInt from by omega) z9)
                                refine g_aload_n hk dX12_cut_179 rfl ?_
                                refine g_iload hk dX12_cut_180 rfl ?_
                                refine g_iload_n hk dX12_cut_182 rfl ?_
                                refine g_iconst (v := 0) hk dX12_cut_183 (by decide) ?_
                                refine g_lload hk dX12_cut_184 rfl ?_
                                have k4554 : (3 : Int32).toInt = 3 := rfl
                                have k4555 : (0 : Int32).toInt = 0 := rfl
                                refine g_callV (n := 4) hk (j122_X12_token l D zt r g I328 A328 L328 3 x326 0 x3907 hV328 (by omega)) (SP.same _) (fun _ h => h) (gi_V (List.mem_cons_of_mem _ (List.mem_append_left _ (List.mem_of_getElem? (i := 13) rfl))) (List.mem_cons_of_mem _ (List.mem_append_left _ (List.mem_of_getElem? (i := 14) rfl))) (List.mem_cons_of_mem _ (List.mem_append_left _ (List.mem_of_getElem? (i := 15) rfl))) (List.mem_cons_of_mem _ (List.mem_append_left _ (List.mem_of_getElem? (i := 4) rfl))) (gi_sub (fun w h => (List.mem_cons_of_mem _ (List.mem_append_right _ (List.mem_append_right _ (List.mem_append_right _ (List.mem_append_right _ (List.mem_append_right _ (List.mem_append_right _ (List.mem_append_left _ h))))))))) zg_j122_X12_token)) rfl rfl rfl (by decide +kernel) ⟨Nat.le_of_ble_eq_true rfl, Nat.le_of_ble_eq_true rfl⟩ 0 rfl rfl rfl rfl (Nat.le_of_ble_eq_true rfl) ⟨Nat.le_of_ble_eq_true rfl, Nat.le_of_ble_eq_true rfl⟩ dX12_cut_186 (fun v ty' w' hp hk' => ?_)
                                obtain ⟨I4557, A4557, L4557, hI4557, hA4557, hV4557, r4558, rfl, rfl⟩ := hp
                                have f4559 := IvM_f3 hV4557
                                show GW κ 8 0 0 (wM r g I4557 A4557 L4557) 189 [(6, .int 3), (4, .long x3907), (3, .int x3908), (2, .int y3191), (1, .int x326), (0, .ref (r 0))] []
                                refine g_iload_n hk dX12_cut_189 rfl ?_
                                refine g_iload_n hk dX12_cut_190 rfl ?_
                                refine g_iadd hk dX12_cut_191 ?_
                                refine g_topi (fun y4560 ey4560 => ?_)
                                have hy4560 : y4560.toInt = x326.toInt + x3908.toInt := i32_add ey4560 rfl rfl (by omega) (by omega)
                                refine g_istore_n (lv' := [(1, .int y4560), (6, .int 3), (4, .long x3907), (3, .int x3908), (2, .int y3191), (0, .ref (r 0))]) hk dX12_cut_192 (by decide) rfl ?_
                                refine g_goto (tgt := 291) hk dX12_cut_193 (by decide) ?_
                                refine g_goto (tgt := 7) hk dX12_cut_291 (by decide) ?_
                                exact g_lv (List.forall_mem_cons.mpr ⟨List.mem_of_getElem? (i := 0) rfl, (List.forall_mem_cons.mpr ⟨List.mem_of_getElem? (i := 5) rfl, (fun _ h => absurd h List.not_mem_nil)⟩)⟩) (ih3186 y4560 I4557 A4557 L4557 (show Md [3] (upd I 3 0) I4557 from Md.tr hI328 (show Md [3] I328 I4557 from (Md.tr Md.rf hI4557 rfl)) rfl) (show Md [2, 3, 4] A A4557 from Md.tr hA328 (show Md [2, 3, 4] A328 A4557 from (Md.tr Md.rf hA4557 rfl)) rfl) hV4557 (by omega) (by omega) (by omega) (by omega))
                            · skip
                              show GW κ 8 0 0 (wM r g I328 A328 L328) 95 [(4, .long x3907), (3, .int x3908), (2, .int y3191), (1, .int x326), (0, .ref (r 0))] [.int 1]
                              refine g_if_eq (tgt := 124) (a := 1) hk dX12_cut_95 (by decide) rfl (fun z9 => absurd z9 (show ¬ ((1 : Int) = (0 : Int)) from by decide)) (fun _ => ?_)
                              refine g_iload_n hk dX12_cut_98 rfl ?_
                              refine g_bipush (v := 8) hk dX12_cut_99 (by decide) ?_
                              refine g_icmp_ge (tgt := 118) (a := x3908.toInt) (b := 8) hk dX12_cut_101 (by decide) rfl rfl (fun c4561 => ?_) (fun c4561 => ?_)
                              · skip
                                obtain ⟨y4562, ey4562⟩ : ∃ y : Int32, y = x3908 + Int32.ofInt 1 := ⟨_, rfl⟩
                                have hy4562 : y4562.toInt = x3908.toInt + 1 := i32_add ey4562 rfl (by decide) (by omega) (by omega)
                                refine g_iinc (v := y4562) (lv' := [(3, .int y4562), (4, .long x3907), (2, .int y3191), (1, .int x326), (0, .ref (r 0))]) hk 1 dX12_cut_118 rfl ey4562.symm (by decide) rfl ?_
                                refine g_goto (tgt := 85) hk dX12_cut_121 (by decide) ?_
                                exact g_lv (List.forall_mem_cons.mpr ⟨List.mem_of_getElem? (i := 1) rfl, (List.forall_mem_cons.mpr ⟨List.mem_of_getElem? (i := 0) rfl, (List.forall_mem_cons.mpr ⟨List.mem_of_getElem? (i := 2) rfl, (List.forall_mem_cons.mpr ⟨List.mem_of_getElem? (i := 3) rfl, (List.forall_mem_cons.mpr ⟨List.mem_of_getElem? (i := 4) rfl, (fun _ h => absurd h List.not_mem_nil)⟩)⟩)⟩)⟩)⟩) (ih4355 x3907 y4562 (by omega) (by omega) (by omega) (by omega) (by omega))
                              · skip
                                refine g_lload hk dX12_cut_104 rfl ?_
                                refine g_aload_n hk dX12_cut_106 rfl ?_
                                refine g_iload_n hk dX12_cut_107 rfl ?_
                                refine g_iload_n hk dX12_cut_108 rfl ?_
                                refine g_iadd hk dX12_cut_109 ?_
                                refine g_topi (fun y4563 ey4563 => ?_)
                                have hy4563 : y4563.toInt = x326.toInt + x3908.toInt := i32_add ey4563 rfl rfl (by omega) (by omega)
                                refine g_callV (n := 1) hk (j118_X12_byteAt l D zt r g I328 A328 L328 y4563 hV328 (by omega)) (SP.same _) (fun _ h => h) (gi_V (List.mem_cons_of_mem _ (List.mem_append_left _ (List.mem_of_getElem? (i := 1) rfl))) (List.mem_cons_of_mem _ (List.mem_append_left _ (List.mem_of_getElem? (i := 2) rfl))) (List.mem_cons_of_mem _ (List.mem_append_left _ (List.mem_of_getElem? (i := 3) rfl))) (List.mem_cons_of_mem _ (List.mem_append_left _ (List.mem_of_getElem? (i := 4) rfl))) (gi_sub (fun w h => (List.mem_cons_of_mem _ (List.mem_append_right _ (List.mem_append_right _ (List.mem_append_left _ h))))) zg_j118_X12_byteAt)) rfl rfl rfl (by decide +kernel) ⟨Nat.le_of_ble_eq_true rfl, Nat.le_of_ble_eq_true rfl⟩ 0 rfl rfl rfl rfl (Nat.le_of_ble_eq_true rfl) ⟨Nat.le_of_ble_eq_true rfl, Nat.le_of_ble_eq_true rfl⟩ dX12_cut_110 (fun v ty' w' hp hk' => ?_)
                                rcases hp with ⟨rfl, rfl⟩ | ⟨y4566, c4565, c4567, c4568, rfl, rfl⟩
                                · skip
                                  show GW κ 8 0 0 (wM r g I328 A328 L328) 113 [(4, .long x3907), (3, .int x3908), (2, .int y3191), (1, .int x326), (0, .ref (r 0))] [.int 0, .long x3907]
                                  have k4569 : (0 : Int32).toInt = 0 := rfl
                                  refine g_callS (n := 2) hk (j123_X12_appends l D zt r g I328 A328 L328 x3907 0 hV328) (SP.same _) (fun _ h => h) (gi_S (List.mem_cons_of_mem _ (List.mem_append_left _ (List.mem_of_getElem? (i := 17) rfl))) (List.mem_cons_of_mem _ (List.mem_append_left _ (List.mem_of_getElem? (i := 18) rfl))) (List.mem_cons_of_mem _ (List.mem_append_left _ (List.mem_of_getElem? (i := 4) rfl))) (gi_sub (fun w h => (List.mem_cons_of_mem _ (List.mem_append_right _ (List.mem_append_right _ (List.mem_append_right _ (List.mem_append_right _ (List.mem_append_right _ (List.mem_append_right _ (List.mem_append_right _ (List.mem_append_left _ h)))))))))) zg_j123_X12_appends)) rfl rfl rfl (by decide +kernel) ⟨Nat.le_of_ble_eq_true rfl, Nat.le_of_ble_eq_true rfl⟩ rfl rfl (Nat.le_of_ble_eq_true rfl) ⟨Nat.le_of_ble_eq_true rfl, Nat.le_of_ble_eq_true rfl⟩ dX12_cut_113 (fun v ty' w' hp hk' => ?_)
                                  obtain ⟨y4570, rfl, rfl⟩ := hp
                                  show GW κ 8 0 0 (wM r g I328 A328 L328) 116 [(4, .long x3907), (3, .int x3908), (2, .int y3191), (1, .int x326), (0, .ref (r 0))] [.long y4570]
                                  refine g_lstore (lv' := [(4, .long y4570), (3, .int x3908), (2, .int y3191), (1, .int x326), (0, .ref (r 0))]) hk dX12_cut_116 (by decide) rfl ?_
                                  obtain ⟨y4571, ey4571⟩ : ∃ y : Int32, y = x3908 + Int32.ofInt 1 := ⟨_, rfl⟩
                                  have hy4571 : y4571.toInt = x3908.toInt + 1 := i32_add ey4571 rfl (by decide) (by omega) (by omega)
                                  refine g_iinc (v := y4571) (lv' := [(3, .int y4571), (4, .long y4570), (2, .int y3191), (1, .int x326), (0, .ref (r 0))]) hk 1 dX12_cut_118 rfl ey4571.symm (by decide) rfl ?_
                                  refine g_goto (tgt := 85) hk dX12_cut_121 (by decide) ?_
                                  exact g_lv (List.forall_mem_cons.mpr ⟨List.mem_of_getElem? (i := 1) rfl, (List.forall_mem_cons.mpr ⟨List.mem_of_getElem? (i := 0) rfl, (List.forall_mem_cons.mpr ⟨List.mem_of_getElem? (i := 2) rfl, (List.forall_mem_cons.mpr ⟨List.mem_of_getElem? (i := 3) rfl, (List.forall_mem_cons.mpr ⟨List.mem_of_getElem? (i := 4) rfl, (fun _ h => absurd h List.not_mem_nil)⟩)⟩)⟩)⟩)⟩) (ih4355 y4570 y4571 (by omega) (by omega) (by omega) (by omega) (by omega))
                                · skip
                                  show GW κ 8 0 0 (wM r g I328 A328 L328) 113 [(4, .long x3907), (3, .int x3908), (2, .int y3191), (1, .int x326), (0, .ref (r 0))] [.int y4566, .long x3907]
                                  refine g_callS (n := 2) hk (j123_X12_appends l D zt r g I328 A328 L328 x3907 y4566 hV328) (SP.same _) (fun _ h => h) (gi_S (List.mem_cons_of_mem _ (List.mem_append_left _ (List.mem_of_getElem? (i := 17) rfl))) (List.mem_cons_of_mem _ (List.mem_append_left _ (List.mem_of_getElem? (i := 18) rfl))) (List.mem_cons_of_mem _ (List.mem_append_left _ (List.mem_of_getElem? (i := 4) rfl))) (gi_sub (fun w h => (List.mem_cons_of_mem _ (List.mem_append_right _ (List.mem_append_right _ (List.mem_append_right _ (List.mem_append_right _ (List.mem_append_right _ (List.mem_append_right _ (List.mem_append_right _ (List.mem_append_left _ h)))))))))) zg_j123_X12_appends)) rfl rfl rfl (by decide +kernel) ⟨Nat.le_of_ble_eq_true rfl, Nat.le_of_ble_eq_true rfl⟩ rfl rfl (Nat.le_of_ble_eq_true rfl) ⟨Nat.le_of_ble_eq_true rfl, Nat.le_of_ble_eq_true rfl⟩ dX12_cut_113 (fun v ty' w' hp hk' => ?_)
                                  obtain ⟨y4572, rfl, rfl⟩ := hp
                                  show GW κ 8 0 0 (wM r g I328 A328 L328) 116 [(4, .long x3907), (3, .int x3908), (2, .int y3191), (1, .int x326), (0, .ref (r 0))] [.long y4572]
                                  refine g_lstore (lv' := [(4, .long y4572), (3, .int x3908), (2, .int y3191), (1, .int x326), (0, .ref (r 0))]) hk dX12_cut_116 (by decide) rfl ?_
                                  obtain ⟨y4573, ey4573⟩ : ∃ y : Int32, y = x3908 + Int32.ofInt 1 := ⟨_, rfl⟩
                                  have hy4573 : y4573.toInt = x3908.toInt + 1 := i32_add ey4573 rfl (by decide) (by omega) (by omega)
                                  refine g_iinc (v := y4573) (lv' := [(3, .int y4573), (4, .long y4572), (2, .int y3191), (1, .int x326), (0, .ref (r 0))]) hk 1 dX12_cut_118 rfl ey4573.symm (by decide) rfl ?_
                                  refine g_goto (tgt := 85) hk dX12_cut_121 (by decide) ?_
                                  exact g_lv (List.forall_mem_cons.mpr ⟨List.mem_of_getElem? (i := 1) rfl, (List.forall_mem_cons.mpr ⟨List.mem_of_getElem? (i := 0) rfl, (List.forall_mem_cons.mpr ⟨List.mem_of_getElem? (i := 2) rfl, (List.forall_mem_cons.mpr ⟨List.mem_of_getElem? (i := 3) rfl, (List.forall_mem_cons.mpr ⟨List.mem_of_getElem? (i := 4) rfl, (fun _ h => absurd h List.not_mem_nil)⟩)⟩)⟩)⟩)⟩) (ih4355 y4572 y4573 (by omega) (by omega) (by omega) (by omega) (by omega))
                      have k4574 : (0 : Int32).toInt = 0 := rfl
                      obtain ⟨n4575, n4575a, n4575b⟩ : ∃ n : Nat, 2001 - x326.toInt - (0 : Int32).toInt < (n : Int) ∧ 0 < n := ⟨((2001 - x326.toInt - (0 : Int32).toInt : Int)).toNat + 1, by omega, by omega⟩
                      exact lp4352 n4575 0 0 (by omega) (by omega) (by omega) n4575a n4575b
                  · skip
                    obtain ⟨y4576, ey4576⟩ : ∃ y : Int32, y = x326 + Int32.ofInt 1 := ⟨_, rfl⟩
                    have hy4576 : y4576.toInt = x326.toInt + 1 := i32_add ey4576 rfl (by decide) (by omega) (by omega)
                    refine g_iinc (v := y4576) (lv' := [(1, .int y4576), (2, .int y3191), (0, .ref (r 0))]) hk 1 dX12_cut_67 rfl ey4576.symm (by decide) rfl ?_
                    refine g_goto (tgt := 291) hk dX12_cut_70 (by decide) ?_
                    refine g_goto (tgt := 7) hk dX12_cut_291 (by decide) ?_
                    exact g_lv (List.forall_mem_cons.mpr ⟨List.mem_of_getElem? (i := 0) rfl, (List.forall_mem_cons.mpr ⟨List.mem_of_getElem? (i := 2) rfl, (fun _ h => absurd h List.not_mem_nil)⟩)⟩) (ih3186 y4576 I328 A328 L328 (show Md [3] (upd I 3 0) I328 from Md.tr hI328 (show Md [3] I328 I328 from Md.rf) rfl) (show Md [2, 3, 4] A A328 from Md.tr hA328 (show Md [2, 3, 4] A328 A328 from Md.rf) rfl) hV328 (by omega) (by omega) (by omega) (by omega))
          · skip
            refine g_aload_n hk dX12_cut_31 rfl ?_
            refine g_iconst (v := 0) hk dX12_cut_32 (by decide) ?_
            refine g_aload_n hk dX12_cut_33 rfl ?_
            refine gM_i2 (v := (I 2)) hk hin12 (List.mem_cons_of_mem _ (List.mem_append_left _ (List.mem_of_getElem? (i := 5) rfl))) dX12_cut_34 (hI328 2 rfl) ?_
            refine g_iconst (v := 0) hk dX12_cut_37 (by decide) ?_
            refine g_lconst (v := 0) hk dX12_cut_38 (by decide) ?_
            have k4577 : (0 : Int32).toInt = 0 := rfl
            refine g_callV (n := 4) hk (j122_X12_token l D zt r g I328 A328 L328 0 (I 2) 0 0 hV328 (by omega)) (SP.same _) (fun _ h => h) (gi_V (List.mem_cons_of_mem _ (List.mem_append_left _ (List.mem_of_getElem? (i := 13) rfl))) (List.mem_cons_of_mem _ (List.mem_append_left _ (List.mem_of_getElem? (i := 14) rfl))) (List.mem_cons_of_mem _ (List.mem_append_left _ (List.mem_of_getElem? (i := 15) rfl))) (List.mem_cons_of_mem _ (List.mem_append_left _ (List.mem_of_getElem? (i := 4) rfl))) (gi_sub (fun w h => (List.mem_cons_of_mem _ (List.mem_append_right _ (List.mem_append_right _ (List.mem_append_right _ (List.mem_append_right _ (List.mem_append_right _ (List.mem_append_right _ (List.mem_append_left _ h))))))))) zg_j122_X12_token)) rfl rfl rfl (by decide +kernel) ⟨Nat.le_of_ble_eq_true rfl, Nat.le_of_ble_eq_true rfl⟩ 0 rfl rfl rfl rfl (Nat.le_of_ble_eq_true rfl) ⟨Nat.le_of_ble_eq_true rfl, Nat.le_of_ble_eq_true rfl⟩ dX12_cut_39 (fun v ty' w' hp hk' => ?_)
            obtain ⟨I4579, A4579, L4579, hI4579, hA4579, hV4579, r4580, rfl, rfl⟩ := hp
            have f4581 := IvM_f3 hV4579
            show GW κ 8 0 0 (wM r g I4579 A4579 L4579) 42 [(2, .int y3191), (1, .int x326), (0, .ref (r 0))] []
            exact g_vret hk hR ⟨I4579, A4579, L4579, (show Md [3] I I4579 from (Md.tr (Md.tr (Md.up Md.rf rfl) hI328 rfl) hI4579 rfl)), (show Md [2, 3, 4] A A4579 from (Md.tr (Md.tr Md.rf hA328 rfl) hA4579 rfl)), hV4579, rfl, rfl⟩ dX12_cut_42
  have k4582 : (0 : Int32).toInt = 0 := rfl
  obtain ⟨n4583, n4583a, n4583b⟩ : ∃ n : Nat, 2001 - (0 : Int32).toInt + (402 - (0 : Int32).toInt) < (n : Int) ∧ 0 < n := ⟨((2001 - (0 : Int32).toInt + (402 - (0 : Int32).toInt) : Int)).toNat + 1, by omega, by omega⟩
  exact lp3183 n4583 0 (upd I 3 0) A L Md.rf Md.rf ⟨(IvM_f1 (I := I) (A := A) hIv), (IvM_f2 (I := I) (A := A) hIv), (show 0 ≤ (0 : Int32).toInt ∧ (0 : Int32).toInt ≤ 401 from ⟨by decide, by decide⟩), (IvM_f4 (I := I) (A := A) hIv), (IvM_f6 (I := I) (A := A) hIv), (IvM_f8 (I := I) (A := A) hIv), (IvM_f15 (I := I) (A := A) hIv), (IvM_f16 (I := I) (A := A) hIv), (IvM_f17 (I := I) (A := A) hIv), (IvM_f18 (I := I) (A := A) hIv), (IvM_f22 (I := I) (A := A) hIv), (IvM_f23 (I := I) (A := A) hIv), (IvM_f24 (I := I) (A := A) hIv), (IvM_a11 (I := I) (A := A) hIv), (IvM_a26 (I := I) (A := A) hIv), (IvM_s8_0 (I := I) (A := A) hIv), (IvM_s8_1 (I := I) (A := A) hIv), (IvM_s10_0 (I := I) (A := A) hIv), (IvM_s10_1 (I := I) (A := A) hIv), (IvM_s17_0 (I := I) (A := A) hIv), (IvM_s17_164 (I := I) (A := A) hIv), (IvM_lv (I := I) (A := A) hIv), (IvM_sd (I := I) (A := A) hIv), (IvM_nq (I := I) (A := A) hIv), (IvM_hr (I := I) (A := A) hIv), (IvM_hh (I := I) (A := A) hIv), trivial⟩ (by omega) (by omega) (by first | exact n4583a | (rw [show ((upd I 3 0) 3) = (0 : Int32) from rfl] <;> exact n4583a)) n4583b
def wo_j124_X12_plain : List Cond := [Cond.fieldLink RX12 43 "WarpDeskModel" "placesTold" "[I", Cond.fieldLink RX12 49 "WarpDeskModel" "queries" "[I", Cond.fieldLink RX12 58 "WarpDeskModel" "bandTold" "[I", Cond.fieldLink RX12 61 "WarpDeskModel" "levelTold" "[I", Cond.fieldLink RX12 64 "WarpDeskModel" "costTold" "[I", Cond.fieldLink RX12 67 "WarpDeskModel" "apartTold" "[I"]
def wz_j124_X12_plain : List Cond := .code yX12_plain cX12_plain 2 none :: (wo_j124_X12_plain ++ (wsX120 ++ ([] : List Cond)))
theorem zg_j124_X12_plain : ∀ w ∈ wz_j124_X12_plain, goodWord w = true := zg_cons rfl (zg_app (by decide +kernel) (zg_app zgU_wsX120 zg_nil))
theorem zi_j124_X12_plain : ∀ w ∈ wz_j124_X12_plain, w ∈ lw_tbl := zi_cons zw_1364 (zi_app (zi_cons zw_1404 (zi_cons zw_1406 (zi_cons zw_1409 (zi_cons zw_1410 (zi_cons zw_1411 (zi_cons zw_1412 zi_nil)))))) (zi_app inX12 zi_nil))
set_option maxHeartbeats 4000000 in
set_option maxRecDepth 100000 in
theorem j124_X12_plain (l : Launch) (D : va_G) (zt : Nat × Nat × Nat × (Nat → Nat) × (Nat → Nat)) (r : Nat → Nat) (g : Nat → ClassId) (I : Nat → Int32) (A : Nat → Nat → Int32) (L : Nat → Nat → Int64) (z1 : Int32)  (hp0 : 0 ≤ z1.toInt) (hp1 : z1.toInt ≤ 1) : GM l D zt (tyM g) yX12_plain wz_j124_X12_plain ({ frames := 0, cells := 0, slots := 0, locals := 0 } : Room) [.ref (r 0), .int z1] (wM r g I A L) (fun v _ w' => v = none ∧ w' = wM r g I (up3 (up3 (up3 (up3 (up3 (up3 A 8 (z1.toNatClampNeg) 0) 10 (z1.toNatClampNeg) 0) 13 (z1.toNatClampNeg) 2) 14 (z1.toNatClampNeg) 0) 15 (z1.toNatClampNeg) 0) 16 (z1.toNatClampNeg) 8) L) 0 0 := by
  refine GM.of (cc := cX12_plain) (maxL := 2) (ret := none) (own := RX12) (lv := [(0, .ref (r 0)), (1, .int z1)]) (by decide) rfl rfl (Nat.le_of_ble_eq_true rfl) rfl (fun κ sz hk hR hN => ?_)
  have hin12 : ∀ w ∈ u_ws RX12 TX12 55, w ∈ wz_j124_X12_plain := fun w h => (List.mem_cons_of_mem _ (List.mem_append_right _ (List.mem_append_left _ h)))
  refine g_aload_n hk dX12_plain_0 rfl ?_
  refine gM_r0_26 hk hin12 (List.mem_cons_of_mem _ (List.mem_append_left _ (List.mem_of_getElem? (i := 0) rfl))) dX12_plain_1 ?_
  refine g_iload_n hk dX12_plain_4 rfl ?_
  refine g_iconst (v := 0) hk dX12_plain_5 (by decide) ?_
  have k4588 : (0 : Int32).toInt = 0 := rfl
  refine sM_8 (j := z1.toNatClampNeg) hk (vp_in_iff.mpr ⟨by omega, by omega⟩) rfl dX12_plain_6 ?_
  refine g_aload_n hk dX12_plain_7 rfl ?_
  refine gM_r0_28 hk hin12 (List.mem_cons_of_mem _ (List.mem_append_left _ (List.mem_of_getElem? (i := 1) rfl))) dX12_plain_8 ?_
  refine g_iload_n hk dX12_plain_11 rfl ?_
  refine g_iconst (v := 0) hk dX12_plain_12 (by decide) ?_
  refine sM_10 (j := z1.toNatClampNeg) hk (vp_in_iff.mpr ⟨by omega, by omega⟩) rfl dX12_plain_13 ?_
  refine g_aload_n hk dX12_plain_14 rfl ?_
  refine gM_r0_31 hk hin12 (List.mem_cons_of_mem _ (List.mem_append_left _ (List.mem_of_getElem? (i := 2) rfl))) dX12_plain_15 ?_
  refine g_iload_n hk dX12_plain_18 rfl ?_
  refine g_iconst (v := 2) hk dX12_plain_19 (by decide) ?_
  have k4589 : (2 : Int32).toInt = 2 := rfl
  refine sM_13 (j := z1.toNatClampNeg) hk (vp_in_iff.mpr ⟨by omega, by omega⟩) rfl dX12_plain_20 ?_
  refine g_aload_n hk dX12_plain_21 rfl ?_
  refine gM_r0_32 hk hin12 (List.mem_cons_of_mem _ (List.mem_append_left _ (List.mem_of_getElem? (i := 3) rfl))) dX12_plain_22 ?_
  refine g_iload_n hk dX12_plain_25 rfl ?_
  refine g_iconst (v := 0) hk dX12_plain_26 (by decide) ?_
  refine sM_14 (j := z1.toNatClampNeg) hk (vp_in_iff.mpr ⟨by omega, by omega⟩) rfl dX12_plain_27 ?_
  refine g_aload_n hk dX12_plain_28 rfl ?_
  refine gM_r0_33 hk hin12 (List.mem_cons_of_mem _ (List.mem_append_left _ (List.mem_of_getElem? (i := 4) rfl))) dX12_plain_29 ?_
  refine g_iload_n hk dX12_plain_32 rfl ?_
  refine g_iconst (v := 0) hk dX12_plain_33 (by decide) ?_
  refine sM_15 (j := z1.toNatClampNeg) hk (vp_in_iff.mpr ⟨by omega, by omega⟩) rfl dX12_plain_34 ?_
  refine g_aload_n hk dX12_plain_35 rfl ?_
  refine gM_r0_34 hk hin12 (List.mem_cons_of_mem _ (List.mem_append_left _ (List.mem_of_getElem? (i := 5) rfl))) dX12_plain_36 ?_
  refine g_iload_n hk dX12_plain_39 rfl ?_
  refine g_bipush (v := 8) hk dX12_plain_40 (by decide) ?_
  have k4590 : (8 : Int32).toInt = 8 := rfl
  refine sM_16 (j := z1.toNatClampNeg) hk (vp_in_iff.mpr ⟨by omega, by omega⟩) rfl dX12_plain_42 ?_
  exact g_vret hk hR ⟨rfl, rfl⟩ dX12_plain_43
def wo_j125_X12_is : List Cond := [Cond.fieldLink RX12 161 "WarpDeskModel" "fault" "I", Cond.fieldLink RX12 20 "WarpDeskModel" "tKind" "[I", Cond.fieldLink RX12 164 "WarpDeskModel" "t" "I"]
def wz_j125_X12_is : List Cond := .code yX12_is cX12_is 2 (some .boolean) :: (wo_j125_X12_is ++ (wsX120 ++ ([] : List Cond)))
theorem zg_j125_X12_is : ∀ w ∈ wz_j125_X12_is, goodWord w = true := zg_cons rfl (zg_app (by decide +kernel) (zg_app zgU_wsX120 zg_nil))
theorem zi_j125_X12_is : ∀ w ∈ wz_j125_X12_is, w ∈ lw_tbl := zi_cons zw_1586 (zi_app (zi_cons zw_1391 (zi_cons zw_1384 (zi_cons zw_1390 zi_nil))) (zi_app inX12 zi_nil))
set_option maxHeartbeats 4000000 in
set_option maxRecDepth 100000 in
theorem j125_X12_is (l : Launch) (D : va_G) (zt : Nat × Nat × Nat × (Nat → Nat) × (Nat → Nat)) (r : Nat → Nat) (g : Nat → ClassId) (I : Nat → Int32) (A : Nat → Nat → Int32) (L : Nat → Nat → Int64) (z1 : Int32) (hIv : IvM I A) : GM l D zt (tyM g) yX12_is wz_j125_X12_is ({ frames := 0, cells := 0, slots := 0, locals := 0 } : Room) [.ref (r 0), .int z1] (wM r g I A L) (fun v _ w' => ((Fc ((I 6).toInt ≠ 0 ∨ (A 2 (I 4).toNatClampNeg).toInt ≠ z1.toInt)) ∧ v = some (.int 0) ∧ w' = wM r g I A L) ∨ (((I 6).toInt = 0 ∧ (A 2 (I 4).toNatClampNeg).toInt = z1.toInt) ∧ v = some (.int 1) ∧ w' = wM r g I A L)) 0 0 := by
  refine GM.of (cc := cX12_is) (maxL := 2) (ret := (some .boolean)) (own := RX12) (lv := [(0, .ref (r 0)), (1, .int z1)]) (by decide) rfl rfl (Nat.le_of_ble_eq_true rfl) rfl (fun κ sz hk hR hN => ?_)
  have hin12 : ∀ w ∈ u_ws RX12 TX12 55, w ∈ wz_j125_X12_is := fun w h => (List.mem_cons_of_mem _ (List.mem_append_right _ (List.mem_append_left _ h)))
  refine g_aload_n hk dX12_is_0 rfl ?_
  refine gM_i6 (v := (I 6)) hk hin12 (List.mem_cons_of_mem _ (List.mem_append_left _ (List.mem_of_getElem? (i := 0) rfl))) dX12_is_1 rfl ?_
  have f4595 := IvM_f6 hIv
  refine g_if_ne (tgt := 24) (a := (I 6).toInt) hk dX12_is_4 (by decide) rfl (fun c4596 => ?_) (fun c4596 => ?_)
  · skip
    refine g_iconst (v := 0) hk dX12_is_24 (by decide) ?_
    exact g_iret hk hR rfl (Or.inl ⟨(fc (by omega)), rfl, rfl⟩) dX12_is_25
  · skip
    refine g_aload_n hk dX12_is_7 rfl ?_
    refine gM_r0_5 hk hin12 (List.mem_cons_of_mem _ (List.mem_append_left _ (List.mem_of_getElem? (i := 1) rfl))) dX12_is_8 ?_
    refine g_aload_n hk dX12_is_11 rfl ?_
    refine gM_i4 (v := (I 4)) hk hin12 (List.mem_cons_of_mem _ (List.mem_append_left _ (List.mem_of_getElem? (i := 2) rfl))) dX12_is_12 rfl ?_
    have f4597 := IvM_f4 hIv
    refine lM_2 (v := (A 2 (I 4).toNatClampNeg)) hk (vp_in_iff.mpr ⟨by omega, by omega⟩) rfl dX12_is_15 ?_
    refine g_iload_n hk dX12_is_16 rfl ?_
    have b4598l := Int32.le_toInt (A 2 (I 4).toNatClampNeg)
    have b4598h := Int32.toInt_lt (A 2 (I 4).toNatClampNeg)
    have b4599l := Int32.le_toInt z1
    have b4599h := Int32.toInt_lt z1
    refine g_icmp_ne (tgt := 24) (a := (A 2 (I 4).toNatClampNeg).toInt) (b := z1.toInt) hk dX12_is_17 (by decide) rfl rfl (fun c4600 => ?_) (fun c4600 => ?_)
    · skip
      refine g_iconst (v := 0) hk dX12_is_24 (by decide) ?_
      exact g_iret hk hR rfl (Or.inl ⟨(fc (by omega)), rfl, rfl⟩) dX12_is_25
    · skip
      refine g_iconst (v := 1) hk dX12_is_20 (by decide) ?_
      refine g_goto (tgt := 25) hk dX12_is_21 (by decide) ?_
      exact g_iret hk hR rfl (Or.inr (⟨(by omega), rfl, rfl⟩)) dX12_is_25
def wo_j128_X12_fail : List Cond := [Cond.fieldLink RX12 161 "WarpDeskModel" "fault" "I", Cond.fieldLink RX12 24 "WarpDeskModel" "tPlace" "[I", Cond.fieldLink RX12 164 "WarpDeskModel" "t" "I", Cond.fieldLink RX12 167 "WarpDeskModel" "faultPlace" "I", Cond.fieldLink RX12 170 "WarpDeskModel" "here" "I", Cond.fieldLink RX12 173 "WarpDeskModel" "faultCause" "I"]
def wz_j128_X12_fail : List Cond := .code yX12_fail cX12_fail 2 none :: (wo_j128_X12_fail ++ (wsX120 ++ ([] : List Cond)))
theorem zg_j128_X12_fail : ∀ w ∈ wz_j128_X12_fail, goodWord w = true := zg_cons rfl (zg_app (by decide +kernel) (zg_app zgU_wsX120 zg_nil))
theorem zi_j128_X12_fail : ∀ w ∈ wz_j128_X12_fail, w ∈ lw_tbl := zi_cons zw_1598 (zi_app (zi_cons zw_1391 (zi_cons zw_1385 (zi_cons zw_1390 (zi_cons zw_1392 (zi_cons zw_1396 (zi_cons zw_1397 zi_nil)))))) (zi_app inX12 zi_nil))
set_option maxHeartbeats 4000000 in
set_option maxRecDepth 100000 in
theorem j128_X12_fail (l : Launch) (D : va_G) (zt : Nat × Nat × Nat × (Nat → Nat) × (Nat → Nat)) (r : Nat → Nat) (g : Nat → ClassId) (I : Nat → Int32) (A : Nat → Nat → Int32) (L : Nat → Nat → Int64) (z1 : Int32) (hIv : IvM I A) (hp0 : 1 ≤ z1.toInt) (hp1 : z1.toInt ≤ 9) : GM l D zt (tyM g) yX12_fail wz_j128_X12_fail ({ frames := 0, cells := 0, slots := 0, locals := 0 } : Room) [.ref (r 0), .int z1] (wM r g I A L) (fun v _ w' => ∃ (I' : Nat → Int32) (A' : Nat → Nat → Int32) (L' : Nat → Nat → Int64), Md [6, 7, 12] I I' ∧ Md [] A A' ∧ IvM I' A' ∧ ((I 6).toInt ≤ (I' 6).toInt) ∧ ((I 8).toInt ≤ 9 * (I' 8).toInt) ∧ (0 < (I' 6).toInt) ∧ v = none ∧ w' = wM r g I' A' L') 0 0 := by
  refine GM.of (cc := cX12_fail) (maxL := 2) (ret := none) (own := RX12) (lv := [(0, .ref (r 0)), (1, .int z1)]) (by decide) rfl rfl (Nat.le_of_ble_eq_true rfl) rfl (fun κ sz hk hR hN => ?_)
  have hin12 : ∀ w ∈ u_ws RX12 TX12 55, w ∈ wz_j128_X12_fail := fun w h => (List.mem_cons_of_mem _ (List.mem_append_right _ (List.mem_append_left _ h)))
  refine g_aload_n hk dX12_fail_0 rfl ?_
  refine gM_i6 (v := (I 6)) hk hin12 (List.mem_cons_of_mem _ (List.mem_append_left _ (List.mem_of_getElem? (i := 0) rfl))) dX12_fail_1 rfl ?_
  have f4617 := IvM_f6 hIv
  refine g_if_le (tgt := 8) (a := (I 6).toInt) hk dX12_fail_4 (by decide) rfl (fun c4618 => ?_) (fun c4618 => ?_)
  · skip
    refine g_aload_n hk dX12_fail_8 rfl ?_
    refine g_iload_n hk dX12_fail_9 rfl ?_
    refine pM_i6 hk hin12 (List.mem_cons_of_mem _ (List.mem_append_left _ (List.mem_of_getElem? (i := 0) rfl))) dX12_fail_10 ?_
    refine g_aload_n hk dX12_fail_13 rfl ?_
    refine g_aload_n hk dX12_fail_14 rfl ?_
    refine gM_r0_6 hk hin12 (List.mem_cons_of_mem _ (List.mem_append_left _ (List.mem_of_getElem? (i := 1) rfl))) dX12_fail_15 ?_
    refine g_aload_n hk dX12_fail_18 rfl ?_
    refine gM_i4 (v := (I 4)) hk hin12 (List.mem_cons_of_mem _ (List.mem_append_left _ (List.mem_of_getElem? (i := 2) rfl))) dX12_fail_19 rfl ?_
    have f4619 := IvM_f4 hIv
    refine lM_3 (v := (A 3 (I 4).toNatClampNeg)) hk (vp_in_iff.mpr ⟨by omega, by omega⟩) rfl dX12_fail_22 ?_
    refine pM_i7 hk hin12 (List.mem_cons_of_mem _ (List.mem_append_left _ (List.mem_of_getElem? (i := 3) rfl))) dX12_fail_23 ?_
    refine g_aload_n hk dX12_fail_26 rfl ?_
    refine g_aload_n hk dX12_fail_27 rfl ?_
    refine gM_i11 (v := (I 11)) hk hin12 (List.mem_cons_of_mem _ (List.mem_append_left _ (List.mem_of_getElem? (i := 4) rfl))) dX12_fail_28 rfl ?_
    refine pM_i12 hk hin12 (List.mem_cons_of_mem _ (List.mem_append_left _ (List.mem_of_getElem? (i := 5) rfl))) dX12_fail_31 ?_
    have f4620 := IvM_f8 hIv
    exact g_vret hk hR ⟨(upd (upd (upd I 6 z1) 7 (A 3 (I 4).toNatClampNeg)) 12 (I 11)), A, L, (show Md [6, 7, 12] I (upd (upd (upd I 6 z1) 7 (A 3 (I 4).toNatClampNeg)) 12 (I 11)) from (Md.up (Md.up (Md.up Md.rf rfl) rfl) rfl)), (show Md [] A A from Md.rf), ⟨(IvM_f1 (I := I) (A := A) hIv), (IvM_f2 (I := I) (A := A) hIv), (IvM_f3 (I := I) (A := A) hIv), (IvM_f4 (I := I) (A := A) hIv), (show 0 ≤ z1.toInt ∧ z1.toInt ≤ 9 from ⟨by omega, by omega⟩), (IvM_f8 (I := I) (A := A) hIv), (IvM_f15 (I := I) (A := A) hIv), (IvM_f16 (I := I) (A := A) hIv), (IvM_f17 (I := I) (A := A) hIv), (IvM_f18 (I := I) (A := A) hIv), (IvM_f22 (I := I) (A := A) hIv), (IvM_f23 (I := I) (A := A) hIv), (IvM_f24 (I := I) (A := A) hIv), (IvM_a11 (I := I) (A := A) hIv), (IvM_a26 (I := I) (A := A) hIv), (IvM_s8_0 (I := I) (A := A) hIv), (IvM_s8_1 (I := I) (A := A) hIv), (IvM_s10_0 (I := I) (A := A) hIv), (IvM_s10_1 (I := I) (A := A) hIv), (IvM_s17_0 (I := I) (A := A) hIv), (IvM_s17_164 (I := I) (A := A) hIv), (IvM_lv (I := I) (A := A) hIv), (Or.inl (show z1.toInt ≠ 0 from by omega)), (IvM_nq (I := I) (A := A) hIv), (IvM_hr (I := I) (A := A) hIv), (IvM_hh (I := I) (A := A) hIv), trivial⟩, (by rw [show ((upd (upd (upd I 6 z1) 7 (A 3 (I 4).toNatClampNeg)) 12 (I 11)) 6) = z1 from rfl] <;> omega), (by rw [show ((upd (upd (upd I 6 z1) 7 (A 3 (I 4).toNatClampNeg)) 12 (I 11)) 8) = (I 8) from rfl] <;> omega), (by rw [show ((upd (upd (upd I 6 z1) 7 (A 3 (I 4).toNatClampNeg)) 12 (I 11)) 6) = z1 from rfl] <;> omega), rfl, rfl⟩ dX12_fail_34
  · skip
    have f4621 := IvM_f8 hIv
    exact g_vret hk hR ⟨I, A, L, (show Md [6, 7, 12] I I from Md.rf), (show Md [] A A from Md.rf), hIv, (by omega), (by omega), (by omega), rfl, rfl⟩ dX12_fail_7
def wo_j127_X12_goesOn : List Cond := [Cond.fieldLink RX12 164 "WarpDeskModel" "t" "I", Cond.methodLink RX12 185 yX12_fail, Cond.instanceMethod yX12_fail, Cond.selects RX12 yX12_fail yX12_fail, Cond.initialized RX12]
def wz_j127_X12_goesOn : List Cond := .code yX12_goesOn cX12_goesOn 1 none :: (wo_j127_X12_goesOn ++ (wsX120 ++ (wz_j128_X12_fail ++ ([] : List Cond))))
theorem zg_j127_X12_goesOn : ∀ w ∈ wz_j127_X12_goesOn, goodWord w = true := zg_cons rfl (zg_app (by decide +kernel) (zg_app zgU_wsX120 (zg_app zg_j128_X12_fail zg_nil)))
theorem zi_j127_X12_goesOn : ∀ w ∈ wz_j127_X12_goesOn, w ∈ lw_tbl := zi_cons zw_1594 (zi_app (zi_cons zw_1390 (zi_cons zw_1595 (zi_cons zw_1597 (zi_cons zw_55 (zi_cons zw_115 zi_nil))))) (zi_app inX12 (zi_app zi_j128_X12_fail zi_nil)))
set_option maxHeartbeats 4000000 in
set_option maxRecDepth 100000 in
theorem j127_X12_goesOn (l : Launch) (D : va_G) (zt : Nat × Nat × Nat × (Nat → Nat) × (Nat → Nat)) (r : Nat → Nat) (g : Nat → ClassId) (I : Nat → Int32) (A : Nat → Nat → Int32) (L : Nat → Nat → Int64) (hIv : IvM I A) : GM l D zt (tyM g) yX12_goesOn wz_j127_X12_goesOn ({ frames := 1, cells := 0, slots := 0, locals := 21 } : Room) [.ref (r 0)] (wM r g I A L) (fun v _ w' => ∃ (I' : Nat → Int32) (A' : Nat → Nat → Int32) (L' : Nat → Nat → Int64), Md [4, 6, 7, 12] I I' ∧ Md [] A A' ∧ IvM I' A' ∧ ((I 4).toInt ≤ (I' 4).toInt) ∧ ((I 6).toInt ≤ (I' 6).toInt) ∧ ((I 8).toInt ≤ 9 * (I' 8).toInt) ∧ ((I 4).toInt < (I' 4).toInt + (I' 6).toInt) ∧ v = none ∧ w' = wM r g I' A' L') 0 0 := by
  refine GM.of (cc := cX12_goesOn) (maxL := 1) (ret := none) (own := RX12) (lv := [(0, .ref (r 0))]) (by decide) rfl rfl (Nat.le_of_ble_eq_true rfl) rfl (fun κ sz hk hR hN => ?_)
  have hin12 : ∀ w ∈ u_ws RX12 TX12 55, w ∈ wz_j127_X12_goesOn := fun w h => (List.mem_cons_of_mem _ (List.mem_append_right _ (List.mem_append_left _ h)))
  refine g_aload_n hk dX12_goesOn_0 rfl ?_
  refine gM_i4 (v := (I 4)) hk hin12 (List.mem_cons_of_mem _ (List.mem_append_left _ (List.mem_of_getElem? (i := 0) rfl))) dX12_goesOn_1 rfl ?_
  have f4612 := IvM_f4 hIv
  refine g_sipush (v := 400) hk dX12_goesOn_4 (by decide) ?_
  refine g_icmp_ne (tgt := 18) (a := (I 4).toInt) (b := 400) hk dX12_goesOn_7 (by decide) rfl rfl (fun c4613 => ?_) (fun c4613 => ?_)
  · skip
    refine g_aload_n hk dX12_goesOn_18 rfl ?_
    refine g_dup hk dX12_goesOn_19 rfl ?_
    refine gM_i4 (v := (I 4)) hk hin12 (List.mem_cons_of_mem _ (List.mem_append_left _ (List.mem_of_getElem? (i := 0) rfl))) dX12_goesOn_20 rfl ?_
    refine g_iconst (v := 1) hk dX12_goesOn_23 (by decide) ?_
    refine g_iadd hk dX12_goesOn_24 ?_
    refine g_topi (fun y4614 ey4614 => ?_)
    have hy4614 : y4614.toInt = (I 4).toInt + 1 := i32_add ey4614 rfl rfl (by omega) (by omega)
    refine pM_i4 hk hin12 (List.mem_cons_of_mem _ (List.mem_append_left _ (List.mem_of_getElem? (i := 0) rfl))) dX12_goesOn_25 ?_
    have f4615 := IvM_f6 hIv
    have f4616 := IvM_f8 hIv
    exact g_vret hk hR ⟨(upd I 4 y4614), A, L, (show Md [4, 6, 7, 12] I (upd I 4 y4614) from (Md.up Md.rf rfl)), (show Md [] A A from Md.rf), ⟨(IvM_f1 (I := I) (A := A) hIv), (IvM_f2 (I := I) (A := A) hIv), (IvM_f3 (I := I) (A := A) hIv), (show 0 ≤ y4614.toInt ∧ y4614.toInt ≤ 400 from ⟨by omega, by omega⟩), (IvM_f6 (I := I) (A := A) hIv), (IvM_f8 (I := I) (A := A) hIv), (IvM_f15 (I := I) (A := A) hIv), (IvM_f16 (I := I) (A := A) hIv), (IvM_f17 (I := I) (A := A) hIv), (IvM_f18 (I := I) (A := A) hIv), (IvM_f22 (I := I) (A := A) hIv), (IvM_f23 (I := I) (A := A) hIv), (IvM_f24 (I := I) (A := A) hIv), (IvM_a11 (I := I) (A := A) hIv), (IvM_a26 (I := I) (A := A) hIv), (IvM_s8_0 (I := I) (A := A) hIv), (IvM_s8_1 (I := I) (A := A) hIv), (IvM_s10_0 (I := I) (A := A) hIv), (IvM_s10_1 (I := I) (A := A) hIv), (IvM_s17_0 (I := I) (A := A) hIv), (IvM_s17_164 (I := I) (A := A) hIv), (IvM_lv (I := I) (A := A) hIv), (IvM_sd (I := I) (A := A) hIv), (IvM_nq (I := I) (A := A) hIv), (IvM_hr (I := I) (A := A) hIv), (IvM_hh (I := I) (A := A) hIv), trivial⟩, (by rw [show ((upd I 4 y4614) 4) = y4614 from rfl] <;> omega), (by rw [show ((upd I 4 y4614) 6) = (I 6) from rfl] <;> omega), (by rw [show ((upd I 4 y4614) 8) = (I 8) from rfl] <;> omega), (by rw [show ((upd I 4 y4614) 4) = y4614 from rfl, show ((upd I 4 y4614) 6) = (I 6) from rfl] <;> omega), rfl, rfl⟩ dX12_goesOn_28
  · skip
    refine g_aload_n hk dX12_goesOn_10 rfl ?_
    refine g_iconst (v := 2) hk dX12_goesOn_11 (by decide) ?_
    have k4622 : (2 : Int32).toInt = 2 := rfl
    refine g_callV (n := 1) hk (j128_X12_fail l D zt r g I A L 2 hIv (by decide) (by decide)) (SP.same _) (fun _ h => h) (gi_V (List.mem_cons_of_mem _ (List.mem_append_left _ (List.mem_of_getElem? (i := 1) rfl))) (List.mem_cons_of_mem _ (List.mem_append_left _ (List.mem_of_getElem? (i := 2) rfl))) (List.mem_cons_of_mem _ (List.mem_append_left _ (List.mem_of_getElem? (i := 3) rfl))) (List.mem_cons_of_mem _ (List.mem_append_left _ (List.mem_of_getElem? (i := 4) rfl))) (gi_sub (fun w h => (List.mem_cons_of_mem _ (List.mem_append_right _ (List.mem_append_right _ (List.mem_append_left _ h))))) zg_j128_X12_fail)) rfl rfl rfl (by decide +kernel) ⟨Nat.le_of_ble_eq_true rfl, Nat.le_of_ble_eq_true rfl⟩ 0 rfl rfl rfl rfl (Nat.le_of_ble_eq_true rfl) ⟨Nat.le_of_ble_eq_true rfl, Nat.le_of_ble_eq_true rfl⟩ dX12_goesOn_12 (fun v ty' w' hp hk' => ?_)
    obtain ⟨I4624, A4624, L4624, hI4624, hA4624, hV4624, r4625, r4626, r4627, rfl, rfl⟩ := hp
    have f4628 := IvM_f6 hIv
    have f4629 := IvM_f6 hV4624
    have f4630 := IvM_f8 hIv
    rw [show (I4624 8) = (I 8) from (hI4624 8 rfl)] at r4626
    show GW κ 1 0 0 (wM r g I4624 A4624 L4624) 15 [(0, .ref (r 0))] []
    refine g_goto (tgt := 28) hk dX12_goesOn_15 (by decide) ?_
    exact g_vret hk hR ⟨I4624, A4624, L4624, (show Md [4, 6, 7, 12] I I4624 from (Md.tr Md.rf hI4624 rfl)), (show Md [] A A4624 from (Md.tr Md.rf hA4624 rfl)), hV4624, (by rw [show (I4624 4) = (I 4) from (hI4624 4 rfl)] <;> omega), (by omega), (by rw [show (I4624 8) = (I 8) from (hI4624 8 rfl)] <;> omega), (by rw [show (I4624 4) = (I 4) from (hI4624 4 rfl)] <;> omega), rfl, rfl⟩ dX12_goesOn_28
def wo_j130_X12_isReading : List Cond := [Cond.methodLink RX12 188 yX12_is, Cond.instanceMethod yX12_is, Cond.selects RX12 yX12_is yX12_is, Cond.initialized RX12]
def wz_j130_X12_isReading : List Cond := .code yX12_isReading cX12_isReading 1 (some .boolean) :: (wo_j130_X12_isReading ++ (wz_j125_X12_is ++ ([] : List Cond)))
theorem zg_j130_X12_isReading : ∀ w ∈ wz_j130_X12_isReading, goodWord w = true := zg_cons rfl (zg_app (by decide +kernel) (zg_app zg_j125_X12_is zg_nil))
theorem zi_j130_X12_isReading : ∀ w ∈ wz_j130_X12_isReading, w ∈ lw_tbl := zi_cons zw_1606 (zi_app (zi_cons zw_1583 (zi_cons zw_1585 (zi_cons zw_52 (zi_cons zw_115 zi_nil)))) (zi_app zi_j125_X12_is zi_nil))
set_option maxHeartbeats 4000000 in
set_option maxRecDepth 100000 in
theorem j130_X12_isReading (l : Launch) (D : va_G) (zt : Nat × Nat × Nat × (Nat → Nat) × (Nat → Nat)) (r : Nat → Nat) (g : Nat → ClassId) (I : Nat → Int32) (A : Nat → Nat → Int32) (L : Nat → Nat → Int64) (hIv : IvM I A) : GM l D zt (tyM g) yX12_isReading wz_j130_X12_isReading ({ frames := 1, cells := 0, slots := 0, locals := 21 } : Room) [.ref (r 0)] (wM r g I A L) (fun v _ w' => (v = some (.int 0) ∧ w' = wM r g I A L) ∨ (v = some (.int 1) ∧ w' = wM r g I A L)) 0 0 := by
  refine GM.of (cc := cX12_isReading) (maxL := 1) (ret := (some .boolean)) (own := RX12) (lv := [(0, .ref (r 0))]) (by decide) rfl rfl (Nat.le_of_ble_eq_true rfl) rfl (fun κ sz hk hR hN => ?_)
  refine g_aload_n hk dX12_isReading_0 rfl ?_
  refine g_bipush (v := 9) hk dX12_isReading_1 (by decide) ?_
  have k4644 : (9 : Int32).toInt = 9 := rfl
  refine g_callV (n := 1) hk (j125_X12_is l D zt r g I A L 9 hIv) (SP.same _) (fun _ h => h) (gi_V (List.mem_cons_of_mem _ (List.mem_append_left _ (List.mem_of_getElem? (i := 0) rfl))) (List.mem_cons_of_mem _ (List.mem_append_left _ (List.mem_of_getElem? (i := 1) rfl))) (List.mem_cons_of_mem _ (List.mem_append_left _ (List.mem_of_getElem? (i := 2) rfl))) (List.mem_cons_of_mem _ (List.mem_append_left _ (List.mem_of_getElem? (i := 3) rfl))) (gi_sub (fun w h => (List.mem_cons_of_mem _ (List.mem_append_right _ (List.mem_append_left _ h)))) zg_j125_X12_is)) rfl rfl rfl (by decide +kernel) ⟨Nat.le_of_ble_eq_true rfl, Nat.le_of_ble_eq_true rfl⟩ 0 rfl rfl rfl rfl (Nat.le_of_ble_eq_true rfl) ⟨Nat.le_of_ble_eq_true rfl, Nat.le_of_ble_eq_true rfl⟩ dX12_isReading_3 (fun v ty' w' hp hk' => ?_)
  rcases hp with ⟨c4645, rfl, rfl⟩ | ⟨c4647, rfl, rfl⟩
  · skip
    have f4649 := IvM_f6 hIv
    show GW κ 1 0 0 (wM r g I A L) 6 [(0, .ref (r 0))] [.int 0]
    refine g_if_ne (tgt := 17) (a := 0) hk dX12_isReading_6 (by decide) rfl (fun z9 => absurd z9 (show ¬ ((0 : Int) ≠ (0 : Int)) from by decide)) (fun _ => ?_)
    refine g_aload_n hk dX12_isReading_9 rfl ?_
    refine g_iconst (v := 2) hk dX12_isReading_10 (by decide) ?_
    have k4650 : (2 : Int32).toInt = 2 := rfl
    refine g_callV (n := 1) hk (j125_X12_is l D zt r g I A L 2 hIv) (SP.same _) (fun _ h => h) (gi_V (List.mem_cons_of_mem _ (List.mem_append_left _ (List.mem_of_getElem? (i := 0) rfl))) (List.mem_cons_of_mem _ (List.mem_append_left _ (List.mem_of_getElem? (i := 1) rfl))) (List.mem_cons_of_mem _ (List.mem_append_left _ (List.mem_of_getElem? (i := 2) rfl))) (List.mem_cons_of_mem _ (List.mem_append_left _ (List.mem_of_getElem? (i := 3) rfl))) (gi_sub (fun w h => (List.mem_cons_of_mem _ (List.mem_append_right _ (List.mem_append_left _ h)))) zg_j125_X12_is)) rfl rfl rfl (by decide +kernel) ⟨Nat.le_of_ble_eq_true rfl, Nat.le_of_ble_eq_true rfl⟩ 0 rfl rfl rfl rfl (Nat.le_of_ble_eq_true rfl) ⟨Nat.le_of_ble_eq_true rfl, Nat.le_of_ble_eq_true rfl⟩ dX12_isReading_11 (fun v ty' w' hp hk' => ?_)
    rcases hp with ⟨c4651, rfl, rfl⟩ | ⟨c4653, rfl, rfl⟩
    · skip
      show GW κ 1 0 0 (wM r g I A L) 14 [(0, .ref (r 0))] [.int 0]
      refine g_if_eq (tgt := 21) (a := 0) hk dX12_isReading_14 (by decide) rfl (fun _ => ?_) (fun z9 => absurd (show (0 : Int) = (0 : Int) from by decide) z9)
      refine g_iconst (v := 0) hk dX12_isReading_21 (by decide) ?_
      exact g_iret hk hR rfl (Or.inl ⟨rfl, rfl⟩) dX12_isReading_22
    · skip
      show GW κ 1 0 0 (wM r g I A L) 14 [(0, .ref (r 0))] [.int 1]
      refine g_if_eq (tgt := 21) (a := 1) hk dX12_isReading_14 (by decide) rfl (fun z9 => absurd z9 (show ¬ ((1 : Int) = (0 : Int)) from by decide)) (fun _ => ?_)
      refine g_iconst (v := 1) hk dX12_isReading_17 (by decide) ?_
      refine g_goto (tgt := 22) hk dX12_isReading_18 (by decide) ?_
      exact g_iret hk hR rfl (Or.inr (⟨rfl, rfl⟩)) dX12_isReading_22
  · skip
    have f4655 := IvM_f6 hIv
    show GW κ 1 0 0 (wM r g I A L) 6 [(0, .ref (r 0))] [.int 1]
    refine g_if_ne (tgt := 17) (a := 1) hk dX12_isReading_6 (by decide) rfl (fun _ => ?_) (fun z9 => absurd (show (1 : Int) ≠ (0 : Int) from by decide) z9)
    refine g_iconst (v := 1) hk dX12_isReading_17 (by decide) ?_
    refine g_goto (tgt := 22) hk dX12_isReading_18 (by decide) ?_
    exact g_iret hk hR rfl (Or.inr (⟨rfl, rfl⟩)) dX12_isReading_22
def wo_j131_X12_must : List Cond := [Cond.methodLink RX12 188 yX12_is, Cond.instanceMethod yX12_is, Cond.selects RX12 yX12_is yX12_is, Cond.initialized RX12, Cond.methodLink RX12 185 yX12_fail, Cond.instanceMethod yX12_fail, Cond.selects RX12 yX12_fail yX12_fail, Cond.methodLink RX12 191 yX12_goesOn, Cond.instanceMethod yX12_goesOn, Cond.selects RX12 yX12_goesOn yX12_goesOn]
def wz_j131_X12_must : List Cond := .code yX12_must cX12_must 2 none :: (wo_j131_X12_must ++ (wz_j125_X12_is ++ (wz_j128_X12_fail ++ (wz_j127_X12_goesOn ++ ([] : List Cond)))))
theorem zg_j131_X12_must : ∀ w ∈ wz_j131_X12_must, goodWord w = true := zg_cons rfl (zg_app (by decide +kernel) (zg_app zg_j125_X12_is (zg_app zg_j128_X12_fail (zg_app zg_j127_X12_goesOn zg_nil))))
theorem zi_j131_X12_must : ∀ w ∈ wz_j131_X12_must, w ∈ lw_tbl := zi_cons zw_1623 (zi_app (zi_cons zw_1583 (zi_cons zw_1585 (zi_cons zw_52 (zi_cons zw_115 (zi_cons zw_1595 (zi_cons zw_1597 (zi_cons zw_55 (zi_cons zw_1591 (zi_cons zw_1593 (zi_cons zw_54 zi_nil)))))))))) (zi_app zi_j125_X12_is (zi_app zi_j128_X12_fail (zi_app zi_j127_X12_goesOn zi_nil))))
set_option maxHeartbeats 4000000 in
set_option maxRecDepth 100000 in
theorem j131_X12_must (l : Launch) (D : va_G) (zt : Nat × Nat × Nat × (Nat → Nat) × (Nat → Nat)) (r : Nat → Nat) (g : Nat → ClassId) (I : Nat → Int32) (A : Nat → Nat → Int32) (L : Nat → Nat → Int64) (z1 : Int32) (hIv : IvM I A) : GM l D zt (tyM g) yX12_must wz_j131_X12_must ({ frames := 2, cells := 0, slots := 0, locals := 41 } : Room) [.ref (r 0), .int z1] (wM r g I A L) (fun v _ w' => ∃ (I' : Nat → Int32) (A' : Nat → Nat → Int32) (L' : Nat → Nat → Int64), Md [4, 6, 7, 12] I I' ∧ Md [] A A' ∧ IvM I' A' ∧ ((I 4).toInt ≤ (I' 4).toInt) ∧ ((I 6).toInt ≤ (I' 6).toInt) ∧ ((I 8).toInt ≤ 9 * (I' 8).toInt) ∧ ((I 4).toInt < (I' 4).toInt + (I' 6).toInt) ∧ (Fc (0 < (I' 6).toInt ∨ ((I 6).toInt = 0 ∧ (A 2 (I 4).toNatClampNeg).toInt = z1.toInt))) ∧ v = none ∧ w' = wM r g I' A' L') 0 0 := by
  refine GM.of (cc := cX12_must) (maxL := 2) (ret := none) (own := RX12) (lv := [(0, .ref (r 0)), (1, .int z1)]) (by decide) rfl rfl (Nat.le_of_ble_eq_true rfl) rfl (fun κ sz hk hR hN => ?_)
  refine g_aload_n hk dX12_must_0 rfl ?_
  refine g_iload_n hk dX12_must_1 rfl ?_
  refine g_callV (n := 1) hk (j125_X12_is l D zt r g I A L z1 hIv) (SP.same _) (fun _ h => h) (gi_V (List.mem_cons_of_mem _ (List.mem_append_left _ (List.mem_of_getElem? (i := 0) rfl))) (List.mem_cons_of_mem _ (List.mem_append_left _ (List.mem_of_getElem? (i := 1) rfl))) (List.mem_cons_of_mem _ (List.mem_append_left _ (List.mem_of_getElem? (i := 2) rfl))) (List.mem_cons_of_mem _ (List.mem_append_left _ (List.mem_of_getElem? (i := 3) rfl))) (gi_sub (fun w h => (List.mem_cons_of_mem _ (List.mem_append_right _ (List.mem_append_left _ h)))) zg_j125_X12_is)) rfl rfl rfl (by decide +kernel) ⟨Nat.le_of_ble_eq_true rfl, Nat.le_of_ble_eq_true rfl⟩ 0 rfl rfl rfl rfl (Nat.le_of_ble_eq_true rfl) ⟨Nat.le_of_ble_eq_true rfl, Nat.le_of_ble_eq_true rfl⟩ dX12_must_2 (fun v ty' w' hp hk' => ?_)
  rcases hp with ⟨c4664, rfl, rfl⟩ | ⟨c4666, rfl, rfl⟩
  · skip
    have f4668 := IvM_f6 hIv
    have b4669l := Int32.le_toInt z1
    have b4669h := Int32.toInt_lt z1
    show GW κ 2 0 0 (wM r g I A L) 5 [(0, .ref (r 0)), (1, .int z1)] [.int 0]
    refine g_if_eq (tgt := 15) (a := 0) hk dX12_must_5 (by decide) rfl (fun _ => ?_) (fun z9 => absurd (show (0 : Int) = (0 : Int) from by decide) z9)
    refine g_aload_n hk dX12_must_15 rfl ?_
    refine g_iconst (v := 1) hk dX12_must_16 (by decide) ?_
    have k4670 : (1 : Int32).toInt = 1 := rfl
    refine g_callV (n := 1) hk (j128_X12_fail l D zt r g I A L 1 hIv (by decide) (by decide)) (SP.same _) (fun _ h => h) (gi_V (List.mem_cons_of_mem _ (List.mem_append_left _ (List.mem_of_getElem? (i := 4) rfl))) (List.mem_cons_of_mem _ (List.mem_append_left _ (List.mem_of_getElem? (i := 5) rfl))) (List.mem_cons_of_mem _ (List.mem_append_left _ (List.mem_of_getElem? (i := 6) rfl))) (List.mem_cons_of_mem _ (List.mem_append_left _ (List.mem_of_getElem? (i := 3) rfl))) (gi_sub (fun w h => (List.mem_cons_of_mem _ (List.mem_append_right _ (List.mem_append_right _ (List.mem_append_left _ h))))) zg_j128_X12_fail)) rfl rfl rfl (by decide +kernel) ⟨Nat.le_of_ble_eq_true rfl, Nat.le_of_ble_eq_true rfl⟩ 0 rfl rfl rfl rfl (Nat.le_of_ble_eq_true rfl) ⟨Nat.le_of_ble_eq_true rfl, Nat.le_of_ble_eq_true rfl⟩ dX12_must_17 (fun v ty' w' hp hk' => ?_)
    obtain ⟨I4672, A4672, L4672, hI4672, hA4672, hV4672, r4673, r4674, r4675, rfl, rfl⟩ := hp
    have f4676 := IvM_f6 hV4672
    have f4677 := IvM_f8 hIv
    rw [show (I4672 8) = (I 8) from (hI4672 8 rfl)] at r4674
    show GW κ 2 0 0 (wM r g I4672 A4672 L4672) 20 [(0, .ref (r 0)), (1, .int z1)] []
    have f4678 := IvM_f4 hIv
    exact g_vret hk hR ⟨I4672, A4672, L4672, (show Md [4, 6, 7, 12] I I4672 from (Md.tr Md.rf hI4672 rfl)), (show Md [] A A4672 from (Md.tr Md.rf hA4672 rfl)), hV4672, (by rw [show (I4672 4) = (I 4) from (hI4672 4 rfl)] <;> omega), (by omega), (by rw [show (I4672 8) = (I 8) from (hI4672 8 rfl)] <;> omega), (by rw [show (I4672 4) = (I 4) from (hI4672 4 rfl)] <;> omega), (by have u0 : (I 6).toInt ≠ 0 ∨ (A 2 (I 4).toNatClampNeg).toInt ≠ z1.toInt := c4664; refine fc ?_; omega), rfl, rfl⟩ dX12_must_20
  · skip
    have f4679 := IvM_f6 hIv
    have b4680l := Int32.le_toInt z1
    have b4680h := Int32.toInt_lt z1
    show GW κ 2 0 0 (wM r g I A L) 5 [(0, .ref (r 0)), (1, .int z1)] [.int 1]
    refine g_if_eq (tgt := 15) (a := 1) hk dX12_must_5 (by decide) rfl (fun z9 => absurd z9 (show ¬ ((1 : Int) = (0 : Int)) from by decide)) (fun _ => ?_)
    refine g_aload_n hk dX12_must_8 rfl ?_
    refine g_callV (n := 0) hk (j127_X12_goesOn l D zt r g I A L  hIv) (SP.same _) (fun _ h => h) (gi_V (List.mem_cons_of_mem _ (List.mem_append_left _ (List.mem_of_getElem? (i := 7) rfl))) (List.mem_cons_of_mem _ (List.mem_append_left _ (List.mem_of_getElem? (i := 8) rfl))) (List.mem_cons_of_mem _ (List.mem_append_left _ (List.mem_of_getElem? (i := 9) rfl))) (List.mem_cons_of_mem _ (List.mem_append_left _ (List.mem_of_getElem? (i := 3) rfl))) (gi_sub (fun w h => (List.mem_cons_of_mem _ (List.mem_append_right _ (List.mem_append_right _ (List.mem_append_right _ (List.mem_append_left _ h)))))) zg_j127_X12_goesOn)) rfl rfl rfl (by decide +kernel) ⟨Nat.le_of_ble_eq_true rfl, Nat.le_of_ble_eq_true rfl⟩ 0 rfl rfl rfl rfl (Nat.le_of_ble_eq_true rfl) ⟨Nat.le_of_ble_eq_true rfl, Nat.le_of_ble_eq_true rfl⟩ dX12_must_9 (fun v ty' w' hp hk' => ?_)
    obtain ⟨I4682, A4682, L4682, hI4682, hA4682, hV4682, r4683, r4684, r4685, r4686, rfl, rfl⟩ := hp
    have f4687 := IvM_f4 hIv
    have f4688 := IvM_f4 hV4682
    have f4689 := IvM_f6 hV4682
    have f4690 := IvM_f8 hIv
    rw [show (I4682 8) = (I 8) from (hI4682 8 rfl)] at r4685
    show GW κ 2 0 0 (wM r g I4682 A4682 L4682) 12 [(0, .ref (r 0)), (1, .int z1)] []
    refine g_goto (tgt := 20) hk dX12_must_12 (by decide) ?_
    exact g_vret hk hR ⟨I4682, A4682, L4682, (show Md [4, 6, 7, 12] I I4682 from (Md.tr Md.rf hI4682 rfl)), (show Md [] A A4682 from (Md.tr Md.rf hA4682 rfl)), hV4682, (by omega), (by omega), (by rw [show (I4682 8) = (I 8) from (hI4682 8 rfl)] <;> omega), (by omega), (by refine fc ?_; omega), rfl, rfl⟩ dX12_must_20
def wo_j134_X12_wrong : List Cond := [Cond.fieldLink RX12 24 "WarpDeskModel" "tPlace" "[I", Cond.fieldLink RX12 161 "WarpDeskModel" "fault" "I", Cond.fieldLink RX12 176 "WarpDeskModel" "worst" "I", Cond.fieldLink RX12 179 "WarpDeskModel" "worstPlace" "I", Cond.fieldLink RX12 170 "WarpDeskModel" "here" "I", Cond.fieldLink RX12 182 "WarpDeskModel" "worstCause" "I"]
def wz_j134_X12_wrong : List Cond := .code yX12_wrong cX12_wrong 4 none :: (wo_j134_X12_wrong ++ (wsX120 ++ ([] : List Cond)))
theorem zg_j134_X12_wrong : ∀ w ∈ wz_j134_X12_wrong, goodWord w = true := zg_cons rfl (zg_app (by decide +kernel) (zg_app zgU_wsX120 zg_nil))
theorem zi_j134_X12_wrong : ∀ w ∈ wz_j134_X12_wrong, w ∈ lw_tbl := zi_cons zw_1619 (zi_app (zi_cons zw_1385 (zi_cons zw_1391 (zi_cons zw_1393 (zi_cons zw_1394 (zi_cons zw_1396 (zi_cons zw_1398 zi_nil)))))) (zi_app inX12 zi_nil))
set_option maxHeartbeats 4000000 in
set_option maxRecDepth 100000 in
theorem j134_X12_wrong (l : Launch) (D : va_G) (zt : Nat × Nat × Nat × (Nat → Nat) × (Nat → Nat)) (r : Nat → Nat) (g : Nat → ClassId) (I : Nat → Int32) (A : Nat → Nat → Int32) (L : Nat → Nat → Int64) (z1 : Int32) (z2 : Int32) (hIv : IvM I A) (hp0 : 1 ≤ z1.toInt) (hp1 : z1.toInt ≤ 9) (hp2 : 0 ≤ z2.toInt) (hp3 : z2.toInt ≤ 400) : GM l D zt (tyM g) yX12_wrong wz_j134_X12_wrong ({ frames := 0, cells := 0, slots := 0, locals := 0 } : Room) [.ref (r 0), .int z1, .int z2] (wM r g I A L) (fun v _ w' => ∃ (I' : Nat → Int32) (A' : Nat → Nat → Int32) (L' : Nat → Nat → Int64), Md [8, 9, 13] I I' ∧ Md [] A A' ∧ IvM I' A' ∧ ((I 6).toInt ≤ (I' 6).toInt) ∧ ((I 8).toInt ≤ 9 * (I' 8).toInt) ∧ (1 ≤ (I' 6).toInt + (I' 8).toInt) ∧ v = none ∧ w' = wM r g I' A' L') 0 0 := by
  refine GM.of (cc := cX12_wrong) (maxL := 4) (ret := none) (own := RX12) (lv := [(0, .ref (r 0)), (1, .int z1), (2, .int z2)]) (by decide) rfl rfl (Nat.le_of_ble_eq_true rfl) rfl (fun κ sz hk hR hN => ?_)
  have hin12 : ∀ w ∈ u_ws RX12 TX12 55, w ∈ wz_j134_X12_wrong := fun w h => (List.mem_cons_of_mem _ (List.mem_append_right _ (List.mem_append_left _ h)))
  refine g_aload_n hk dX12_wrong_0 rfl ?_
  refine gM_r0_6 hk hin12 (List.mem_cons_of_mem _ (List.mem_append_left _ (List.mem_of_getElem? (i := 0) rfl))) dX12_wrong_1 ?_
  refine g_iload_n hk dX12_wrong_4 rfl ?_
  refine lM_3 (v := (A 3 z2.toNatClampNeg)) hk (vp_in_iff.mpr ⟨by omega, by omega⟩) rfl dX12_wrong_5 ?_
  refine g_istore_n (lv' := [(3, .int (A 3 z2.toNatClampNeg)), (0, .ref (r 0)), (1, .int z1), (2, .int z2)]) hk dX12_wrong_6 (by decide) rfl ?_
  refine g_aload_n hk dX12_wrong_7 rfl ?_
  refine gM_i6 (v := (I 6)) hk hin12 (List.mem_cons_of_mem _ (List.mem_append_left _ (List.mem_of_getElem? (i := 1) rfl))) dX12_wrong_8 rfl ?_
  have f4754 := IvM_f6 hIv
  refine g_if_gt (tgt := 45) (a := (I 6).toInt) hk dX12_wrong_11 (by decide) rfl (fun c4755 => ?_) (fun c4755 => ?_)
  · skip
    have f4756 := IvM_f8 hIv
    exact g_vret hk hR ⟨I, A, L, (show Md [8, 9, 13] I I from Md.rf), (show Md [] A A from Md.rf), hIv, (by omega), (by omega), (by omega), rfl, rfl⟩ dX12_wrong_45
  · skip
    refine g_aload_n hk dX12_wrong_14 rfl ?_
    refine gM_i8 (v := (I 8)) hk hin12 (List.mem_cons_of_mem _ (List.mem_append_left _ (List.mem_of_getElem? (i := 2) rfl))) dX12_wrong_15 rfl ?_
    have f4757 := IvM_f8 hIv
    refine g_if_eq (tgt := 46) (a := (I 8).toInt) hk dX12_wrong_18 (by decide) rfl (fun c4758 => ?_) (fun c4758 => ?_)
    · skip
      refine g_aload_n hk dX12_wrong_46 rfl ?_
      refine g_iload_n hk dX12_wrong_47 rfl ?_
      refine pM_i8 hk hin12 (List.mem_cons_of_mem _ (List.mem_append_left _ (List.mem_of_getElem? (i := 2) rfl))) dX12_wrong_48 ?_
      refine g_aload_n hk dX12_wrong_51 rfl ?_
      refine g_iload_n hk dX12_wrong_52 rfl ?_
      refine pM_i9 hk hin12 (List.mem_cons_of_mem _ (List.mem_append_left _ (List.mem_of_getElem? (i := 3) rfl))) dX12_wrong_53 ?_
      refine g_aload_n hk dX12_wrong_56 rfl ?_
      refine g_aload_n hk dX12_wrong_57 rfl ?_
      refine gM_i11 (v := (I 11)) hk hin12 (List.mem_cons_of_mem _ (List.mem_append_left _ (List.mem_of_getElem? (i := 4) rfl))) dX12_wrong_58 rfl ?_
      refine pM_i13 hk hin12 (List.mem_cons_of_mem _ (List.mem_append_left _ (List.mem_of_getElem? (i := 5) rfl))) dX12_wrong_61 ?_
      exact g_vret hk hR ⟨(upd (upd (upd I 8 z1) 9 (A 3 z2.toNatClampNeg)) 13 (I 11)), A, L, (show Md [8, 9, 13] I (upd (upd (upd I 8 z1) 9 (A 3 z2.toNatClampNeg)) 13 (I 11)) from (Md.up (Md.up (Md.up Md.rf rfl) rfl) rfl)), (show Md [] A A from Md.rf), ⟨(IvM_f1 (I := I) (A := A) hIv), (IvM_f2 (I := I) (A := A) hIv), (IvM_f3 (I := I) (A := A) hIv), (IvM_f4 (I := I) (A := A) hIv), (IvM_f6 (I := I) (A := A) hIv), (show 0 ≤ z1.toInt ∧ z1.toInt ≤ 9 from ⟨by omega, by omega⟩), (IvM_f15 (I := I) (A := A) hIv), (IvM_f16 (I := I) (A := A) hIv), (IvM_f17 (I := I) (A := A) hIv), (IvM_f18 (I := I) (A := A) hIv), (IvM_f22 (I := I) (A := A) hIv), (IvM_f23 (I := I) (A := A) hIv), (IvM_f24 (I := I) (A := A) hIv), (IvM_a11 (I := I) (A := A) hIv), (IvM_a26 (I := I) (A := A) hIv), (IvM_s8_0 (I := I) (A := A) hIv), (IvM_s8_1 (I := I) (A := A) hIv), (IvM_s10_0 (I := I) (A := A) hIv), (IvM_s10_1 (I := I) (A := A) hIv), (IvM_s17_0 (I := I) (A := A) hIv), (IvM_s17_164 (I := I) (A := A) hIv), (IvM_lv (I := I) (A := A) hIv), (Or.inr (Or.inl (show z1.toInt ≠ 0 from by omega))), (IvM_nq (I := I) (A := A) hIv), (IvM_hr (I := I) (A := A) hIv), (IvM_hh (I := I) (A := A) hIv), trivial⟩, (by rw [show ((upd (upd (upd I 8 z1) 9 (A 3 z2.toNatClampNeg)) 13 (I 11)) 6) = (I 6) from rfl] <;> omega), (by rw [show ((upd (upd (upd I 8 z1) 9 (A 3 z2.toNatClampNeg)) 13 (I 11)) 8) = z1 from rfl] <;> omega), (by rw [show ((upd (upd (upd I 8 z1) 9 (A 3 z2.toNatClampNeg)) 13 (I 11)) 6) = (I 6) from rfl, show ((upd (upd (upd I 8 z1) 9 (A 3 z2.toNatClampNeg)) 13 (I 11)) 8) = z1 from rfl] <;> omega), rfl, rfl⟩ dX12_wrong_64
    · skip
      refine g_iload_n hk dX12_wrong_21 rfl ?_
      refine g_aload_n hk dX12_wrong_22 rfl ?_
      refine gM_i9 (v := (I 9)) hk hin12 (List.mem_cons_of_mem _ (List.mem_append_left _ (List.mem_of_getElem? (i := 3) rfl))) dX12_wrong_23 rfl ?_
      have b4759l := Int32.le_toInt (A 3 z2.toNatClampNeg)
      have b4759h := Int32.toInt_lt (A 3 z2.toNatClampNeg)
      have b4760l := Int32.le_toInt (I 9)
      have b4760h := Int32.toInt_lt (I 9)
      refine g_icmp_gt (tgt := 45) (a := (A 3 z2.toNatClampNeg).toInt) (b := (I 9).toInt) hk dX12_wrong_26 (by decide) rfl rfl (fun c4761 => ?_) (fun c4761 => ?_)
      · skip
        exact g_vret hk hR ⟨I, A, L, (show Md [8, 9, 13] I I from Md.rf), (show Md [] A A from Md.rf), hIv, (by omega), (by omega), (by omega), rfl, rfl⟩ dX12_wrong_45
      · skip
        refine g_iload_n hk dX12_wrong_29 rfl ?_
        refine g_aload_n hk dX12_wrong_30 rfl ?_
        refine gM_i9 (v := (I 9)) hk hin12 (List.mem_cons_of_mem _ (List.mem_append_left _ (List.mem_of_getElem? (i := 3) rfl))) dX12_wrong_31 rfl ?_
        refine g_icmp_ne (tgt := 46) (a := (A 3 z2.toNatClampNeg).toInt) (b := (I 9).toInt) hk dX12_wrong_34 (by decide) rfl rfl (fun c4762 => ?_) (fun c4762 => ?_)
        · skip
          refine g_aload_n hk dX12_wrong_46 rfl ?_
          refine g_iload_n hk dX12_wrong_47 rfl ?_
          refine pM_i8 hk hin12 (List.mem_cons_of_mem _ (List.mem_append_left _ (List.mem_of_getElem? (i := 2) rfl))) dX12_wrong_48 ?_
          refine g_aload_n hk dX12_wrong_51 rfl ?_
          refine g_iload_n hk dX12_wrong_52 rfl ?_
          refine pM_i9 hk hin12 (List.mem_cons_of_mem _ (List.mem_append_left _ (List.mem_of_getElem? (i := 3) rfl))) dX12_wrong_53 ?_
          refine g_aload_n hk dX12_wrong_56 rfl ?_
          refine g_aload_n hk dX12_wrong_57 rfl ?_
          refine gM_i11 (v := (I 11)) hk hin12 (List.mem_cons_of_mem _ (List.mem_append_left _ (List.mem_of_getElem? (i := 4) rfl))) dX12_wrong_58 rfl ?_
          refine pM_i13 hk hin12 (List.mem_cons_of_mem _ (List.mem_append_left _ (List.mem_of_getElem? (i := 5) rfl))) dX12_wrong_61 ?_
          exact g_vret hk hR ⟨(upd (upd (upd I 8 z1) 9 (A 3 z2.toNatClampNeg)) 13 (I 11)), A, L, (show Md [8, 9, 13] I (upd (upd (upd I 8 z1) 9 (A 3 z2.toNatClampNeg)) 13 (I 11)) from (Md.up (Md.up (Md.up Md.rf rfl) rfl) rfl)), (show Md [] A A from Md.rf), ⟨(IvM_f1 (I := I) (A := A) hIv), (IvM_f2 (I := I) (A := A) hIv), (IvM_f3 (I := I) (A := A) hIv), (IvM_f4 (I := I) (A := A) hIv), (IvM_f6 (I := I) (A := A) hIv), (show 0 ≤ z1.toInt ∧ z1.toInt ≤ 9 from ⟨by omega, by omega⟩), (IvM_f15 (I := I) (A := A) hIv), (IvM_f16 (I := I) (A := A) hIv), (IvM_f17 (I := I) (A := A) hIv), (IvM_f18 (I := I) (A := A) hIv), (IvM_f22 (I := I) (A := A) hIv), (IvM_f23 (I := I) (A := A) hIv), (IvM_f24 (I := I) (A := A) hIv), (IvM_a11 (I := I) (A := A) hIv), (IvM_a26 (I := I) (A := A) hIv), (IvM_s8_0 (I := I) (A := A) hIv), (IvM_s8_1 (I := I) (A := A) hIv), (IvM_s10_0 (I := I) (A := A) hIv), (IvM_s10_1 (I := I) (A := A) hIv), (IvM_s17_0 (I := I) (A := A) hIv), (IvM_s17_164 (I := I) (A := A) hIv), (IvM_lv (I := I) (A := A) hIv), (Or.inr (Or.inl (show z1.toInt ≠ 0 from by omega))), (IvM_nq (I := I) (A := A) hIv), (IvM_hr (I := I) (A := A) hIv), (IvM_hh (I := I) (A := A) hIv), trivial⟩, (by rw [show ((upd (upd (upd I 8 z1) 9 (A 3 z2.toNatClampNeg)) 13 (I 11)) 6) = (I 6) from rfl] <;> omega), (by rw [show ((upd (upd (upd I 8 z1) 9 (A 3 z2.toNatClampNeg)) 13 (I 11)) 8) = z1 from rfl] <;> omega), (by rw [show ((upd (upd (upd I 8 z1) 9 (A 3 z2.toNatClampNeg)) 13 (I 11)) 6) = (I 6) from rfl, show ((upd (upd (upd I 8 z1) 9 (A 3 z2.toNatClampNeg)) 13 (I 11)) 8) = z1 from rfl] <;> omega), rfl, rfl⟩ dX12_wrong_64
        · skip
          refine g_iload_n hk dX12_wrong_37 rfl ?_
          refine g_aload_n hk dX12_wrong_38 rfl ?_
          refine gM_i8 (v := (I 8)) hk hin12 (List.mem_cons_of_mem _ (List.mem_append_left _ (List.mem_of_getElem? (i := 2) rfl))) dX12_wrong_39 rfl ?_
          refine g_icmp_lt (tgt := 46) (a := z1.toInt) (b := (I 8).toInt) hk dX12_wrong_42 (by decide) rfl rfl (fun c4763 => ?_) (fun c4763 => ?_)
          · skip
            refine g_aload_n hk dX12_wrong_46 rfl ?_
            refine g_iload_n hk dX12_wrong_47 rfl ?_
            refine pM_i8 hk hin12 (List.mem_cons_of_mem _ (List.mem_append_left _ (List.mem_of_getElem? (i := 2) rfl))) dX12_wrong_48 ?_
            refine g_aload_n hk dX12_wrong_51 rfl ?_
            refine g_iload_n hk dX12_wrong_52 rfl ?_
            refine pM_i9 hk hin12 (List.mem_cons_of_mem _ (List.mem_append_left _ (List.mem_of_getElem? (i := 3) rfl))) dX12_wrong_53 ?_
            refine g_aload_n hk dX12_wrong_56 rfl ?_
            refine g_aload_n hk dX12_wrong_57 rfl ?_
            refine gM_i11 (v := (I 11)) hk hin12 (List.mem_cons_of_mem _ (List.mem_append_left _ (List.mem_of_getElem? (i := 4) rfl))) dX12_wrong_58 rfl ?_
            refine pM_i13 hk hin12 (List.mem_cons_of_mem _ (List.mem_append_left _ (List.mem_of_getElem? (i := 5) rfl))) dX12_wrong_61 ?_
            exact g_vret hk hR ⟨(upd (upd (upd I 8 z1) 9 (A 3 z2.toNatClampNeg)) 13 (I 11)), A, L, (show Md [8, 9, 13] I (upd (upd (upd I 8 z1) 9 (A 3 z2.toNatClampNeg)) 13 (I 11)) from (Md.up (Md.up (Md.up Md.rf rfl) rfl) rfl)), (show Md [] A A from Md.rf), ⟨(IvM_f1 (I := I) (A := A) hIv), (IvM_f2 (I := I) (A := A) hIv), (IvM_f3 (I := I) (A := A) hIv), (IvM_f4 (I := I) (A := A) hIv), (IvM_f6 (I := I) (A := A) hIv), (show 0 ≤ z1.toInt ∧ z1.toInt ≤ 9 from ⟨by omega, by omega⟩), (IvM_f15 (I := I) (A := A) hIv), (IvM_f16 (I := I) (A := A) hIv), (IvM_f17 (I := I) (A := A) hIv), (IvM_f18 (I := I) (A := A) hIv), (IvM_f22 (I := I) (A := A) hIv), (IvM_f23 (I := I) (A := A) hIv), (IvM_f24 (I := I) (A := A) hIv), (IvM_a11 (I := I) (A := A) hIv), (IvM_a26 (I := I) (A := A) hIv), (IvM_s8_0 (I := I) (A := A) hIv), (IvM_s8_1 (I := I) (A := A) hIv), (IvM_s10_0 (I := I) (A := A) hIv), (IvM_s10_1 (I := I) (A := A) hIv), (IvM_s17_0 (I := I) (A := A) hIv), (IvM_s17_164 (I := I) (A := A) hIv), (IvM_lv (I := I) (A := A) hIv), (Or.inr (Or.inl (show z1.toInt ≠ 0 from by omega))), (IvM_nq (I := I) (A := A) hIv), (IvM_hr (I := I) (A := A) hIv), (IvM_hh (I := I) (A := A) hIv), trivial⟩, (by rw [show ((upd (upd (upd I 8 z1) 9 (A 3 z2.toNatClampNeg)) 13 (I 11)) 6) = (I 6) from rfl] <;> omega), (by rw [show ((upd (upd (upd I 8 z1) 9 (A 3 z2.toNatClampNeg)) 13 (I 11)) 8) = z1 from rfl] <;> omega), (by rw [show ((upd (upd (upd I 8 z1) 9 (A 3 z2.toNatClampNeg)) 13 (I 11)) 6) = (I 6) from rfl, show ((upd (upd (upd I 8 z1) 9 (A 3 z2.toNatClampNeg)) 13 (I 11)) 8) = z1 from rfl] <;> omega), rfl, rfl⟩ dX12_wrong_64
          · skip
            exact g_vret hk hR ⟨I, A, L, (show Md [8, 9, 13] I I from Md.rf), (show Md [] A A from Md.rf), hIv, (by omega), (by omega), (by omega), rfl, rfl⟩ dX12_wrong_45
def wo_j133_X12_bounded : List Cond := [Cond.fieldLink RX12 161 "WarpDeskModel" "fault" "I", Cond.methodLink RX12 185 yX12_fail, Cond.instanceMethod yX12_fail, Cond.selects RX12 yX12_fail yX12_fail, Cond.initialized RX12, Cond.methodLink RX12 188 yX12_is, Cond.instanceMethod yX12_is, Cond.selects RX12 yX12_is yX12_is, Cond.fieldLink RX12 27 "WarpDeskModel" "tValue" "[I", Cond.fieldLink RX12 164 "WarpDeskModel" "t" "I", Cond.methodLink RX12 231 yX12_wrong, Cond.instanceMethod yX12_wrong, Cond.selects RX12 yX12_wrong yX12_wrong, Cond.methodLink RX12 191 yX12_goesOn, Cond.instanceMethod yX12_goesOn, Cond.selects RX12 yX12_goesOn yX12_goesOn]
def wz_j133_X12_bounded : List Cond := .code yX12_bounded cX12_bounded 4 (some .int) :: (wo_j133_X12_bounded ++ (wsX120 ++ (wz_j128_X12_fail ++ (wz_j125_X12_is ++ (wz_j134_X12_wrong ++ (wz_j127_X12_goesOn ++ ([] : List Cond)))))))
theorem zg_j133_X12_bounded : ∀ w ∈ wz_j133_X12_bounded, goodWord w = true := zg_cons rfl (zg_app (by decide +kernel) (zg_app zgU_wsX120 (zg_app zg_j128_X12_fail (zg_app zg_j125_X12_is (zg_app zg_j134_X12_wrong (zg_app zg_j127_X12_goesOn zg_nil))))))
theorem zi_j133_X12_bounded : ∀ w ∈ wz_j133_X12_bounded, w ∈ lw_tbl := zi_cons zw_1615 (zi_app (zi_cons zw_1391 (zi_cons zw_1595 (zi_cons zw_1597 (zi_cons zw_55 (zi_cons zw_115 (zi_cons zw_1583 (zi_cons zw_1585 (zi_cons zw_52 (zi_cons zw_1386 (zi_cons zw_1390 (zi_cons zw_1616 (zi_cons zw_1618 (zi_cons zw_60 (zi_cons zw_1591 (zi_cons zw_1593 (zi_cons zw_54 zi_nil)))))))))))))))) (zi_app inX12 (zi_app zi_j128_X12_fail (zi_app zi_j125_X12_is (zi_app zi_j134_X12_wrong (zi_app zi_j127_X12_goesOn zi_nil))))))
set_option maxHeartbeats 4000000 in
set_option maxRecDepth 100000 in
theorem j133_X12_bounded (l : Launch) (D : va_G) (zt : Nat × Nat × Nat × (Nat → Nat) × (Nat → Nat)) (r : Nat → Nat) (g : Nat → ClassId) (I : Nat → Int32) (A : Nat → Nat → Int32) (L : Nat → Nat → Int64) (z1 : Int32) (z2 : Int32) (hIv : IvM I A) : GM l D zt (tyM g) yX12_bounded wz_j133_X12_bounded ({ frames := 2, cells := 0, slots := 0, locals := 41 } : Room) [.ref (r 0), .int z1, .int z2] (wM r g I A L) (fun v _ w' => ∃ (I' : Nat → Int32) (A' : Nat → Nat → Int32) (L' : Nat → Nat → Int64), Md [4, 6, 7, 8, 9, 12, 13] I I' ∧ Md [] A A' ∧ IvM I' A' ∧ ∃ y0 : Int32, ((I 4).toInt ≤ (I' 4).toInt) ∧ ((I 6).toInt ≤ (I' 6).toInt) ∧ ((I 8).toInt ≤ 9 * (I' 8).toInt) ∧ ((I 4).toInt < (I' 4).toInt + (I' 6).toInt) ∧ (z1.toInt ≤ y0.toInt + 8589934592 * ((I' 6).toInt + (I' 8).toInt)) ∧ v = some (.int y0) ∧ w' = wM r g I' A' L') 0 0 := by
  refine GM.of (cc := cX12_bounded) (maxL := 4) (ret := (some .int)) (own := RX12) (lv := [(0, .ref (r 0)), (1, .int z1), (2, .int z2)]) (by decide) rfl rfl (Nat.le_of_ble_eq_true rfl) rfl (fun κ sz hk hR hN => ?_)
  have hin12 : ∀ w ∈ u_ws RX12 TX12 55, w ∈ wz_j133_X12_bounded := fun w h => (List.mem_cons_of_mem _ (List.mem_append_right _ (List.mem_append_left _ h)))
  refine g_aload_n hk dX12_bounded_0 rfl ?_
  refine gM_i6 (v := (I 6)) hk hin12 (List.mem_cons_of_mem _ (List.mem_append_left _ (List.mem_of_getElem? (i := 0) rfl))) dX12_bounded_1 rfl ?_
  have f4723 := IvM_f6 hIv
  refine g_if_gt (tgt := 15) (a := (I 6).toInt) hk dX12_bounded_4 (by decide) rfl (fun c4724 => ?_) (fun c4724 => ?_)
  · skip
    refine g_aload_n hk dX12_bounded_15 rfl ?_
    refine g_iconst (v := 1) hk dX12_bounded_16 (by decide) ?_
    have k4725 : (1 : Int32).toInt = 1 := rfl
    refine g_callV (n := 1) hk (j128_X12_fail l D zt r g I A L 1 hIv (by decide) (by decide)) (SP.same _) (fun _ h => h) (gi_V (List.mem_cons_of_mem _ (List.mem_append_left _ (List.mem_of_getElem? (i := 1) rfl))) (List.mem_cons_of_mem _ (List.mem_append_left _ (List.mem_of_getElem? (i := 2) rfl))) (List.mem_cons_of_mem _ (List.mem_append_left _ (List.mem_of_getElem? (i := 3) rfl))) (List.mem_cons_of_mem _ (List.mem_append_left _ (List.mem_of_getElem? (i := 4) rfl))) (gi_sub (fun w h => (List.mem_cons_of_mem _ (List.mem_append_right _ (List.mem_append_right _ (List.mem_append_left _ h))))) zg_j128_X12_fail)) rfl rfl rfl (by decide +kernel) ⟨Nat.le_of_ble_eq_true rfl, Nat.le_of_ble_eq_true rfl⟩ 0 rfl rfl rfl rfl (Nat.le_of_ble_eq_true rfl) ⟨Nat.le_of_ble_eq_true rfl, Nat.le_of_ble_eq_true rfl⟩ dX12_bounded_17 (fun v ty' w' hp hk' => ?_)
    obtain ⟨I4727, A4727, L4727, hI4727, hA4727, hV4727, r4728, r4729, r4730, rfl, rfl⟩ := hp
    have f4731 := IvM_f6 hV4727
    have f4732 := IvM_f8 hIv
    rw [show (I4727 8) = (I 8) from (hI4727 8 rfl)] at r4729
    show GW κ 4 0 0 (wM r g I4727 A4727 L4727) 20 [(0, .ref (r 0)), (1, .int z1), (2, .int z2)] []
    refine g_iload_n hk dX12_bounded_20 rfl ?_
    have b4733l := Int32.le_toInt z1
    have b4733h := Int32.toInt_lt z1
    have f4734 := IvM_f4 hIv
    exact g_iret hk hR rfl ⟨I4727, A4727, L4727, (show Md [4, 6, 7, 8, 9, 12, 13] I I4727 from (Md.tr Md.rf hI4727 rfl)), (show Md [] A A4727 from (Md.tr Md.rf hA4727 rfl)), hV4727, z1, (by rw [show (I4727 4) = (I 4) from (hI4727 4 rfl)] <;> omega), (by omega), (by rw [show (I4727 8) = (I 8) from (hI4727 8 rfl)] <;> omega), (by rw [show (I4727 4) = (I 4) from (hI4727 4 rfl)] <;> omega), (by rw [show (I4727 8) = (I 8) from (hI4727 8 rfl)] <;> omega), rfl, rfl⟩ dX12_bounded_21
  · skip
    refine g_aload_n hk dX12_bounded_7 rfl ?_
    refine g_iconst (v := 2) hk dX12_bounded_8 (by decide) ?_
    have k4735 : (2 : Int32).toInt = 2 := rfl
    refine g_callV (n := 1) hk (j125_X12_is l D zt r g I A L 2 hIv) (SP.same _) (fun _ h => h) (gi_V (List.mem_cons_of_mem _ (List.mem_append_left _ (List.mem_of_getElem? (i := 5) rfl))) (List.mem_cons_of_mem _ (List.mem_append_left _ (List.mem_of_getElem? (i := 6) rfl))) (List.mem_cons_of_mem _ (List.mem_append_left _ (List.mem_of_getElem? (i := 7) rfl))) (List.mem_cons_of_mem _ (List.mem_append_left _ (List.mem_of_getElem? (i := 4) rfl))) (gi_sub (fun w h => (List.mem_cons_of_mem _ (List.mem_append_right _ (List.mem_append_right _ (List.mem_append_right _ (List.mem_append_left _ h)))))) zg_j125_X12_is)) rfl rfl rfl (by decide +kernel) ⟨Nat.le_of_ble_eq_true rfl, Nat.le_of_ble_eq_true rfl⟩ 0 rfl rfl rfl rfl (Nat.le_of_ble_eq_true rfl) ⟨Nat.le_of_ble_eq_true rfl, Nat.le_of_ble_eq_true rfl⟩ dX12_bounded_9 (fun v ty' w' hp hk' => ?_)
    rcases hp with ⟨c4736, rfl, rfl⟩ | ⟨c4738, rfl, rfl⟩
    · skip
      show GW κ 4 0 0 (wM r g I A L) 12 [(0, .ref (r 0)), (1, .int z1), (2, .int z2)] [.int 0]
      refine g_if_ne (tgt := 22) (a := 0) hk dX12_bounded_12 (by decide) rfl (fun z9 => absurd z9 (show ¬ ((0 : Int) ≠ (0 : Int)) from by decide)) (fun _ => ?_)
      refine g_aload_n hk dX12_bounded_15 rfl ?_
      refine g_iconst (v := 1) hk dX12_bounded_16 (by decide) ?_
      have k4740 : (1 : Int32).toInt = 1 := rfl
      refine g_callV (n := 1) hk (j128_X12_fail l D zt r g I A L 1 hIv (by decide) (by decide)) (SP.same _) (fun _ h => h) (gi_V (List.mem_cons_of_mem _ (List.mem_append_left _ (List.mem_of_getElem? (i := 1) rfl))) (List.mem_cons_of_mem _ (List.mem_append_left _ (List.mem_of_getElem? (i := 2) rfl))) (List.mem_cons_of_mem _ (List.mem_append_left _ (List.mem_of_getElem? (i := 3) rfl))) (List.mem_cons_of_mem _ (List.mem_append_left _ (List.mem_of_getElem? (i := 4) rfl))) (gi_sub (fun w h => (List.mem_cons_of_mem _ (List.mem_append_right _ (List.mem_append_right _ (List.mem_append_left _ h))))) zg_j128_X12_fail)) rfl rfl rfl (by decide +kernel) ⟨Nat.le_of_ble_eq_true rfl, Nat.le_of_ble_eq_true rfl⟩ 0 rfl rfl rfl rfl (Nat.le_of_ble_eq_true rfl) ⟨Nat.le_of_ble_eq_true rfl, Nat.le_of_ble_eq_true rfl⟩ dX12_bounded_17 (fun v ty' w' hp hk' => ?_)
      obtain ⟨I4742, A4742, L4742, hI4742, hA4742, hV4742, r4743, r4744, r4745, rfl, rfl⟩ := hp
      have f4746 := IvM_f6 hV4742
      have f4747 := IvM_f8 hIv
      rw [show (I4742 8) = (I 8) from (hI4742 8 rfl)] at r4744
      show GW κ 4 0 0 (wM r g I4742 A4742 L4742) 20 [(0, .ref (r 0)), (1, .int z1), (2, .int z2)] []
      refine g_iload_n hk dX12_bounded_20 rfl ?_
      have b4748l := Int32.le_toInt z1
      have b4748h := Int32.toInt_lt z1
      have f4749 := IvM_f4 hIv
      exact g_iret hk hR rfl ⟨I4742, A4742, L4742, (show Md [4, 6, 7, 8, 9, 12, 13] I I4742 from (Md.tr Md.rf hI4742 rfl)), (show Md [] A A4742 from (Md.tr Md.rf hA4742 rfl)), hV4742, z1, (by rw [show (I4742 4) = (I 4) from (hI4742 4 rfl)] <;> omega), (by omega), (by rw [show (I4742 8) = (I 8) from (hI4742 8 rfl)] <;> omega), (by rw [show (I4742 4) = (I 4) from (hI4742 4 rfl)] <;> omega), (by rw [show (I4742 8) = (I 8) from (hI4742 8 rfl)] <;> omega), rfl, rfl⟩ dX12_bounded_21
    · skip
      show GW κ 4 0 0 (wM r g I A L) 12 [(0, .ref (r 0)), (1, .int z1), (2, .int z2)] [.int 1]
      refine g_if_ne (tgt := 22) (a := 1) hk dX12_bounded_12 (by decide) rfl (fun _ => ?_) (fun z9 => absurd (show (1 : Int) ≠ (0 : Int) from by decide) z9)
      refine g_aload_n hk dX12_bounded_22 rfl ?_
      refine gM_r0_7 hk hin12 (List.mem_cons_of_mem _ (List.mem_append_left _ (List.mem_of_getElem? (i := 8) rfl))) dX12_bounded_23 ?_
      refine g_aload_n hk dX12_bounded_26 rfl ?_
      refine gM_i4 (v := (I 4)) hk hin12 (List.mem_cons_of_mem _ (List.mem_append_left _ (List.mem_of_getElem? (i := 9) rfl))) dX12_bounded_27 rfl ?_
      have f4750 := IvM_f4 hIv
      refine lM_4 (v := (A 4 (I 4).toNatClampNeg)) hk (vp_in_iff.mpr ⟨by omega, by omega⟩) rfl dX12_bounded_30 ?_
      refine g_istore_n (lv' := [(3, .int (A 4 (I 4).toNatClampNeg)), (0, .ref (r 0)), (1, .int z1), (2, .int z2)]) hk dX12_bounded_31 (by decide) rfl ?_
      refine g_iload_n hk dX12_bounded_32 rfl ?_
      refine g_iload_n hk dX12_bounded_33 rfl ?_
      have b4751l := Int32.le_toInt (A 4 (I 4).toNatClampNeg)
      have b4751h := Int32.toInt_lt (A 4 (I 4).toNatClampNeg)
      have b4752l := Int32.le_toInt z1
      have b4752h := Int32.toInt_lt z1
      refine g_icmp_lt (tgt := 42) (a := (A 4 (I 4).toNatClampNeg).toInt) (b := z1.toInt) hk dX12_bounded_34 (by decide) rfl rfl (fun c4753 => ?_) (fun c4753 => ?_)
      · skip
        refine g_aload_n hk dX12_bounded_42 rfl ?_
        refine g_iconst (v := 5) hk dX12_bounded_43 (by decide) ?_
        refine g_aload_n hk dX12_bounded_44 rfl ?_
        refine gM_i4 (v := (I 4)) hk hin12 (List.mem_cons_of_mem _ (List.mem_append_left _ (List.mem_of_getElem? (i := 9) rfl))) dX12_bounded_45 rfl ?_
        have k4764 : (5 : Int32).toInt = 5 := rfl
        refine g_callV (n := 2) hk (j134_X12_wrong l D zt r g I A L 5 (I 4) hIv (by decide) (by decide) (by omega) (by omega)) (SP.same _) (fun _ h => h) (gi_V (List.mem_cons_of_mem _ (List.mem_append_left _ (List.mem_of_getElem? (i := 10) rfl))) (List.mem_cons_of_mem _ (List.mem_append_left _ (List.mem_of_getElem? (i := 11) rfl))) (List.mem_cons_of_mem _ (List.mem_append_left _ (List.mem_of_getElem? (i := 12) rfl))) (List.mem_cons_of_mem _ (List.mem_append_left _ (List.mem_of_getElem? (i := 4) rfl))) (gi_sub (fun w h => (List.mem_cons_of_mem _ (List.mem_append_right _ (List.mem_append_right _ (List.mem_append_right _ (List.mem_append_right _ (List.mem_append_left _ h))))))) zg_j134_X12_wrong)) rfl rfl rfl (by decide +kernel) ⟨Nat.le_of_ble_eq_true rfl, Nat.le_of_ble_eq_true rfl⟩ 0 rfl rfl rfl rfl (Nat.le_of_ble_eq_true rfl) ⟨Nat.le_of_ble_eq_true rfl, Nat.le_of_ble_eq_true rfl⟩ dX12_bounded_48 (fun v ty' w' hp hk' => ?_)
        obtain ⟨I4766, A4766, L4766, hI4766, hA4766, hV4766, r4767, r4768, r4769, rfl, rfl⟩ := hp
        rw [show (I4766 6) = (I 6) from (hI4766 6 rfl)] at r4767
        have f4770 := IvM_f8 hIv
        have f4771 := IvM_f8 hV4766
        rw [show (I4766 6) = (I 6) from (hI4766 6 rfl)] at r4769
        show GW κ 4 0 0 (wM r g I4766 A4766 L4766) 51 [(3, .int (A 4 (I 4).toNatClampNeg)), (0, .ref (r 0)), (1, .int z1), (2, .int z2)] []
        refine g_aload_n hk dX12_bounded_51 rfl ?_
        refine g_callV (n := 0) hk (j127_X12_goesOn l D zt r g I4766 A4766 L4766  hV4766) (SP.same _) (fun _ h => h) (gi_V (List.mem_cons_of_mem _ (List.mem_append_left _ (List.mem_of_getElem? (i := 13) rfl))) (List.mem_cons_of_mem _ (List.mem_append_left _ (List.mem_of_getElem? (i := 14) rfl))) (List.mem_cons_of_mem _ (List.mem_append_left _ (List.mem_of_getElem? (i := 15) rfl))) (List.mem_cons_of_mem _ (List.mem_append_left _ (List.mem_of_getElem? (i := 4) rfl))) (gi_sub (fun w h => (List.mem_cons_of_mem _ (List.mem_append_right _ (List.mem_append_right _ (List.mem_append_right _ (List.mem_append_right _ (List.mem_append_right _ (List.mem_append_left _ h)))))))) zg_j127_X12_goesOn)) rfl rfl rfl (by decide +kernel) ⟨Nat.le_of_ble_eq_true rfl, Nat.le_of_ble_eq_true rfl⟩ 0 rfl rfl rfl rfl (Nat.le_of_ble_eq_true rfl) ⟨Nat.le_of_ble_eq_true rfl, Nat.le_of_ble_eq_true rfl⟩ dX12_bounded_52 (fun v ty' w' hp hk' => ?_)
        obtain ⟨I4773, A4773, L4773, hI4773, hA4773, hV4773, r4774, r4775, r4776, r4777, rfl, rfl⟩ := hp
        have f4778 := IvM_f4 hV4773
        rw [show (I4766 4) = (I 4) from (hI4766 4 rfl)] at r4774
        have f4779 := IvM_f6 hV4773
        rw [show (I4766 6) = (I 6) from (hI4766 6 rfl)] at r4775
        rw [show (I4773 8) = (I4766 8) from (hI4773 8 rfl)] at r4776
        rw [show (I4766 4) = (I 4) from (hI4766 4 rfl)] at r4777
        show GW κ 4 0 0 (wM r g I4773 A4773 L4773) 55 [(3, .int (A 4 (I 4).toNatClampNeg)), (0, .ref (r 0)), (1, .int z1), (2, .int z2)] []
        refine g_iload_n hk dX12_bounded_55 rfl ?_
        exact g_iret hk hR rfl ⟨I4773, A4773, L4773, (show Md [4, 6, 7, 8, 9, 12, 13] I I4773 from (Md.tr (Md.tr Md.rf hI4766 rfl) hI4773 rfl)), (show Md [] A A4773 from (Md.tr (Md.tr Md.rf hA4766 rfl) hA4773 rfl)), hV4773, (A 4 (I 4).toNatClampNeg), (by omega), (by omega), (by rw [show (I4773 8) = (I4766 8) from (hI4773 8 rfl)] <;> omega), (by omega), (by rw [show (I4773 8) = (I4766 8) from (hI4773 8 rfl)] <;> omega), rfl, rfl⟩ dX12_bounded_56
      · skip
        refine g_iload_n hk dX12_bounded_37 rfl ?_
        refine g_iload_n hk dX12_bounded_38 rfl ?_
        have b4780l := Int32.le_toInt z2
        have b4780h := Int32.toInt_lt z2
        refine g_icmp_le (tgt := 51) (a := (A 4 (I 4).toNatClampNeg).toInt) (b := z2.toInt) hk dX12_bounded_39 (by decide) rfl rfl (fun c4781 => ?_) (fun c4781 => ?_)
        · skip
          refine g_aload_n hk dX12_bounded_51 rfl ?_
          refine g_callV (n := 0) hk (j127_X12_goesOn l D zt r g I A L  hIv) (SP.same _) (fun _ h => h) (gi_V (List.mem_cons_of_mem _ (List.mem_append_left _ (List.mem_of_getElem? (i := 13) rfl))) (List.mem_cons_of_mem _ (List.mem_append_left _ (List.mem_of_getElem? (i := 14) rfl))) (List.mem_cons_of_mem _ (List.mem_append_left _ (List.mem_of_getElem? (i := 15) rfl))) (List.mem_cons_of_mem _ (List.mem_append_left _ (List.mem_of_getElem? (i := 4) rfl))) (gi_sub (fun w h => (List.mem_cons_of_mem _ (List.mem_append_right _ (List.mem_append_right _ (List.mem_append_right _ (List.mem_append_right _ (List.mem_append_right _ (List.mem_append_left _ h)))))))) zg_j127_X12_goesOn)) rfl rfl rfl (by decide +kernel) ⟨Nat.le_of_ble_eq_true rfl, Nat.le_of_ble_eq_true rfl⟩ 0 rfl rfl rfl rfl (Nat.le_of_ble_eq_true rfl) ⟨Nat.le_of_ble_eq_true rfl, Nat.le_of_ble_eq_true rfl⟩ dX12_bounded_52 (fun v ty' w' hp hk' => ?_)
          obtain ⟨I4783, A4783, L4783, hI4783, hA4783, hV4783, r4784, r4785, r4786, r4787, rfl, rfl⟩ := hp
          have f4788 := IvM_f4 hV4783
          have f4789 := IvM_f6 hV4783
          have f4790 := IvM_f8 hIv
          rw [show (I4783 8) = (I 8) from (hI4783 8 rfl)] at r4786
          show GW κ 4 0 0 (wM r g I4783 A4783 L4783) 55 [(3, .int (A 4 (I 4).toNatClampNeg)), (0, .ref (r 0)), (1, .int z1), (2, .int z2)] []
          refine g_iload_n hk dX12_bounded_55 rfl ?_
          exact g_iret hk hR rfl ⟨I4783, A4783, L4783, (show Md [4, 6, 7, 8, 9, 12, 13] I I4783 from (Md.tr Md.rf hI4783 rfl)), (show Md [] A A4783 from (Md.tr Md.rf hA4783 rfl)), hV4783, (A 4 (I 4).toNatClampNeg), (by omega), (by omega), (by rw [show (I4783 8) = (I 8) from (hI4783 8 rfl)] <;> omega), (by omega), (by rw [show (I4783 8) = (I 8) from (hI4783 8 rfl)] <;> omega), rfl, rfl⟩ dX12_bounded_56
        · skip
          refine g_aload_n hk dX12_bounded_42 rfl ?_
          refine g_iconst (v := 5) hk dX12_bounded_43 (by decide) ?_
          refine g_aload_n hk dX12_bounded_44 rfl ?_
          refine gM_i4 (v := (I 4)) hk hin12 (List.mem_cons_of_mem _ (List.mem_append_left _ (List.mem_of_getElem? (i := 9) rfl))) dX12_bounded_45 rfl ?_
          have k4791 : (5 : Int32).toInt = 5 := rfl
          refine g_callV (n := 2) hk (j134_X12_wrong l D zt r g I A L 5 (I 4) hIv (by decide) (by decide) (by omega) (by omega)) (SP.same _) (fun _ h => h) (gi_V (List.mem_cons_of_mem _ (List.mem_append_left _ (List.mem_of_getElem? (i := 10) rfl))) (List.mem_cons_of_mem _ (List.mem_append_left _ (List.mem_of_getElem? (i := 11) rfl))) (List.mem_cons_of_mem _ (List.mem_append_left _ (List.mem_of_getElem? (i := 12) rfl))) (List.mem_cons_of_mem _ (List.mem_append_left _ (List.mem_of_getElem? (i := 4) rfl))) (gi_sub (fun w h => (List.mem_cons_of_mem _ (List.mem_append_right _ (List.mem_append_right _ (List.mem_append_right _ (List.mem_append_right _ (List.mem_append_left _ h))))))) zg_j134_X12_wrong)) rfl rfl rfl (by decide +kernel) ⟨Nat.le_of_ble_eq_true rfl, Nat.le_of_ble_eq_true rfl⟩ 0 rfl rfl rfl rfl (Nat.le_of_ble_eq_true rfl) ⟨Nat.le_of_ble_eq_true rfl, Nat.le_of_ble_eq_true rfl⟩ dX12_bounded_48 (fun v ty' w' hp hk' => ?_)
          obtain ⟨I4793, A4793, L4793, hI4793, hA4793, hV4793, r4794, r4795, r4796, rfl, rfl⟩ := hp
          rw [show (I4793 6) = (I 6) from (hI4793 6 rfl)] at r4794
          have f4797 := IvM_f8 hIv
          have f4798 := IvM_f8 hV4793
          rw [show (I4793 6) = (I 6) from (hI4793 6 rfl)] at r4796
          show GW κ 4 0 0 (wM r g I4793 A4793 L4793) 51 [(3, .int (A 4 (I 4).toNatClampNeg)), (0, .ref (r 0)), (1, .int z1), (2, .int z2)] []
          refine g_aload_n hk dX12_bounded_51 rfl ?_
          refine g_callV (n := 0) hk (j127_X12_goesOn l D zt r g I4793 A4793 L4793  hV4793) (SP.same _) (fun _ h => h) (gi_V (List.mem_cons_of_mem _ (List.mem_append_left _ (List.mem_of_getElem? (i := 13) rfl))) (List.mem_cons_of_mem _ (List.mem_append_left _ (List.mem_of_getElem? (i := 14) rfl))) (List.mem_cons_of_mem _ (List.mem_append_left _ (List.mem_of_getElem? (i := 15) rfl))) (List.mem_cons_of_mem _ (List.mem_append_left _ (List.mem_of_getElem? (i := 4) rfl))) (gi_sub (fun w h => (List.mem_cons_of_mem _ (List.mem_append_right _ (List.mem_append_right _ (List.mem_append_right _ (List.mem_append_right _ (List.mem_append_right _ (List.mem_append_left _ h)))))))) zg_j127_X12_goesOn)) rfl rfl rfl (by decide +kernel) ⟨Nat.le_of_ble_eq_true rfl, Nat.le_of_ble_eq_true rfl⟩ 0 rfl rfl rfl rfl (Nat.le_of_ble_eq_true rfl) ⟨Nat.le_of_ble_eq_true rfl, Nat.le_of_ble_eq_true rfl⟩ dX12_bounded_52 (fun v ty' w' hp hk' => ?_)
          obtain ⟨I4800, A4800, L4800, hI4800, hA4800, hV4800, r4801, r4802, r4803, r4804, rfl, rfl⟩ := hp
          have f4805 := IvM_f4 hV4800
          rw [show (I4793 4) = (I 4) from (hI4793 4 rfl)] at r4801
          have f4806 := IvM_f6 hV4800
          rw [show (I4793 6) = (I 6) from (hI4793 6 rfl)] at r4802
          rw [show (I4800 8) = (I4793 8) from (hI4800 8 rfl)] at r4803
          rw [show (I4793 4) = (I 4) from (hI4793 4 rfl)] at r4804
          show GW κ 4 0 0 (wM r g I4800 A4800 L4800) 55 [(3, .int (A 4 (I 4).toNatClampNeg)), (0, .ref (r 0)), (1, .int z1), (2, .int z2)] []
          refine g_iload_n hk dX12_bounded_55 rfl ?_
          exact g_iret hk hR rfl ⟨I4800, A4800, L4800, (show Md [4, 6, 7, 8, 9, 12, 13] I I4800 from (Md.tr (Md.tr Md.rf hI4793 rfl) hI4800 rfl)), (show Md [] A A4800 from (Md.tr (Md.tr Md.rf hA4793 rfl) hA4800 rfl)), hV4800, (A 4 (I 4).toNatClampNeg), (by omega), (by omega), (by rw [show (I4800 8) = (I4793 8) from (hI4800 8 rfl)] <;> omega), (by omega), (by rw [show (I4800 8) = (I4793 8) from (hI4800 8 rfl)] <;> omega), rfl, rfl⟩ dX12_bounded_56
def wo_j132_X12_readingTold : List Cond := [Cond.methodLink RX12 188 yX12_is, Cond.instanceMethod yX12_is, Cond.selects RX12 yX12_is yX12_is, Cond.initialized RX12, Cond.methodLink RX12 212 yX12_bounded, Cond.instanceMethod yX12_bounded, Cond.selects RX12 yX12_bounded yX12_bounded, Cond.methodLink RX12 191 yX12_goesOn, Cond.instanceMethod yX12_goesOn, Cond.selects RX12 yX12_goesOn yX12_goesOn]
def wz_j132_X12_readingTold : List Cond := .code yX12_readingTold cX12_readingTold 3 (some .int) :: (wo_j132_X12_readingTold ++ (wz_j125_X12_is ++ (wz_j133_X12_bounded ++ (wz_j127_X12_goesOn ++ ([] : List Cond)))))
theorem zg_j132_X12_readingTold : ∀ w ∈ wz_j132_X12_readingTold, goodWord w = true := zg_cons rfl (zg_app (by decide +kernel) (zg_app zg_j125_X12_is (zg_app zg_j133_X12_bounded (zg_app zg_j127_X12_goesOn zg_nil))))
theorem zi_j132_X12_readingTold : ∀ w ∈ wz_j132_X12_readingTold, w ∈ lw_tbl := zi_cons zw_1611 (zi_app (zi_cons zw_1583 (zi_cons zw_1585 (zi_cons zw_52 (zi_cons zw_115 (zi_cons zw_1612 (zi_cons zw_1614 (zi_cons zw_59 (zi_cons zw_1591 (zi_cons zw_1593 (zi_cons zw_54 zi_nil)))))))))) (zi_app zi_j125_X12_is (zi_app zi_j133_X12_bounded (zi_app zi_j127_X12_goesOn zi_nil))))
set_option maxHeartbeats 4000000 in
set_option maxRecDepth 100000 in
theorem j132_X12_readingTold (l : Launch) (D : va_G) (zt : Nat × Nat × Nat × (Nat → Nat) × (Nat → Nat)) (r : Nat → Nat) (g : Nat → ClassId) (I : Nat → Int32) (A : Nat → Nat → Int32) (L : Nat → Nat → Int64) (hIv : IvM I A) : GM l D zt (tyM g) yX12_readingTold wz_j132_X12_readingTold ({ frames := 3, cells := 0, slots := 0, locals := 64 } : Room) [.ref (r 0)] (wM r g I A L) (fun v _ w' => ∃ (I' : Nat → Int32) (A' : Nat → Nat → Int32) (L' : Nat → Nat → Int64), Md [4, 6, 7, 8, 9, 12, 13] I I' ∧ Md [] A A' ∧ IvM I' A' ∧ ∃ y0 : Int32, ((I 4).toInt ≤ (I' 4).toInt) ∧ ((I 6).toInt ≤ (I' 6).toInt) ∧ ((I 8).toInt ≤ 9 * (I' 8).toInt) ∧ ((I 4).toInt < (I' 4).toInt + (I' 6).toInt) ∧ v = some (.int y0) ∧ w' = wM r g I' A' L') 0 0 := by
  refine GM.of (cc := cX12_readingTold) (maxL := 3) (ret := (some .int)) (own := RX12) (lv := [(0, .ref (r 0))]) (by decide) rfl rfl (Nat.le_of_ble_eq_true rfl) rfl (fun κ sz hk hR hN => ?_)
  refine g_aload_n hk dX12_readingTold_0 rfl ?_
  refine g_bipush (v := 9) hk dX12_readingTold_1 (by decide) ?_
  have k4717 : (9 : Int32).toInt = 9 := rfl
  refine g_callV (n := 1) hk (j125_X12_is l D zt r g I A L 9 hIv) (SP.same _) (fun _ h => h) (gi_V (List.mem_cons_of_mem _ (List.mem_append_left _ (List.mem_of_getElem? (i := 0) rfl))) (List.mem_cons_of_mem _ (List.mem_append_left _ (List.mem_of_getElem? (i := 1) rfl))) (List.mem_cons_of_mem _ (List.mem_append_left _ (List.mem_of_getElem? (i := 2) rfl))) (List.mem_cons_of_mem _ (List.mem_append_left _ (List.mem_of_getElem? (i := 3) rfl))) (gi_sub (fun w h => (List.mem_cons_of_mem _ (List.mem_append_right _ (List.mem_append_left _ h)))) zg_j125_X12_is)) rfl rfl rfl (by decide +kernel) ⟨Nat.le_of_ble_eq_true rfl, Nat.le_of_ble_eq_true rfl⟩ 0 rfl rfl rfl rfl (Nat.le_of_ble_eq_true rfl) ⟨Nat.le_of_ble_eq_true rfl, Nat.le_of_ble_eq_true rfl⟩ dX12_readingTold_3 (fun v ty' w' hp hk' => ?_)
  rcases hp with ⟨c4718, rfl, rfl⟩ | ⟨c4720, rfl, rfl⟩
  · skip
    have f4722 := IvM_f6 hIv
    show GW κ 3 0 0 (wM r g I A L) 6 [(0, .ref (r 0))] [.int 0]
    refine g_istore_n (lv' := [(1, .int 0), (0, .ref (r 0))]) hk dX12_readingTold_6 (by decide) rfl ?_
    refine g_iload_n hk dX12_readingTold_7 rfl ?_
    refine g_if_eq (tgt := 15) (a := 0) hk dX12_readingTold_8 (by decide) rfl (fun _ => ?_) (fun z9 => absurd (show (0 : Int) = (0 : Int) from by decide) z9)
    refine g_aload_n hk dX12_readingTold_15 rfl ?_
    refine g_iconst (v := 0) hk dX12_readingTold_16 (by decide) ?_
    refine g_sipush (v := 999) hk dX12_readingTold_17 (by decide) ?_
    have k4807 : (0 : Int32).toInt = 0 := rfl
    have k4808 : (999 : Int32).toInt = 999 := rfl
    refine g_callV (n := 2) hk (j133_X12_bounded l D zt r g I A L 0 999 hIv) (SP.same _) (fun _ h => h) (gi_V (List.mem_cons_of_mem _ (List.mem_append_left _ (List.mem_of_getElem? (i := 4) rfl))) (List.mem_cons_of_mem _ (List.mem_append_left _ (List.mem_of_getElem? (i := 5) rfl))) (List.mem_cons_of_mem _ (List.mem_append_left _ (List.mem_of_getElem? (i := 6) rfl))) (List.mem_cons_of_mem _ (List.mem_append_left _ (List.mem_of_getElem? (i := 3) rfl))) (gi_sub (fun w h => (List.mem_cons_of_mem _ (List.mem_append_right _ (List.mem_append_right _ (List.mem_append_left _ h))))) zg_j133_X12_bounded)) rfl rfl rfl (by decide +kernel) ⟨Nat.le_of_ble_eq_true rfl, Nat.le_of_ble_eq_true rfl⟩ 0 rfl rfl rfl rfl (Nat.le_of_ble_eq_true rfl) ⟨Nat.le_of_ble_eq_true rfl, Nat.le_of_ble_eq_true rfl⟩ dX12_readingTold_20 (fun v ty' w' hp hk' => ?_)
    obtain ⟨I4810, A4810, L4810, hI4810, hA4810, hV4810, y4809, r4811, r4812, r4813, r4814, r4815, rfl, rfl⟩ := hp
    have f4816 := IvM_f4 hIv
    have f4817 := IvM_f4 hV4810
    have f4818 := IvM_f6 hV4810
    have f4819 := IvM_f8 hIv
    have f4820 := IvM_f8 hV4810
    have b4821l := Int32.le_toInt y4809
    have b4821h := Int32.toInt_lt y4809
    show GW κ 3 0 0 (wM r g I4810 A4810 L4810) 23 [(1, .int 0), (0, .ref (r 0))] [.int y4809]
    refine g_istore_n (lv' := [(2, .int y4809), (1, .int 0), (0, .ref (r 0))]) hk dX12_readingTold_23 (by decide) rfl ?_
    refine g_iload_n hk dX12_readingTold_24 rfl ?_
    refine g_if_eq (tgt := 33) (a := 0) hk dX12_readingTold_25 (by decide) rfl (fun _ => ?_) (fun z9 => absurd (show (0 : Int) = (0 : Int) from by decide) z9)
    refine g_iload_n hk dX12_readingTold_33 rfl ?_
    exact g_iret hk hR rfl ⟨I4810, A4810, L4810, (show Md [4, 6, 7, 8, 9, 12, 13] I I4810 from (Md.tr Md.rf hI4810 rfl)), (show Md [] A A4810 from (Md.tr Md.rf hA4810 rfl)), hV4810, y4809, (by omega), (by omega), (by omega), (by omega), rfl, rfl⟩ dX12_readingTold_34
  · skip
    have f4822 := IvM_f6 hIv
    show GW κ 3 0 0 (wM r g I A L) 6 [(0, .ref (r 0))] [.int 1]
    refine g_istore_n (lv' := [(1, .int 1), (0, .ref (r 0))]) hk dX12_readingTold_6 (by decide) rfl ?_
    refine g_iload_n hk dX12_readingTold_7 rfl ?_
    refine g_if_eq (tgt := 15) (a := 1) hk dX12_readingTold_8 (by decide) rfl (fun z9 => absurd z9 (show ¬ ((1 : Int) = (0 : Int)) from by decide)) (fun _ => ?_)
    refine g_aload_n hk dX12_readingTold_11 rfl ?_
    refine g_callV (n := 0) hk (j127_X12_goesOn l D zt r g I A L  hIv) (SP.same _) (fun _ h => h) (gi_V (List.mem_cons_of_mem _ (List.mem_append_left _ (List.mem_of_getElem? (i := 7) rfl))) (List.mem_cons_of_mem _ (List.mem_append_left _ (List.mem_of_getElem? (i := 8) rfl))) (List.mem_cons_of_mem _ (List.mem_append_left _ (List.mem_of_getElem? (i := 9) rfl))) (List.mem_cons_of_mem _ (List.mem_append_left _ (List.mem_of_getElem? (i := 3) rfl))) (gi_sub (fun w h => (List.mem_cons_of_mem _ (List.mem_append_right _ (List.mem_append_right _ (List.mem_append_right _ (List.mem_append_left _ h)))))) zg_j127_X12_goesOn)) rfl rfl rfl (by decide +kernel) ⟨Nat.le_of_ble_eq_true rfl, Nat.le_of_ble_eq_true rfl⟩ 0 rfl rfl rfl rfl (Nat.le_of_ble_eq_true rfl) ⟨Nat.le_of_ble_eq_true rfl, Nat.le_of_ble_eq_true rfl⟩ dX12_readingTold_12 (fun v ty' w' hp hk' => ?_)
    obtain ⟨I4824, A4824, L4824, hI4824, hA4824, hV4824, r4825, r4826, r4827, r4828, rfl, rfl⟩ := hp
    have f4829 := IvM_f4 hIv
    have f4830 := IvM_f4 hV4824
    have f4831 := IvM_f6 hV4824
    have f4832 := IvM_f8 hIv
    rw [show (I4824 8) = (I 8) from (hI4824 8 rfl)] at r4827
    show GW κ 3 0 0 (wM r g I4824 A4824 L4824) 15 [(1, .int 1), (0, .ref (r 0))] []
    refine g_aload_n hk dX12_readingTold_15 rfl ?_
    refine g_iconst (v := 0) hk dX12_readingTold_16 (by decide) ?_
    refine g_sipush (v := 999) hk dX12_readingTold_17 (by decide) ?_
    have k4833 : (0 : Int32).toInt = 0 := rfl
    have k4834 : (999 : Int32).toInt = 999 := rfl
    refine g_callV (n := 2) hk (j133_X12_bounded l D zt r g I4824 A4824 L4824 0 999 hV4824) (SP.same _) (fun _ h => h) (gi_V (List.mem_cons_of_mem _ (List.mem_append_left _ (List.mem_of_getElem? (i := 4) rfl))) (List.mem_cons_of_mem _ (List.mem_append_left _ (List.mem_of_getElem? (i := 5) rfl))) (List.mem_cons_of_mem _ (List.mem_append_left _ (List.mem_of_getElem? (i := 6) rfl))) (List.mem_cons_of_mem _ (List.mem_append_left _ (List.mem_of_getElem? (i := 3) rfl))) (gi_sub (fun w h => (List.mem_cons_of_mem _ (List.mem_append_right _ (List.mem_append_right _ (List.mem_append_left _ h))))) zg_j133_X12_bounded)) rfl rfl rfl (by decide +kernel) ⟨Nat.le_of_ble_eq_true rfl, Nat.le_of_ble_eq_true rfl⟩ 0 rfl rfl rfl rfl (Nat.le_of_ble_eq_true rfl) ⟨Nat.le_of_ble_eq_true rfl, Nat.le_of_ble_eq_true rfl⟩ dX12_readingTold_20 (fun v ty' w' hp hk' => ?_)
    obtain ⟨I4836, A4836, L4836, hI4836, hA4836, hV4836, y4835, r4837, r4838, r4839, r4840, r4841, rfl, rfl⟩ := hp
    have f4842 := IvM_f4 hV4836
    have f4843 := IvM_f6 hV4836
    have f4844 := IvM_f8 hV4836
    rw [show (I4824 8) = (I 8) from (hI4824 8 rfl)] at r4839
    have b4845l := Int32.le_toInt y4835
    have b4845h := Int32.toInt_lt y4835
    show GW κ 3 0 0 (wM r g I4836 A4836 L4836) 23 [(1, .int 1), (0, .ref (r 0))] [.int y4835]
    refine g_istore_n (lv' := [(2, .int y4835), (1, .int 1), (0, .ref (r 0))]) hk dX12_readingTold_23 (by decide) rfl ?_
    refine g_iload_n hk dX12_readingTold_24 rfl ?_
    refine g_if_eq (tgt := 33) (a := 1) hk dX12_readingTold_25 (by decide) rfl (fun z9 => absurd z9 (show ¬ ((1 : Int) = (0 : Int)) from by decide)) (fun _ => ?_)
    refine g_iload_n hk dX12_readingTold_28 rfl ?_
    refine g_ineg hk dX12_readingTold_29 ?_
    refine g_topi (fun y4846 ey4846 => ?_)
    refine g_goto (tgt := 34) hk dX12_readingTold_30 (by decide) ?_
    have b4847l := Int32.le_toInt y4846
    have b4847h := Int32.toInt_lt y4846
    exact g_iret hk hR rfl ⟨I4836, A4836, L4836, (show Md [4, 6, 7, 8, 9, 12, 13] I I4836 from (Md.tr (Md.tr Md.rf hI4824 rfl) hI4836 rfl)), (show Md [] A A4836 from (Md.tr (Md.tr Md.rf hA4824 rfl) hA4836 rfl)), hV4836, y4846, (by omega), (by omega), (by omega), (by omega), rfl, rfl⟩ dX12_readingTold_34
