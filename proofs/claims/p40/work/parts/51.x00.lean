def wo_k114_X10_addFour : List Cond := [Cond.fieldLink RX10 15 "WarpDesk$Tape" "size" "I", Cond.fieldLink RX10 9 "WarpDesk$Tape" "bytes" "[I"]
def wz_k114_X10_addFour : List Cond := .code yX10_addFour cX10_addFour 3 none :: (wo_k114_X10_addFour ++ (wsX100 ++ ([] : List Cond)))
theorem zg_k114_X10_addFour : ∀ w ∈ wz_k114_X10_addFour, goodWord w = true := zg_cons rfl (zg_app (by decide +kernel) (zg_app zgU_wsX100 zg_nil))
theorem zi_k114_X10_addFour : ∀ w ∈ wz_k114_X10_addFour, w ∈ lw_tbl := zi_cons zw_525 (zi_app (zi_cons zw_137 (zi_cons zw_135 zi_nil)) (zi_app inX10 zi_nil))
set_option maxHeartbeats 4000000 in
set_option maxRecDepth 100000 in
theorem k114_X10_addFour (l : Launch) (D : va_G) (zt : Nat × Nat × Nat × (Nat → Nat) × (Nat → Nat)) (q : Nat → Nat) (d : Nat → ClassId) (I : Nat → Int32) (A : Nat → Nat → Int32) (z1 : Int32) (hIv : IvX I A) (hp0 : (I 0).toInt ≤ 1996) : GM l D zt (tyX d) yX10_addFour wz_k114_X10_addFour ({ frames := 0, cells := 0, slots := 0, locals := 0 } : Room) [.ref (q 1), .int z1] (wX q d I A) (fun v _ w' => ∃ (I' : Nat → Int32) (A' : Nat → Nat → Int32), Md [0] I I' ∧ Md [0] A A' ∧ IvX I' A' ∧ ((I' 0).toInt = (I 0).toInt + 4) ∧ v = none ∧ w' = wX q d I' A') 0 0 := by
  refine GM.of (cc := cX10_addFour) (maxL := 3) (ret := none) (own := RX10) (lv := [(0, .ref (q 1)), (1, .int z1)]) (by decide) rfl rfl (Nat.le_of_ble_eq_true rfl) rfl (fun κ sz hk hR hN => ?_)
  have hin10 : ∀ w ∈ u_ws RX10 TX10 7, w ∈ wz_k114_X10_addFour := fun w h => (List.mem_cons_of_mem _ (List.mem_append_right _ (List.mem_append_left _ h)))
  refine g_bipush (v := 24) hk dX10_addFour_0 (by decide) ?_
  refine g_istore_n (lv' := [(2, .int 24), (0, .ref (q 1)), (1, .int z1)]) hk dX10_addFour_2 (by decide) rfl ?_
  have lp288 : ∀ (n289 : Nat) (x248 : Int32) (I251 : Nat → Int32) (A251 : Nat → Nat → Int32), (Md [0] I I251) → (Md [0] A A251) → (IvX I251 A251) → ((-8) ≤ x248.toInt) → (x248.toInt ≤ 24) → (8 * (I251 0).toInt - 8 * (I 0).toInt = 24 - x248.toInt) → (x248.toInt + 1 - 0 < (n289 : Int)) → (0 < n289) → GW κ 3 0 0 (wX q d I251 A251) 3 [(2, .int x248), (0, .ref (q 1)), (1, .int z1)] [] := by
    intro n289
    induction n289 with
    | zero =>
      intro x248 I251 A251 hI251 hA251 hV251 h285 h286 h287 m290 m290z
      exact absurd m290z (Nat.lt_irrefl 0)
    | succ n289 ih291 =>
      intro x248 I251 A251 hI251 hA251 hV251 h285 h286 h287 m290 m290z
      refine g_iload_n hk dX10_addFour_3 rfl ?_
      refine g_if_lt (tgt := 58) (a := x248.toInt) hk dX10_addFour_4 (by decide) rfl (fun c292 => ?_) (fun c292 => ?_)
      · skip
        have f293 := IvX_f0 hV251
        have f294 := IvX_f0 hIv
        exact g_vret hk hR ⟨I251, A251, (show Md [0] I I251 from (Md.tr Md.rf hI251 rfl)), (show Md [0] A A251 from (Md.tr Md.rf hA251 rfl)), hV251, (show ((I251 0)).toInt = (I 0).toInt + 4 from by omega), rfl, rfl⟩ dX10_addFour_58
      · skip
        refine g_aload_n hk dX10_addFour_7 rfl ?_
        refine gX_i0 (v := (I251 0)) hk hin10 (List.mem_cons_of_mem _ (List.mem_append_left _ (List.mem_of_getElem? (i := 0) rfl))) dX10_addFour_8 rfl ?_
        have f295 := IvX_f0 hV251
        refine g_if_lt (tgt := 52) (a := (I251 0).toInt) hk dX10_addFour_11 (by decide) rfl (fun z9 => absurd z9 (show ¬ ((I251 0).toInt < 0) from by omega)) (fun _ => ?_)
        refine g_aload_n hk dX10_addFour_14 rfl ?_
        refine gX_i0 (v := (I251 0)) hk hin10 (List.mem_cons_of_mem _ (List.mem_append_left _ (List.mem_of_getElem? (i := 0) rfl))) dX10_addFour_15 rfl ?_
        refine g_aload_n hk dX10_addFour_18 rfl ?_
        refine gX_r1_0 hk hin10 (List.mem_cons_of_mem _ (List.mem_append_left _ (List.mem_of_getElem? (i := 1) rfl))) dX10_addFour_19 ?_
        refine nX_0 hk dX10_addFour_22 ?_
        refine g_icmp_ge (tgt := 52) (a := (I251 0).toInt) (b := 2000) hk dX10_addFour_23 (by decide) rfl rfl (fun c296 => ?_) (fun c296 => ?_)
        · skip
          obtain ⟨y297, ey297⟩ : ∃ y : Int32, y = x248 + Int32.ofInt (-8) := ⟨_, rfl⟩
          have hy297 : y297.toInt = x248.toInt + (-8) := i32_add ey297 rfl (by decide) (by omega) (by omega)
          refine g_iinc (v := y297) (lv' := [(2, .int y297), (0, .ref (q 1)), (1, .int z1)]) hk 0 dX10_addFour_52 rfl ey297.symm (by decide) rfl ?_
          refine g_goto (tgt := 3) hk dX10_addFour_55 (by decide) ?_
          exact g_lv (List.forall_mem_cons.mpr ⟨List.mem_of_getElem? (i := 0) rfl, (List.forall_mem_cons.mpr ⟨List.mem_of_getElem? (i := 1) rfl, (List.forall_mem_cons.mpr ⟨List.mem_of_getElem? (i := 2) rfl, (fun _ h => absurd h List.not_mem_nil)⟩)⟩)⟩) (ih291 y297 I251 A251 (show Md [0] I I251 from Md.tr hI251 (show Md [0] I251 I251 from Md.rf) rfl) (show Md [0] A A251 from Md.tr hA251 (show Md [0] A251 A251 from Md.rf) rfl) hV251 (by omega) (by omega) (show 8 * (I251 0).toInt - 8 * (I 0).toInt = 24 - y297.toInt from by omega) (by omega) (by omega))
        · skip
          refine g_aload_n hk dX10_addFour_26 rfl ?_
          refine gX_r1_0 hk hin10 (List.mem_cons_of_mem _ (List.mem_append_left _ (List.mem_of_getElem? (i := 1) rfl))) dX10_addFour_27 ?_
          refine g_aload_n hk dX10_addFour_30 rfl ?_
          refine gX_i0 (v := (I251 0)) hk hin10 (List.mem_cons_of_mem _ (List.mem_append_left _ (List.mem_of_getElem? (i := 0) rfl))) dX10_addFour_31 rfl ?_
          refine g_iload_n hk dX10_addFour_34 rfl ?_
          refine g_iload_n hk dX10_addFour_35 rfl ?_
          refine g_iushr hk dX10_addFour_36 rfl ?_
          refine g_topi (fun y298 ey298 => ?_)
          refine g_sipush (v := 255) hk dX10_addFour_37 (by decide) ?_
          have b299l := Int32.le_toInt y298
          have b299h := Int32.toInt_lt y298
          refine g_iand hk dX10_addFour_40 ?_
          refine g_topi (fun y300 ey300 => ?_)
          have hy300 : 0 ≤ y300.toInt ∧ y300.toInt ≤ 255 := i32_mask 8 ey300 (by decide) (by decide)
          refine sX_0 (j := (I251 0).toNatClampNeg) hk (vp_in_iff.mpr ⟨by omega, by omega⟩) rfl dX10_addFour_41 ?_
          refine g_aload_n hk dX10_addFour_42 rfl ?_
          refine g_dup hk dX10_addFour_43 rfl ?_
          refine gX_i0 (v := (I251 0)) hk hin10 (List.mem_cons_of_mem _ (List.mem_append_left _ (List.mem_of_getElem? (i := 0) rfl))) dX10_addFour_44 rfl ?_
          refine g_iconst (v := 1) hk dX10_addFour_47 (by decide) ?_
          refine g_iadd hk dX10_addFour_48 ?_
          refine g_topi (fun y301 ey301 => ?_)
          have hy301 : y301.toInt = (I251 0).toInt + 1 := i32_add ey301 rfl rfl (by omega) (by omega)
          refine pX_i0 hk hin10 (List.mem_cons_of_mem _ (List.mem_append_left _ (List.mem_of_getElem? (i := 0) rfl))) dX10_addFour_49 ?_
          obtain ⟨y302, ey302⟩ : ∃ y : Int32, y = x248 + Int32.ofInt (-8) := ⟨_, rfl⟩
          have hy302 : y302.toInt = x248.toInt + (-8) := i32_add ey302 rfl (by decide) (by omega) (by omega)
          refine g_iinc (v := y302) (lv' := [(2, .int y302), (0, .ref (q 1)), (1, .int z1)]) hk 0 dX10_addFour_52 rfl ey302.symm (by decide) rfl ?_
          refine g_goto (tgt := 3) hk dX10_addFour_55 (by decide) ?_
          exact g_lv (List.forall_mem_cons.mpr ⟨List.mem_of_getElem? (i := 0) rfl, (List.forall_mem_cons.mpr ⟨List.mem_of_getElem? (i := 1) rfl, (List.forall_mem_cons.mpr ⟨List.mem_of_getElem? (i := 2) rfl, (fun _ h => absurd h List.not_mem_nil)⟩)⟩)⟩) (ih291 y302 (upd I251 0 y301) (up3 A251 0 ((I251 0).toNatClampNeg) y300) (show Md [0] I (upd I251 0 y301) from Md.tr hI251 (show Md [0] I251 (upd I251 0 y301) from (Md.up Md.rf rfl)) rfl) (show Md [0] A (up3 A251 0 ((I251 0).toNatClampNeg) y300) from Md.tr hA251 (show Md [0] A251 (up3 A251 0 ((I251 0).toNatClampNeg) y300) from (Md.up3 Md.rf rfl)) rfl) ⟨(show 0 ≤ y301.toInt ∧ y301.toInt ≤ 2000 from ⟨by omega, by omega⟩), (IvX_f18 (I := I251) (A := A251) hV251), (IvX_f30 (I := I251) (A := A251) hV251), (IvX_f31 (I := I251) (A := A251) hV251), (IvX_a4 (I := I251) (A := A251) hV251), (IvX_a9 (I := I251) (A := A251) hV251), trivial⟩ (by omega) (by omega) (show 8 * y301.toInt - 8 * (I 0).toInt = 24 - y302.toInt from by omega) (by omega) (by omega))
  have k304 : (24 : Int32).toInt = 24 := rfl
  obtain ⟨n303, n303a, n303b⟩ : ∃ n : Nat, 24 + 1 - 0 < (n : Int) ∧ 0 < n := ⟨((24 + 1 - 0 : Int)).toNat + 1, by omega, by omega⟩
  exact lp288 n303 24 I A Md.rf Md.rf hIv (by omega) (by omega) (show 8 * (I 0).toInt - 8 * (I 0).toInt = 24 - 24 from by omega) n303a n303b
def wo_k113_X11_feed : List Cond := [Cond.fieldLink RX11 10 "WarpDesk" "tape" "LWarpDesk$Tape;", Cond.fieldLink RX11 85 "WarpDesk$Tape" "size" "I", Cond.methodLink RX11 89 yX10_addFour, Cond.instanceMethod yX10_addFour, Cond.selects RX10 yX10_addFour yX10_addFour, Cond.initialized RX10]
def wz_k113_X11_feed : List Cond := .code yX11_feed cX11_feed 6 (some .int) :: (wo_k113_X11_feed ++ (wsX100 ++ (wsX110 ++ (wz_k114_X10_addFour ++ ([] : List Cond)))))
theorem zg_k113_X11_feed : ∀ w ∈ wz_k113_X11_feed, goodWord w = true := zg_cons rfl (zg_app (by decide +kernel) (zg_app zgU_wsX100 (zg_app zgU_wsX110 (zg_app zg_k114_X10_addFour zg_nil))))
theorem zi_k113_X11_feed : ∀ w ∈ wz_k113_X11_feed, w ∈ lw_tbl := zi_cons zw_521 (zi_app (zi_cons zw_487 (zi_cons zw_136 (zi_cons zw_522 (zi_cons zw_523 (zi_cons zw_524 (zi_cons zw_104 zi_nil)))))) (zi_app inX10 (zi_app inX11 (zi_app zi_k114_X10_addFour zi_nil))))
set_option maxHeartbeats 4000000 in
set_option maxRecDepth 100000 in
theorem k113_X11_feed (l : Launch) (D : va_G) (zt : Nat × Nat × Nat × (Nat → Nat) × (Nat → Nat)) (q : Nat → Nat) (d : Nat → ClassId) (I : Nat → Int32) (A : Nat → Nat → Int32) (z1 : Int32) (z2 : Int32) (z3 : Int32) (z4 : Int32) (z5 : Int32) (hIv : IvX I A) : GM l D zt (tyX d) yX11_feed wz_k113_X11_feed ({ frames := 1, cells := 0, slots := 0, locals := 22 } : Room) [.ref (q 0), .int z1, .int z2, .int z3, .int z4, .int z5] (wX q d I A) (fun v _ w' => ∃ (I' : Nat → Int32) (A' : Nat → Nat → Int32), Md [0] I I' ∧ Md [0] A A' ∧ IvX I' A' ∧ ∃ y0 : Int32, ((1980 < (I 0).toInt ∧ y0.toInt = -1 ∧ (I' 0).toInt = (I 0).toInt) ∨ ((I 0).toInt ≤ 1980 ∧ y0.toInt = (I 0).toInt + 20 ∧ (I' 0).toInt = (I 0).toInt + 20)) ∧ ((-1) ≤ y0.toInt) ∧ (y0.toInt ≤ 2000) ∧ v = some (.int y0) ∧ w' = wX q d I' A') 0 0 := by
  refine GM.of (cc := cX11_feed) (maxL := 6) (ret := (some .int)) (own := RX11) (lv := [(0, .ref (q 0)), (1, .int z1), (2, .int z2), (3, .int z3), (4, .int z4), (5, .int z5)]) (by decide) rfl rfl (Nat.le_of_ble_eq_true rfl) rfl (fun κ sz hk hR hN => ?_)
  have hin10 : ∀ w ∈ u_ws RX10 TX10 7, w ∈ wz_k113_X11_feed := fun w h => (List.mem_cons_of_mem _ (List.mem_append_right _ (List.mem_append_left _ h)))
  have hin11 : ∀ w ∈ u_ws RX11 TX11 10, w ∈ wz_k113_X11_feed := fun w h => (List.mem_cons_of_mem _ (List.mem_append_right _ (List.mem_append_right _ (List.mem_append_left _ h))))
  refine g_aload_n hk dX11_feed_0 rfl ?_
  refine gX_r0_0 hk hin11 (List.mem_cons_of_mem _ (List.mem_append_left _ (List.mem_of_getElem? (i := 0) rfl))) dX11_feed_1 ?_
  refine gX_i0 (v := (I 0)) hk hin10 (List.mem_cons_of_mem _ (List.mem_append_left _ (List.mem_of_getElem? (i := 1) rfl))) dX11_feed_4 rfl ?_
  have f246 := IvX_f0 hIv
  refine g_sipush (v := 1980) hk dX11_feed_7 (by decide) ?_
  refine g_icmp_le (tgt := 15) (a := (I 0).toInt) (b := 1980) hk dX11_feed_10 (by decide) rfl rfl (fun c247 => ?_) (fun c247 => ?_)
  · skip
    refine g_aload_n hk dX11_feed_15 rfl ?_
    refine gX_r0_0 hk hin11 (List.mem_cons_of_mem _ (List.mem_append_left _ (List.mem_of_getElem? (i := 0) rfl))) dX11_feed_16 ?_
    refine g_iload_n hk dX11_feed_19 rfl ?_
    refine g_callV (n := 1) hk (k114_X10_addFour l D zt q d I A z1 hIv (show (I 0).toInt ≤ 1996 from by omega)) (SP.same _) (fun _ h => h) (gi_V (List.mem_cons_of_mem _ (List.mem_append_left _ (List.mem_of_getElem? (i := 2) rfl))) (List.mem_cons_of_mem _ (List.mem_append_left _ (List.mem_of_getElem? (i := 3) rfl))) (List.mem_cons_of_mem _ (List.mem_append_left _ (List.mem_of_getElem? (i := 4) rfl))) (List.mem_cons_of_mem _ (List.mem_append_left _ (List.mem_of_getElem? (i := 5) rfl))) (gi_sub (fun w h => (List.mem_cons_of_mem _ (List.mem_append_right _ (List.mem_append_right _ (List.mem_append_right _ (List.mem_append_left _ h)))))) zg_k114_X10_addFour)) rfl rfl rfl (by decide +kernel) ⟨Nat.le_of_ble_eq_true rfl, Nat.le_of_ble_eq_true rfl⟩ 1 rfl rfl rfl rfl (Nat.le_of_ble_eq_true rfl) ⟨Nat.le_of_ble_eq_true rfl, Nat.le_of_ble_eq_true rfl⟩ dX11_feed_20 (fun v ty' w' hp hk' => ?_)
    obtain ⟨I306, A306, hI306, hA306, hV306, r307, rfl, rfl⟩ := hp
    have f308 := IvX_f0 hV306
    have r307 : (I306 0).toInt = (I 0).toInt + 4 := r307
    show GW κ 6 0 0 (wX q d I306 A306) 23 [(0, .ref (q 0)), (1, .int z1), (2, .int z2), (3, .int z3), (4, .int z4), (5, .int z5)] []
    refine g_aload_n hk dX11_feed_23 rfl ?_
    refine gX_r0_0 hk hin11 (List.mem_cons_of_mem _ (List.mem_append_left _ (List.mem_of_getElem? (i := 0) rfl))) dX11_feed_24 ?_
    refine g_iload_n hk dX11_feed_27 rfl ?_
    refine g_callV (n := 1) hk (k114_X10_addFour l D zt q d I306 A306 z2 hV306 (show (I306 0).toInt ≤ 1996 from by omega)) (SP.same _) (fun _ h => h) (gi_V (List.mem_cons_of_mem _ (List.mem_append_left _ (List.mem_of_getElem? (i := 2) rfl))) (List.mem_cons_of_mem _ (List.mem_append_left _ (List.mem_of_getElem? (i := 3) rfl))) (List.mem_cons_of_mem _ (List.mem_append_left _ (List.mem_of_getElem? (i := 4) rfl))) (List.mem_cons_of_mem _ (List.mem_append_left _ (List.mem_of_getElem? (i := 5) rfl))) (gi_sub (fun w h => (List.mem_cons_of_mem _ (List.mem_append_right _ (List.mem_append_right _ (List.mem_append_right _ (List.mem_append_left _ h)))))) zg_k114_X10_addFour)) rfl rfl rfl (by decide +kernel) ⟨Nat.le_of_ble_eq_true rfl, Nat.le_of_ble_eq_true rfl⟩ 1 rfl rfl rfl rfl (Nat.le_of_ble_eq_true rfl) ⟨Nat.le_of_ble_eq_true rfl, Nat.le_of_ble_eq_true rfl⟩ dX11_feed_28 (fun v ty' w' hp hk' => ?_)
    obtain ⟨I310, A310, hI310, hA310, hV310, r311, rfl, rfl⟩ := hp
    have f312 := IvX_f0 hV310
    have r311 : (I310 0).toInt = (I306 0).toInt + 4 := r311
    show GW κ 6 0 0 (wX q d I310 A310) 31 [(0, .ref (q 0)), (1, .int z1), (2, .int z2), (3, .int z3), (4, .int z4), (5, .int z5)] []
    refine g_aload_n hk dX11_feed_31 rfl ?_
    refine gX_r0_0 hk hin11 (List.mem_cons_of_mem _ (List.mem_append_left _ (List.mem_of_getElem? (i := 0) rfl))) dX11_feed_32 ?_
    refine g_iload_n hk dX11_feed_35 rfl ?_
    refine g_callV (n := 1) hk (k114_X10_addFour l D zt q d I310 A310 z3 hV310 (show (I310 0).toInt ≤ 1996 from by omega)) (SP.same _) (fun _ h => h) (gi_V (List.mem_cons_of_mem _ (List.mem_append_left _ (List.mem_of_getElem? (i := 2) rfl))) (List.mem_cons_of_mem _ (List.mem_append_left _ (List.mem_of_getElem? (i := 3) rfl))) (List.mem_cons_of_mem _ (List.mem_append_left _ (List.mem_of_getElem? (i := 4) rfl))) (List.mem_cons_of_mem _ (List.mem_append_left _ (List.mem_of_getElem? (i := 5) rfl))) (gi_sub (fun w h => (List.mem_cons_of_mem _ (List.mem_append_right _ (List.mem_append_right _ (List.mem_append_right _ (List.mem_append_left _ h)))))) zg_k114_X10_addFour)) rfl rfl rfl (by decide +kernel) ⟨Nat.le_of_ble_eq_true rfl, Nat.le_of_ble_eq_true rfl⟩ 1 rfl rfl rfl rfl (Nat.le_of_ble_eq_true rfl) ⟨Nat.le_of_ble_eq_true rfl, Nat.le_of_ble_eq_true rfl⟩ dX11_feed_36 (fun v ty' w' hp hk' => ?_)
    obtain ⟨I314, A314, hI314, hA314, hV314, r315, rfl, rfl⟩ := hp
    have f316 := IvX_f0 hV314
    have r315 : (I314 0).toInt = (I310 0).toInt + 4 := r315
    show GW κ 6 0 0 (wX q d I314 A314) 39 [(0, .ref (q 0)), (1, .int z1), (2, .int z2), (3, .int z3), (4, .int z4), (5, .int z5)] []
    refine g_aload_n hk dX11_feed_39 rfl ?_
    refine gX_r0_0 hk hin11 (List.mem_cons_of_mem _ (List.mem_append_left _ (List.mem_of_getElem? (i := 0) rfl))) dX11_feed_40 ?_
    refine g_iload hk dX11_feed_43 rfl ?_
    refine g_callV (n := 1) hk (k114_X10_addFour l D zt q d I314 A314 z4 hV314 (show (I314 0).toInt ≤ 1996 from by omega)) (SP.same _) (fun _ h => h) (gi_V (List.mem_cons_of_mem _ (List.mem_append_left _ (List.mem_of_getElem? (i := 2) rfl))) (List.mem_cons_of_mem _ (List.mem_append_left _ (List.mem_of_getElem? (i := 3) rfl))) (List.mem_cons_of_mem _ (List.mem_append_left _ (List.mem_of_getElem? (i := 4) rfl))) (List.mem_cons_of_mem _ (List.mem_append_left _ (List.mem_of_getElem? (i := 5) rfl))) (gi_sub (fun w h => (List.mem_cons_of_mem _ (List.mem_append_right _ (List.mem_append_right _ (List.mem_append_right _ (List.mem_append_left _ h)))))) zg_k114_X10_addFour)) rfl rfl rfl (by decide +kernel) ⟨Nat.le_of_ble_eq_true rfl, Nat.le_of_ble_eq_true rfl⟩ 1 rfl rfl rfl rfl (Nat.le_of_ble_eq_true rfl) ⟨Nat.le_of_ble_eq_true rfl, Nat.le_of_ble_eq_true rfl⟩ dX11_feed_45 (fun v ty' w' hp hk' => ?_)
    obtain ⟨I318, A318, hI318, hA318, hV318, r319, rfl, rfl⟩ := hp
    have f320 := IvX_f0 hV318
    have r319 : (I318 0).toInt = (I314 0).toInt + 4 := r319
    show GW κ 6 0 0 (wX q d I318 A318) 48 [(0, .ref (q 0)), (1, .int z1), (2, .int z2), (3, .int z3), (4, .int z4), (5, .int z5)] []
    refine g_aload_n hk dX11_feed_48 rfl ?_
    refine gX_r0_0 hk hin11 (List.mem_cons_of_mem _ (List.mem_append_left _ (List.mem_of_getElem? (i := 0) rfl))) dX11_feed_49 ?_
    refine g_iload hk dX11_feed_52 rfl ?_
    refine g_callV (n := 1) hk (k114_X10_addFour l D zt q d I318 A318 z5 hV318 (show (I318 0).toInt ≤ 1996 from by omega)) (SP.same _) (fun _ h => h) (gi_V (List.mem_cons_of_mem _ (List.mem_append_left _ (List.mem_of_getElem? (i := 2) rfl))) (List.mem_cons_of_mem _ (List.mem_append_left _ (List.mem_of_getElem? (i := 3) rfl))) (List.mem_cons_of_mem _ (List.mem_append_left _ (List.mem_of_getElem? (i := 4) rfl))) (List.mem_cons_of_mem _ (List.mem_append_left _ (List.mem_of_getElem? (i := 5) rfl))) (gi_sub (fun w h => (List.mem_cons_of_mem _ (List.mem_append_right _ (List.mem_append_right _ (List.mem_append_right _ (List.mem_append_left _ h)))))) zg_k114_X10_addFour)) rfl rfl rfl (by decide +kernel) ⟨Nat.le_of_ble_eq_true rfl, Nat.le_of_ble_eq_true rfl⟩ 1 rfl rfl rfl rfl (Nat.le_of_ble_eq_true rfl) ⟨Nat.le_of_ble_eq_true rfl, Nat.le_of_ble_eq_true rfl⟩ dX11_feed_54 (fun v ty' w' hp hk' => ?_)
    obtain ⟨I322, A322, hI322, hA322, hV322, r323, rfl, rfl⟩ := hp
    have f324 := IvX_f0 hV322
    have r323 : (I322 0).toInt = (I318 0).toInt + 4 := r323
    show GW κ 6 0 0 (wX q d I322 A322) 57 [(0, .ref (q 0)), (1, .int z1), (2, .int z2), (3, .int z3), (4, .int z4), (5, .int z5)] []
    refine g_aload_n hk dX11_feed_57 rfl ?_
    refine gX_r0_0 hk hin11 (List.mem_cons_of_mem _ (List.mem_append_left _ (List.mem_of_getElem? (i := 0) rfl))) dX11_feed_58 ?_
    refine gX_i0 (v := (I322 0)) hk hin10 (List.mem_cons_of_mem _ (List.mem_append_left _ (List.mem_of_getElem? (i := 1) rfl))) dX11_feed_61 rfl ?_
    exact g_iret hk hR rfl ⟨I322, A322, (show Md [0] I I322 from (Md.tr (Md.tr (Md.tr (Md.tr (Md.tr Md.rf hI306 rfl) hI310 rfl) hI314 rfl) hI318 rfl) hI322 rfl)), (show Md [0] A A322 from (Md.tr (Md.tr (Md.tr (Md.tr (Md.tr Md.rf hA306 rfl) hA310 rfl) hA314 rfl) hA318 rfl) hA322 rfl)), hV322, (I322 0), (show (1980 < (I 0).toInt ∧ (I322 0).toInt = -1 ∧ ((I322 0)).toInt = (I 0).toInt) ∨ ((I 0).toInt ≤ 1980 ∧ (I322 0).toInt = (I 0).toInt + 20 ∧ ((I322 0)).toInt = (I 0).toInt + 20) from by omega), (by omega), (by omega), rfl, rfl⟩ dX11_feed_64
  · skip
    refine g_iconst (v := (-1)) hk dX11_feed_13 (by decide) ?_
    have k325 : ((-1) : Int32).toInt = (-1) := rfl
    exact g_iret hk hR rfl ⟨I, A, (show Md [0] I I from Md.rf), (show Md [0] A A from Md.rf), hIv, (-1), (show (1980 < (I 0).toInt ∧ ((-1) : Int32).toInt = -1 ∧ ((I 0)).toInt = (I 0).toInt) ∨ ((I 0).toInt ≤ 1980 ∧ ((-1) : Int32).toInt = (I 0).toInt + 20 ∧ ((I 0)).toInt = (I 0).toInt + 20) from by omega), (by decide), (by decide), rfl, rfl⟩ dX11_feed_14
def wo_k115_X11_back : List Cond := [Cond.fieldLink RX11 10 "WarpDesk" "tape" "LWarpDesk$Tape;", Cond.fieldLink RX11 85 "WarpDesk$Tape" "size" "I"]
def wz_k115_X11_back : List Cond := .code yX11_back cX11_back 2 (some .int) :: (wo_k115_X11_back ++ (wsX100 ++ (wsX110 ++ ([] : List Cond))))
theorem zg_k115_X11_back : ∀ w ∈ wz_k115_X11_back, goodWord w = true := zg_cons rfl (zg_app (by decide +kernel) (zg_app zgU_wsX100 (zg_app zgU_wsX110 zg_nil)))
theorem zi_k115_X11_back : ∀ w ∈ wz_k115_X11_back, w ∈ lw_tbl := zi_cons zw_529 (zi_app (zi_cons zw_487 (zi_cons zw_136 zi_nil)) (zi_app inX10 (zi_app inX11 zi_nil)))
set_option maxHeartbeats 4000000 in
set_option maxRecDepth 100000 in
theorem k115_X11_back (l : Launch) (D : va_G) (zt : Nat × Nat × Nat × (Nat → Nat) × (Nat → Nat)) (q : Nat → Nat) (d : Nat → ClassId) (I : Nat → Int32) (A : Nat → Nat → Int32) (z1 : Int32) (hIv : IvX I A) : GM l D zt (tyX d) yX11_back wz_k115_X11_back ({ frames := 0, cells := 0, slots := 0, locals := 0 } : Room) [.ref (q 0), .int z1] (wX q d I A) (fun v _ w' => ∃ (I' : Nat → Int32) (A' : Nat → Nat → Int32), Md [0] I I' ∧ Md [] A A' ∧ IvX I' A' ∧ ∃ y0 : Int32, (((z1.toInt < 0 ∨ (I 0).toInt < z1.toInt) ∧ y0.toInt = -1 ∧ (I' 0).toInt = (I 0).toInt) ∨ (0 ≤ z1.toInt ∧ z1.toInt ≤ (I 0).toInt ∧ y0.toInt = (I 0).toInt - z1.toInt ∧ (I' 0).toInt = (I 0).toInt - z1.toInt)) ∧ ((-2000) ≤ y0.toInt) ∧ (y0.toInt ≤ 2000) ∧ v = some (.int y0) ∧ w' = wX q d I' A') 0 0 := by
  refine GM.of (cc := cX11_back) (maxL := 2) (ret := (some .int)) (own := RX11) (lv := [(0, .ref (q 0)), (1, .int z1)]) (by decide) rfl rfl (Nat.le_of_ble_eq_true rfl) rfl (fun κ sz hk hR hN => ?_)
  have hin10 : ∀ w ∈ u_ws RX10 TX10 7, w ∈ wz_k115_X11_back := fun w h => (List.mem_cons_of_mem _ (List.mem_append_right _ (List.mem_append_left _ h)))
  have hin11 : ∀ w ∈ u_ws RX11 TX11 10, w ∈ wz_k115_X11_back := fun w h => (List.mem_cons_of_mem _ (List.mem_append_right _ (List.mem_append_right _ (List.mem_append_left _ h))))
  refine g_iload_n hk dX11_back_0 rfl ?_
  have b326l := Int32.le_toInt z1
  have b326h := Int32.toInt_lt z1
  refine g_if_lt (tgt := 15) (a := z1.toInt) hk dX11_back_1 (by decide) rfl (fun c327 => ?_) (fun c327 => ?_)
  · skip
    refine g_iconst (v := (-1)) hk dX11_back_15 (by decide) ?_
    have f328 := IvX_f0 hIv
    have k329 : ((-1) : Int32).toInt = (-1) := rfl
    exact g_iret hk hR rfl ⟨I, A, (show Md [0] I I from Md.rf), (show Md [] A A from Md.rf), hIv, (-1), (show ((z1.toInt < 0 ∨ (I 0).toInt < z1.toInt) ∧ ((-1) : Int32).toInt = -1 ∧ ((I 0)).toInt = (I 0).toInt) ∨ (0 ≤ z1.toInt ∧ z1.toInt ≤ (I 0).toInt ∧ ((-1) : Int32).toInt = (I 0).toInt - z1.toInt ∧ ((I 0)).toInt = (I 0).toInt - z1.toInt) from by omega), (by decide), (by decide), rfl, rfl⟩ dX11_back_16
  · skip
    refine g_iload_n hk dX11_back_4 rfl ?_
    refine g_aload_n hk dX11_back_5 rfl ?_
    refine gX_r0_0 hk hin11 (List.mem_cons_of_mem _ (List.mem_append_left _ (List.mem_of_getElem? (i := 0) rfl))) dX11_back_6 ?_
    refine gX_i0 (v := (I 0)) hk hin10 (List.mem_cons_of_mem _ (List.mem_append_left _ (List.mem_of_getElem? (i := 1) rfl))) dX11_back_9 rfl ?_
    have f330 := IvX_f0 hIv
    refine g_icmp_le (tgt := 17) (a := z1.toInt) (b := (I 0).toInt) hk dX11_back_12 (by decide) rfl rfl (fun c331 => ?_) (fun c331 => ?_)
    · skip
      refine g_aload_n hk dX11_back_17 rfl ?_
      refine gX_r0_0 hk hin11 (List.mem_cons_of_mem _ (List.mem_append_left _ (List.mem_of_getElem? (i := 0) rfl))) dX11_back_18 ?_
      refine g_dup hk dX11_back_21 rfl ?_
      refine gX_i0 (v := (I 0)) hk hin10 (List.mem_cons_of_mem _ (List.mem_append_left _ (List.mem_of_getElem? (i := 1) rfl))) dX11_back_22 rfl ?_
      refine g_iload_n hk dX11_back_25 rfl ?_
      refine g_isub hk dX11_back_26 ?_
      refine g_topi (fun y332 ey332 => ?_)
      have hy332 : y332.toInt = (I 0).toInt - z1.toInt := i32_sub ey332 rfl rfl (by omega) (by omega)
      refine pX_i0 hk hin10 (List.mem_cons_of_mem _ (List.mem_append_left _ (List.mem_of_getElem? (i := 1) rfl))) dX11_back_27 ?_
      refine g_aload_n hk dX11_back_30 rfl ?_
      refine gX_r0_0 hk hin11 (List.mem_cons_of_mem _ (List.mem_append_left _ (List.mem_of_getElem? (i := 0) rfl))) dX11_back_31 ?_
      refine gX_i0 (v := y332) hk hin10 (List.mem_cons_of_mem _ (List.mem_append_left _ (List.mem_of_getElem? (i := 1) rfl))) dX11_back_34 rfl ?_
      exact g_iret hk hR rfl ⟨(upd I 0 y332), A, (show Md [0] I (upd I 0 y332) from (Md.up Md.rf rfl)), (show Md [] A A from Md.rf), ⟨(show 0 ≤ y332.toInt ∧ y332.toInt ≤ 2000 from ⟨by omega, by omega⟩), (IvX_f18 (I := I) (A := A) hIv), (IvX_f30 (I := I) (A := A) hIv), (IvX_f31 (I := I) (A := A) hIv), (IvX_a4 (I := I) (A := A) hIv), (IvX_a9 (I := I) (A := A) hIv), trivial⟩, y332, (show ((z1.toInt < 0 ∨ (I 0).toInt < z1.toInt) ∧ y332.toInt = -1 ∧ (y332).toInt = (I 0).toInt) ∨ (0 ≤ z1.toInt ∧ z1.toInt ≤ (I 0).toInt ∧ y332.toInt = (I 0).toInt - z1.toInt ∧ (y332).toInt = (I 0).toInt - z1.toInt) from by omega), (by omega), (by omega), rfl, rfl⟩ dX11_back_37
    · skip
      refine g_iconst (v := (-1)) hk dX11_back_15 (by decide) ?_
      have k333 : ((-1) : Int32).toInt = (-1) := rfl
      exact g_iret hk hR rfl ⟨I, A, (show Md [0] I I from Md.rf), (show Md [] A A from Md.rf), hIv, (-1), (show ((z1.toInt < 0 ∨ (I 0).toInt < z1.toInt) ∧ ((-1) : Int32).toInt = -1 ∧ ((I 0)).toInt = (I 0).toInt) ∨ (0 ≤ z1.toInt ∧ z1.toInt ≤ (I 0).toInt ∧ ((-1) : Int32).toInt = (I 0).toInt - z1.toInt ∧ ((I 0)).toInt = (I 0).toInt - z1.toInt) from by omega), (by decide), (by decide), rfl, rfl⟩ dX11_back_16
def wo_k121_X7_put : List Cond := [Cond.fieldLink RX7 20 "WarpDesk$Settings" "values" "[I"]
def wz_k121_X7_put : List Cond := .code yX7_put cX7_put 3 none :: (wo_k121_X7_put ++ (wsX70 ++ ([] : List Cond)))
theorem zg_k121_X7_put : ∀ w ∈ wz_k121_X7_put, goodWord w = true := zg_cons rfl (zg_app (by decide +kernel) (zg_app zgU_wsX70 zg_nil))
theorem zi_k121_X7_put : ∀ w ∈ wz_k121_X7_put, w ∈ lw_tbl := zi_cons zw_553 (zi_app (zi_cons zw_190 zi_nil) (zi_app inX7 zi_nil))
set_option maxHeartbeats 4000000 in
set_option maxRecDepth 100000 in
theorem k121_X7_put (l : Launch) (D : va_G) (zt : Nat × Nat × Nat × (Nat → Nat) × (Nat → Nat)) (q : Nat → Nat) (d : Nat → ClassId) (I : Nat → Int32) (A : Nat → Nat → Int32) (z1 : Int32) (z2 : Int32) (hIv : IvX I A) : GM l D zt (tyX d) yX7_put wz_k121_X7_put ({ frames := 0, cells := 0, slots := 0, locals := 0 } : Room) [.ref (q 6), .int z1, .int z2] (wX q d I A) (fun v _ w' => ∃ (I' : Nat → Int32) (A' : Nat → Nat → Int32), Md [] I I' ∧ Md [2] A A' ∧ IvX I' A' ∧ v = none ∧ w' = wX q d I' A') 0 0 := by
  refine GM.of (cc := cX7_put) (maxL := 3) (ret := none) (own := RX7) (lv := [(0, .ref (q 6)), (1, .int z1), (2, .int z2)]) (by decide) rfl rfl (Nat.le_of_ble_eq_true rfl) rfl (fun κ sz hk hR hN => ?_)
  have hin7 : ∀ w ∈ u_ws RX7 TX7 1, w ∈ wz_k121_X7_put := fun w h => (List.mem_cons_of_mem _ (List.mem_append_right _ (List.mem_append_left _ h)))
  refine g_iload_n hk dX7_put_0 rfl ?_
  have b337l := Int32.le_toInt z1
  have b337h := Int32.toInt_lt z1
  refine g_if_lt (tgt := 20) (a := z1.toInt) hk dX7_put_1 (by decide) rfl (fun c338 => ?_) (fun c338 => ?_)
  · skip
    exact g_vret hk hR ⟨I, A, (show Md [] I I from Md.rf), (show Md [2] A A from Md.rf), hIv, rfl, rfl⟩ dX7_put_20
  · skip
    refine g_iload_n hk dX7_put_4 rfl ?_
    refine g_aload_n hk dX7_put_5 rfl ?_
    refine gX_r6_0 hk hin7 (List.mem_cons_of_mem _ (List.mem_append_left _ (List.mem_of_getElem? (i := 0) rfl))) dX7_put_6 ?_
    refine nX_2 hk dX7_put_9 ?_
    refine g_icmp_ge (tgt := 20) (a := z1.toInt) (b := 4) hk dX7_put_10 (by decide) rfl rfl (fun c339 => ?_) (fun c339 => ?_)
    · skip
      exact g_vret hk hR ⟨I, A, (show Md [] I I from Md.rf), (show Md [2] A A from Md.rf), hIv, rfl, rfl⟩ dX7_put_20
    · skip
      refine g_aload_n hk dX7_put_13 rfl ?_
      refine gX_r6_0 hk hin7 (List.mem_cons_of_mem _ (List.mem_append_left _ (List.mem_of_getElem? (i := 0) rfl))) dX7_put_14 ?_
      refine g_iload_n hk dX7_put_17 rfl ?_
      refine g_iload_n hk dX7_put_18 rfl ?_
      refine sX_2 (j := z1.toNatClampNeg) hk (vp_in_iff.mpr ⟨by omega, by omega⟩) rfl dX7_put_19 ?_
      exact g_vret hk hR ⟨I, (up3 A 2 (z1.toNatClampNeg) z2), (show Md [] I I from Md.rf), (show Md [2] A (up3 A 2 (z1.toNatClampNeg) z2) from (Md.up3 Md.rf rfl)), ⟨(IvX_f0 (I := I) (A := A) hIv), (IvX_f18 (I := I) (A := A) hIv), (IvX_f30 (I := I) (A := A) hIv), (IvX_f31 (I := I) (A := A) hIv), (IvX_a4 (I := I) (A := A) hIv), (IvX_a9 (I := I) (A := A) hIv), trivial⟩, rfl, rfl⟩ dX7_put_20
def wo_k120_X7_clear : List Cond := [Cond.fieldLink RX7 9 "WarpDesk$Settings" "UNTOLD" "[I", Cond.methodLink RX7 29 yX7_put, Cond.instanceMethod yX7_put, Cond.selects RX7 yX7_put yX7_put, Cond.initialized RX7]
def wz_k120_X7_clear : List Cond := .code yX7_clear cX7_clear 2 none :: (wo_k120_X7_clear ++ (wz_k121_X7_put ++ ([] : List Cond)))
theorem zg_k120_X7_clear : ∀ w ∈ wz_k120_X7_clear, goodWord w = true := zg_cons rfl (zg_app (by decide +kernel) (zg_app zg_k121_X7_put zg_nil))
theorem zi_k120_X7_clear : ∀ w ∈ wz_k120_X7_clear, w ∈ lw_tbl := zi_cons zw_549 (zi_app (zi_cons zw_181 (zi_cons zw_550 (zi_cons zw_551 (zi_cons zw_552 (zi_cons zw_107 zi_nil))))) (zi_app zi_k121_X7_put zi_nil))
set_option maxHeartbeats 4000000 in
set_option maxRecDepth 100000 in
theorem k120_X7_clear (l : Launch) (D : va_G) (zt : Nat × Nat × Nat × (Nat → Nat) × (Nat → Nat)) (q : Nat → Nat) (d : Nat → ClassId) (I : Nat → Int32) (A : Nat → Nat → Int32) (hIv : IvX I A) : GM l D zt (tyX d) yX7_clear wz_k120_X7_clear ({ frames := 1, cells := 0, slots := 0, locals := 22 } : Room) [.ref (q 6)] (wX q d I A) (fun v _ w' => ∃ (I' : Nat → Int32) (A' : Nat → Nat → Int32), Md [] I I' ∧ Md [2] A A' ∧ IvX I' A' ∧ v = none ∧ w' = wX q d I' A') 0 0 := by
  refine GM.of (cc := cX7_clear) (maxL := 2) (ret := none) (own := RX7) (lv := [(0, .ref (q 6))]) (by decide) rfl rfl (Nat.le_of_ble_eq_true rfl) rfl (fun κ sz hk hR hN => ?_)
  refine g_iconst (v := 0) hk dX7_clear_0 (by decide) ?_
  refine g_istore_n (lv' := [(1, .int 0), (0, .ref (q 6))]) hk dX7_clear_1 (by decide) rfl ?_
  have lp412 : ∀ (n413 : Nat) (x334 : Int32) (I336 : Nat → Int32) (A336 : Nat → Nat → Int32), (Md [] I I336) → (Md [2] A A336) → (IvX I336 A336) → (0 ≤ x334.toInt) → (x334.toInt ≤ 4) → (4 - x334.toInt < (n413 : Int)) → (0 < n413) → GW κ 2 0 0 (wX q d I336 A336) 2 [(1, .int x334), (0, .ref (q 6))] [] := by
    intro n413
    induction n413 with
    | zero =>
      intro x334 I336 A336 hI336 hA336 hV336 h410 h411 m414 m414z
      exact absurd m414z (Nat.lt_irrefl 0)
    | succ n413 ih415 =>
      intro x334 I336 A336 hI336 hA336 hV336 h410 h411 m414 m414z
      refine g_iload_n hk dX7_clear_2 rfl ?_
      refine g_getsU hk (List.mem_cons_of_mem _ (List.mem_append_left _ (List.mem_of_getElem? (i := 0) rfl))) dX7_clear_3 ?_
      refine g_lenU hk dX7_clear_6 ?_
      refine g_icmp_ge (tgt := 26) (a := x334.toInt) (b := 4) hk dX7_clear_7 (by decide) rfl rfl (fun c416 => ?_) (fun c416 => ?_)
      · skip
        exact g_vret hk hR ⟨I336, A336, (show Md [] I I336 from (Md.tr Md.rf hI336 rfl)), (show Md [2] A A336 from (Md.tr Md.rf hA336 rfl)), hV336, rfl, rfl⟩ dX7_clear_26
      · skip
        refine g_aload_n hk dX7_clear_10 rfl ?_
        refine g_iload_n hk dX7_clear_11 rfl ?_
        refine g_getsU hk (List.mem_cons_of_mem _ (List.mem_append_left _ (List.mem_of_getElem? (i := 0) rfl))) dX7_clear_12 ?_
        refine g_iload_n hk dX7_clear_15 rfl ?_
        by_cases c417 : x334.toInt = 0
        · have ec417 : x334 = 0 := Int32.toInt_inj.mp c417
          rw [ec417]
          show GW κ 2 0 0 (wX q d I336 A336) 16 [(1, .int 0), (0, .ref (q 6))] [.int 0, .ref zt.2.2.1, .int 0, .ref (q 6)]
          refine g_sU (v := .int 2) hk (vp_in_iff.mpr ⟨by decide, by decide⟩) rfl dX7_clear_16 ?_
          have k418 : (0 : Int32).toInt = 0 := rfl
          have k419 : (2 : Int32).toInt = 2 := rfl
          refine g_callV (n := 2) hk (k121_X7_put l D zt q d I336 A336 0 2 hV336) (SP.same _) (fun _ h => h) (gi_V (List.mem_cons_of_mem _ (List.mem_append_left _ (List.mem_of_getElem? (i := 1) rfl))) (List.mem_cons_of_mem _ (List.mem_append_left _ (List.mem_of_getElem? (i := 2) rfl))) (List.mem_cons_of_mem _ (List.mem_append_left _ (List.mem_of_getElem? (i := 3) rfl))) (List.mem_cons_of_mem _ (List.mem_append_left _ (List.mem_of_getElem? (i := 4) rfl))) (gi_sub (fun w h => (List.mem_cons_of_mem _ (List.mem_append_right _ (List.mem_append_left _ h)))) zg_k121_X7_put)) rfl rfl rfl (by decide +kernel) ⟨Nat.le_of_ble_eq_true rfl, Nat.le_of_ble_eq_true rfl⟩ 6 rfl rfl rfl rfl (Nat.le_of_ble_eq_true rfl) ⟨Nat.le_of_ble_eq_true rfl, Nat.le_of_ble_eq_true rfl⟩ dX7_clear_17 (fun v ty' w' hp hk' => ?_)
          obtain ⟨I421, A421, hI421, hA421, hV421, rfl, rfl⟩ := hp
          show GW κ 2 0 0 (wX q d I421 A421) 20 [(1, .int 0), (0, .ref (q 6))] []
          refine g_iinc (v := 1) (lv' := [(1, .int 1), (0, .ref (q 6))]) hk 0 dX7_clear_20 rfl (by decide) (by decide) rfl ?_
          refine g_goto (tgt := 2) hk dX7_clear_23 (by decide) ?_
          have k422 : (1 : Int32).toInt = 1 := rfl
          exact g_lv (List.forall_mem_cons.mpr ⟨List.mem_of_getElem? (i := 0) rfl, (List.forall_mem_cons.mpr ⟨List.mem_of_getElem? (i := 1) rfl, (fun _ h => absurd h List.not_mem_nil)⟩)⟩) (ih415 1 I421 A421 (show Md [] I I421 from Md.tr hI336 (show Md [] I336 I421 from (Md.tr Md.rf hI421 rfl)) rfl) (show Md [2] A A421 from Md.tr hA336 (show Md [2] A336 A421 from (Md.tr Md.rf hA421 rfl)) rfl) hV421 (by omega) (by omega) (by omega) (by omega))
        by_cases c423 : x334.toInt = 1
        · have ec423 : x334 = 1 := Int32.toInt_inj.mp c423
          rw [ec423]
          show GW κ 2 0 0 (wX q d I336 A336) 16 [(1, .int 1), (0, .ref (q 6))] [.int 1, .ref zt.2.2.1, .int 1, .ref (q 6)]
          refine g_sU (v := .int 0) hk (vp_in_iff.mpr ⟨by decide, by decide⟩) rfl dX7_clear_16 ?_
          have k424 : (1 : Int32).toInt = 1 := rfl
          have k425 : (0 : Int32).toInt = 0 := rfl
          refine g_callV (n := 2) hk (k121_X7_put l D zt q d I336 A336 1 0 hV336) (SP.same _) (fun _ h => h) (gi_V (List.mem_cons_of_mem _ (List.mem_append_left _ (List.mem_of_getElem? (i := 1) rfl))) (List.mem_cons_of_mem _ (List.mem_append_left _ (List.mem_of_getElem? (i := 2) rfl))) (List.mem_cons_of_mem _ (List.mem_append_left _ (List.mem_of_getElem? (i := 3) rfl))) (List.mem_cons_of_mem _ (List.mem_append_left _ (List.mem_of_getElem? (i := 4) rfl))) (gi_sub (fun w h => (List.mem_cons_of_mem _ (List.mem_append_right _ (List.mem_append_left _ h)))) zg_k121_X7_put)) rfl rfl rfl (by decide +kernel) ⟨Nat.le_of_ble_eq_true rfl, Nat.le_of_ble_eq_true rfl⟩ 6 rfl rfl rfl rfl (Nat.le_of_ble_eq_true rfl) ⟨Nat.le_of_ble_eq_true rfl, Nat.le_of_ble_eq_true rfl⟩ dX7_clear_17 (fun v ty' w' hp hk' => ?_)
          obtain ⟨I427, A427, hI427, hA427, hV427, rfl, rfl⟩ := hp
          show GW κ 2 0 0 (wX q d I427 A427) 20 [(1, .int 1), (0, .ref (q 6))] []
          refine g_iinc (v := 2) (lv' := [(1, .int 2), (0, .ref (q 6))]) hk 0 dX7_clear_20 rfl (by decide) (by decide) rfl ?_
          refine g_goto (tgt := 2) hk dX7_clear_23 (by decide) ?_
          have k428 : (2 : Int32).toInt = 2 := rfl
          exact g_lv (List.forall_mem_cons.mpr ⟨List.mem_of_getElem? (i := 0) rfl, (List.forall_mem_cons.mpr ⟨List.mem_of_getElem? (i := 1) rfl, (fun _ h => absurd h List.not_mem_nil)⟩)⟩) (ih415 2 I427 A427 (show Md [] I I427 from Md.tr hI336 (show Md [] I336 I427 from (Md.tr Md.rf hI427 rfl)) rfl) (show Md [2] A A427 from Md.tr hA336 (show Md [2] A336 A427 from (Md.tr Md.rf hA427 rfl)) rfl) hV427 (by omega) (by omega) (by omega) (by omega))
        by_cases c429 : x334.toInt = 2
        · have ec429 : x334 = 2 := Int32.toInt_inj.mp c429
          rw [ec429]
          show GW κ 2 0 0 (wX q d I336 A336) 16 [(1, .int 2), (0, .ref (q 6))] [.int 2, .ref zt.2.2.1, .int 2, .ref (q 6)]
          refine g_sU (v := .int 0) hk (vp_in_iff.mpr ⟨by decide, by decide⟩) rfl dX7_clear_16 ?_
          have k430 : (2 : Int32).toInt = 2 := rfl
          have k431 : (0 : Int32).toInt = 0 := rfl
          refine g_callV (n := 2) hk (k121_X7_put l D zt q d I336 A336 2 0 hV336) (SP.same _) (fun _ h => h) (gi_V (List.mem_cons_of_mem _ (List.mem_append_left _ (List.mem_of_getElem? (i := 1) rfl))) (List.mem_cons_of_mem _ (List.mem_append_left _ (List.mem_of_getElem? (i := 2) rfl))) (List.mem_cons_of_mem _ (List.mem_append_left _ (List.mem_of_getElem? (i := 3) rfl))) (List.mem_cons_of_mem _ (List.mem_append_left _ (List.mem_of_getElem? (i := 4) rfl))) (gi_sub (fun w h => (List.mem_cons_of_mem _ (List.mem_append_right _ (List.mem_append_left _ h)))) zg_k121_X7_put)) rfl rfl rfl (by decide +kernel) ⟨Nat.le_of_ble_eq_true rfl, Nat.le_of_ble_eq_true rfl⟩ 6 rfl rfl rfl rfl (Nat.le_of_ble_eq_true rfl) ⟨Nat.le_of_ble_eq_true rfl, Nat.le_of_ble_eq_true rfl⟩ dX7_clear_17 (fun v ty' w' hp hk' => ?_)
          obtain ⟨I433, A433, hI433, hA433, hV433, rfl, rfl⟩ := hp
          show GW κ 2 0 0 (wX q d I433 A433) 20 [(1, .int 2), (0, .ref (q 6))] []
          refine g_iinc (v := 3) (lv' := [(1, .int 3), (0, .ref (q 6))]) hk 0 dX7_clear_20 rfl (by decide) (by decide) rfl ?_
          refine g_goto (tgt := 2) hk dX7_clear_23 (by decide) ?_
          have k434 : (3 : Int32).toInt = 3 := rfl
          exact g_lv (List.forall_mem_cons.mpr ⟨List.mem_of_getElem? (i := 0) rfl, (List.forall_mem_cons.mpr ⟨List.mem_of_getElem? (i := 1) rfl, (fun _ h => absurd h List.not_mem_nil)⟩)⟩) (ih415 3 I433 A433 (show Md [] I I433 from Md.tr hI336 (show Md [] I336 I433 from (Md.tr Md.rf hI433 rfl)) rfl) (show Md [2] A A433 from Md.tr hA336 (show Md [2] A336 A433 from (Md.tr Md.rf hA433 rfl)) rfl) hV433 (by omega) (by omega) (by omega) (by omega))
        by_cases c435 : x334.toInt = 3
        · have ec435 : x334 = 3 := Int32.toInt_inj.mp c435
          rw [ec435]
          show GW κ 2 0 0 (wX q d I336 A336) 16 [(1, .int 3), (0, .ref (q 6))] [.int 3, .ref zt.2.2.1, .int 3, .ref (q 6)]
          refine g_sU (v := .int 8) hk (vp_in_iff.mpr ⟨by decide, by decide⟩) rfl dX7_clear_16 ?_
          have k436 : (3 : Int32).toInt = 3 := rfl
          have k437 : (8 : Int32).toInt = 8 := rfl
          refine g_callV (n := 2) hk (k121_X7_put l D zt q d I336 A336 3 8 hV336) (SP.same _) (fun _ h => h) (gi_V (List.mem_cons_of_mem _ (List.mem_append_left _ (List.mem_of_getElem? (i := 1) rfl))) (List.mem_cons_of_mem _ (List.mem_append_left _ (List.mem_of_getElem? (i := 2) rfl))) (List.mem_cons_of_mem _ (List.mem_append_left _ (List.mem_of_getElem? (i := 3) rfl))) (List.mem_cons_of_mem _ (List.mem_append_left _ (List.mem_of_getElem? (i := 4) rfl))) (gi_sub (fun w h => (List.mem_cons_of_mem _ (List.mem_append_right _ (List.mem_append_left _ h)))) zg_k121_X7_put)) rfl rfl rfl (by decide +kernel) ⟨Nat.le_of_ble_eq_true rfl, Nat.le_of_ble_eq_true rfl⟩ 6 rfl rfl rfl rfl (Nat.le_of_ble_eq_true rfl) ⟨Nat.le_of_ble_eq_true rfl, Nat.le_of_ble_eq_true rfl⟩ dX7_clear_17 (fun v ty' w' hp hk' => ?_)
          obtain ⟨I439, A439, hI439, hA439, hV439, rfl, rfl⟩ := hp
          show GW κ 2 0 0 (wX q d I439 A439) 20 [(1, .int 3), (0, .ref (q 6))] []
          refine g_iinc (v := 4) (lv' := [(1, .int 4), (0, .ref (q 6))]) hk 0 dX7_clear_20 rfl (by decide) (by decide) rfl ?_
          refine g_goto (tgt := 2) hk dX7_clear_23 (by decide) ?_
          have k440 : (4 : Int32).toInt = 4 := rfl
          exact g_lv (List.forall_mem_cons.mpr ⟨List.mem_of_getElem? (i := 0) rfl, (List.forall_mem_cons.mpr ⟨List.mem_of_getElem? (i := 1) rfl, (fun _ h => absurd h List.not_mem_nil)⟩)⟩) (ih415 4 I439 A439 (show Md [] I I439 from Md.tr hI336 (show Md [] I336 I439 from (Md.tr Md.rf hI439 rfl)) rfl) (show Md [2] A A439 from Md.tr hA336 (show Md [2] A336 A439 from (Md.tr Md.rf hA439 rfl)) rfl) hV439 (by omega) (by omega) (by omega) (by omega))
        exfalso; omega
  have k442 : (0 : Int32).toInt = 0 := rfl
  obtain ⟨n441, n441a, n441b⟩ : ∃ n : Nat, 4 - 0 < (n : Int) ∧ 0 < n := ⟨((4 - 0 : Int)).toNat + 1, by omega, by omega⟩
  exact lp412 n441 0 I A Md.rf Md.rf hIv (by omega) (by omega) n441a n441b
def wo_k119_X8_clear : List Cond := [Cond.fieldLink RX8 22 "WarpDesk$Stand" "size" "I", Cond.fieldLink RX8 18 "WarpDesk$Stand" "settings" "LWarpDesk$Settings;", Cond.methodLink RX8 26 yX7_clear, Cond.instanceMethod yX7_clear, Cond.selects RX7 yX7_clear yX7_clear, Cond.initialized RX7]
def wz_k119_X8_clear : List Cond := .code yX8_clear cX8_clear 1 none :: (wo_k119_X8_clear ++ (wsX80 ++ (wz_k120_X7_clear ++ ([] : List Cond))))
theorem zg_k119_X8_clear : ∀ w ∈ wz_k119_X8_clear, goodWord w = true := zg_cons rfl (zg_app (by decide +kernel) (zg_app zgU_wsX80 (zg_app zg_k120_X7_clear zg_nil)))
theorem zi_k119_X8_clear : ∀ w ∈ wz_k119_X8_clear, w ∈ lw_tbl := zi_cons zw_545 (zi_app (zi_cons zw_195 (zi_cons zw_198 (zi_cons zw_546 (zi_cons zw_547 (zi_cons zw_548 (zi_cons zw_107 zi_nil)))))) (zi_app inX8 (zi_app zi_k120_X7_clear zi_nil)))
set_option maxHeartbeats 4000000 in
set_option maxRecDepth 100000 in
theorem k119_X8_clear (l : Launch) (D : va_G) (zt : Nat × Nat × Nat × (Nat → Nat) × (Nat → Nat)) (q : Nat → Nat) (d : Nat → ClassId) (I : Nat → Int32) (A : Nat → Nat → Int32) (hIv : IvX I A) : GM l D zt (tyX d) yX8_clear wz_k119_X8_clear ({ frames := 2, cells := 0, slots := 0, locals := 43 } : Room) [.ref (q 4)] (wX q d I A) (fun v _ w' => ∃ (I' : Nat → Int32) (A' : Nat → Nat → Int32), Md [14] I I' ∧ Md [2] A A' ∧ IvX I' A' ∧ v = none ∧ w' = wX q d I' A') 0 0 := by
  refine GM.of (cc := cX8_clear) (maxL := 1) (ret := none) (own := RX8) (lv := [(0, .ref (q 4))]) (by decide) rfl rfl (Nat.le_of_ble_eq_true rfl) rfl (fun κ sz hk hR hN => ?_)
  have hin8 : ∀ w ∈ u_ws RX8 TX8 4, w ∈ wz_k119_X8_clear := fun w h => (List.mem_cons_of_mem _ (List.mem_append_right _ (List.mem_append_left _ h)))
  refine g_aload_n hk dX8_clear_0 rfl ?_
  refine g_iconst (v := 0) hk dX8_clear_1 (by decide) ?_
  refine pX_i14 hk hin8 (List.mem_cons_of_mem _ (List.mem_append_left _ (List.mem_of_getElem? (i := 0) rfl))) dX8_clear_2 ?_
  refine g_aload_n hk dX8_clear_5 rfl ?_
  refine gX_r4_2 hk hin8 (List.mem_cons_of_mem _ (List.mem_append_left _ (List.mem_of_getElem? (i := 1) rfl))) dX8_clear_6 ?_
  refine g_callV (n := 0) hk (k120_X7_clear l D zt q d (upd I 14 0) A  ⟨(IvX_f0 (I := I) (A := A) hIv), (IvX_f18 (I := I) (A := A) hIv), (IvX_f30 (I := I) (A := A) hIv), (IvX_f31 (I := I) (A := A) hIv), (IvX_a4 (I := I) (A := A) hIv), (IvX_a9 (I := I) (A := A) hIv), trivial⟩) (SP.same _) (fun _ h => h) (gi_V (List.mem_cons_of_mem _ (List.mem_append_left _ (List.mem_of_getElem? (i := 2) rfl))) (List.mem_cons_of_mem _ (List.mem_append_left _ (List.mem_of_getElem? (i := 3) rfl))) (List.mem_cons_of_mem _ (List.mem_append_left _ (List.mem_of_getElem? (i := 4) rfl))) (List.mem_cons_of_mem _ (List.mem_append_left _ (List.mem_of_getElem? (i := 5) rfl))) (gi_sub (fun w h => (List.mem_cons_of_mem _ (List.mem_append_right _ (List.mem_append_right _ (List.mem_append_left _ h))))) zg_k120_X7_clear)) rfl rfl rfl (by decide +kernel) ⟨Nat.le_of_ble_eq_true rfl, Nat.le_of_ble_eq_true rfl⟩ 6 rfl rfl rfl rfl (Nat.le_of_ble_eq_true rfl) ⟨Nat.le_of_ble_eq_true rfl, Nat.le_of_ble_eq_true rfl⟩ dX8_clear_9 (fun v ty' w' hp hk' => ?_)
  obtain ⟨I444, A444, hI444, hA444, hV444, rfl, rfl⟩ := hp
  show GW κ 1 0 0 (wX q d I444 A444) 12 [(0, .ref (q 4))] []
  exact g_vret hk hR ⟨I444, A444, (show Md [14] I I444 from (Md.tr (Md.up Md.rf rfl) hI444 rfl)), (show Md [2] A A444 from (Md.tr Md.rf hA444 rfl)), hV444, rfl, rfl⟩ dX8_clear_12
def wo_k125_X10_byteAt : List Cond := [Cond.fieldLink RX10 15 "WarpDesk$Tape" "size" "I", Cond.fieldLink RX10 9 "WarpDesk$Tape" "bytes" "[I"]
def wz_k125_X10_byteAt : List Cond := .code yX10_byteAt cX10_byteAt 2 (some .int) :: (wo_k125_X10_byteAt ++ (wsX100 ++ ([] : List Cond)))
theorem zg_k125_X10_byteAt : ∀ w ∈ wz_k125_X10_byteAt, goodWord w = true := zg_cons rfl (zg_app (by decide +kernel) (zg_app zgU_wsX100 zg_nil))
theorem zi_k125_X10_byteAt : ∀ w ∈ wz_k125_X10_byteAt, w ∈ lw_tbl := zi_cons zw_569 (zi_app (zi_cons zw_137 (zi_cons zw_135 zi_nil)) (zi_app inX10 zi_nil))
set_option maxHeartbeats 4000000 in
set_option maxRecDepth 100000 in
theorem k125_X10_byteAt (l : Launch) (D : va_G) (zt : Nat × Nat × Nat × (Nat → Nat) × (Nat → Nat)) (q : Nat → Nat) (d : Nat → ClassId) (I : Nat → Int32) (A : Nat → Nat → Int32) (z1 : Int32) (hIv : IvX I A) : GM l D zt (tyX d) yX10_byteAt wz_k125_X10_byteAt ({ frames := 0, cells := 0, slots := 0, locals := 0 } : Room) [.ref (q 1), .int z1] (wX q d I A) (fun v _ w' => ∃ y0 : Int32, v = some (.int y0) ∧ w' = wX q d I A) 0 0 := by
  refine GM.of (cc := cX10_byteAt) (maxL := 2) (ret := (some .int)) (own := RX10) (lv := [(0, .ref (q 1)), (1, .int z1)]) (by decide) rfl rfl (Nat.le_of_ble_eq_true rfl) rfl (fun κ sz hk hR hN => ?_)
  have hin10 : ∀ w ∈ u_ws RX10 TX10 7, w ∈ wz_k125_X10_byteAt := fun w h => (List.mem_cons_of_mem _ (List.mem_append_right _ (List.mem_append_left _ h)))
  refine g_iload_n hk dX10_byteAt_0 rfl ?_
  have b454l := Int32.le_toInt z1
  have b454h := Int32.toInt_lt z1
  refine g_if_lt (tgt := 30) (a := z1.toInt) hk dX10_byteAt_1 (by decide) rfl (fun c455 => ?_) (fun c455 => ?_)
  · skip
    refine g_iconst (v := (-1)) hk dX10_byteAt_30 (by decide) ?_
    exact g_iret hk hR rfl ⟨(-1), rfl, rfl⟩ dX10_byteAt_31
  · skip
    refine g_iload_n hk dX10_byteAt_4 rfl ?_
    refine g_aload_n hk dX10_byteAt_5 rfl ?_
    refine gX_i0 (v := (I 0)) hk hin10 (List.mem_cons_of_mem _ (List.mem_append_left _ (List.mem_of_getElem? (i := 0) rfl))) dX10_byteAt_6 rfl ?_
    have f456 := IvX_f0 hIv
    refine g_icmp_ge (tgt := 30) (a := z1.toInt) (b := (I 0).toInt) hk dX10_byteAt_9 (by decide) rfl rfl (fun c457 => ?_) (fun c457 => ?_)
    · skip
      refine g_iconst (v := (-1)) hk dX10_byteAt_30 (by decide) ?_
      exact g_iret hk hR rfl ⟨(-1), rfl, rfl⟩ dX10_byteAt_31
    · skip
      refine g_iload_n hk dX10_byteAt_12 rfl ?_
      refine g_aload_n hk dX10_byteAt_13 rfl ?_
      refine gX_r1_0 hk hin10 (List.mem_cons_of_mem _ (List.mem_append_left _ (List.mem_of_getElem? (i := 1) rfl))) dX10_byteAt_14 ?_
      refine nX_0 hk dX10_byteAt_17 ?_
      refine g_icmp_ge (tgt := 30) (a := z1.toInt) (b := 2000) hk dX10_byteAt_18 (by decide) rfl rfl (fun z9 => absurd z9 (show ¬ (2000 ≤ z1.toInt) from by omega)) (fun _ => ?_)
      refine g_aload_n hk dX10_byteAt_21 rfl ?_
      refine gX_r1_0 hk hin10 (List.mem_cons_of_mem _ (List.mem_append_left _ (List.mem_of_getElem? (i := 1) rfl))) dX10_byteAt_22 ?_
      refine g_iload_n hk dX10_byteAt_25 rfl ?_
      refine lX_0 (v := (A 0 z1.toNatClampNeg)) hk (vp_in_iff.mpr ⟨by omega, by omega⟩) rfl dX10_byteAt_26 ?_
      refine g_goto (tgt := 31) hk dX10_byteAt_27 (by decide) ?_
      have b458l := Int32.le_toInt (A 0 z1.toNatClampNeg)
      have b458h := Int32.toInt_lt (A 0 z1.toNatClampNeg)
      exact g_iret hk hR rfl ⟨(A 0 z1.toNatClampNeg), rfl, rfl⟩ dX10_byteAt_31
def wo_k124_X10_behindBlanks : List Cond := [Cond.fieldLink RX10 15 "WarpDesk$Tape" "size" "I", Cond.methodLink RX10 38 yX10_byteAt, Cond.instanceMethod yX10_byteAt, Cond.selects RX10 yX10_byteAt yX10_byteAt, Cond.initialized RX10]
def wz_k124_X10_behindBlanks : List Cond := .code yX10_behindBlanks cX10_behindBlanks 4 (some .int) :: (wo_k124_X10_behindBlanks ++ (wsX100 ++ (wz_k125_X10_byteAt ++ ([] : List Cond))))
theorem zg_k124_X10_behindBlanks : ∀ w ∈ wz_k124_X10_behindBlanks, goodWord w = true := zg_cons rfl (zg_app (by decide +kernel) (zg_app zgU_wsX100 (zg_app zg_k125_X10_byteAt zg_nil)))
theorem zi_k124_X10_behindBlanks : ∀ w ∈ wz_k124_X10_behindBlanks, w ∈ lw_tbl := zi_cons zw_565 (zi_app (zi_cons zw_137 (zi_cons zw_566 (zi_cons zw_568 (zi_cons zw_2 (zi_cons zw_104 zi_nil))))) (zi_app inX10 (zi_app zi_k125_X10_byteAt zi_nil)))
set_option maxHeartbeats 4000000 in
set_option maxRecDepth 100000 in
theorem k124_X10_behindBlanks (l : Launch) (D : va_G) (zt : Nat × Nat × Nat × (Nat → Nat) × (Nat → Nat)) (q : Nat → Nat) (d : Nat → ClassId) (I : Nat → Int32) (A : Nat → Nat → Int32) (z1 : Int32) (hIv : IvX I A) : GM l D zt (tyX d) yX10_behindBlanks wz_k124_X10_behindBlanks ({ frames := 1, cells := 0, slots := 0, locals := 21 } : Room) [.ref (q 1), .int z1] (wX q d I A) (fun v _ w' => ∃ y0 : Int32, (y0.toInt ≤ 2000) ∧ v = some (.int y0) ∧ w' = wX q d I A) 0 0 := by
  refine GM.of (cc := cX10_behindBlanks) (maxL := 4) (ret := (some .int)) (own := RX10) (lv := [(0, .ref (q 1)), (1, .int z1)]) (by decide) rfl rfl (Nat.le_of_ble_eq_true rfl) rfl (fun κ sz hk hR hN => ?_)
  have hin10 : ∀ w ∈ u_ws RX10 TX10 7, w ∈ wz_k124_X10_behindBlanks := fun w h => (List.mem_cons_of_mem _ (List.mem_append_right _ (List.mem_append_left _ h)))
  refine g_iload_n hk dX10_behindBlanks_0 rfl ?_
  refine g_istore_n (lv' := [(2, .int z1), (0, .ref (q 1)), (1, .int z1)]) hk dX10_behindBlanks_1 (by decide) rfl ?_
  have lp482 : ∀ (n483 : Nat) (x447 : Int32), (2001 - x447.toInt < (n483 : Int)) → (0 < n483) → GW κ 4 0 0 (wX q d I A) 2 [(2, .int x447), (0, .ref (q 1)), (1, .int z1)] [] := by
    intro n483
    induction n483 with
    | zero =>
      intro x447 m484 m484z
      exact absurd m484z (Nat.lt_irrefl 0)
    | succ n483 ih485 =>
      intro x447 m484 m484z
      refine g_iload_n hk dX10_behindBlanks_2 rfl ?_
      refine g_aload_n hk dX10_behindBlanks_3 rfl ?_
      refine gX_i0 (v := (I 0)) hk hin10 (List.mem_cons_of_mem _ (List.mem_append_left _ (List.mem_of_getElem? (i := 0) rfl))) dX10_behindBlanks_4 rfl ?_
      have f486 := IvX_f0 hIv
      have b487l := Int32.le_toInt x447
      have b487h := Int32.toInt_lt x447
      refine g_icmp_ge (tgt := 48) (a := x447.toInt) (b := (I 0).toInt) hk dX10_behindBlanks_7 (by decide) rfl rfl (fun c488 => ?_) (fun c488 => ?_)
      · skip
        refine g_aload_n hk dX10_behindBlanks_48 rfl ?_
        refine gX_i0 (v := (I 0)) hk hin10 (List.mem_cons_of_mem _ (List.mem_append_left _ (List.mem_of_getElem? (i := 0) rfl))) dX10_behindBlanks_49 rfl ?_
        exact g_iret hk hR rfl ⟨(I 0), (by omega), rfl, rfl⟩ dX10_behindBlanks_52
      · skip
        refine g_aload_n hk dX10_behindBlanks_10 rfl ?_
        refine g_iload_n hk dX10_behindBlanks_11 rfl ?_
        refine g_callV (n := 1) hk (k125_X10_byteAt l D zt q d I A x447 hIv) (SP.same _) (fun _ h => h) (gi_V (List.mem_cons_of_mem _ (List.mem_append_left _ (List.mem_of_getElem? (i := 1) rfl))) (List.mem_cons_of_mem _ (List.mem_append_left _ (List.mem_of_getElem? (i := 2) rfl))) (List.mem_cons_of_mem _ (List.mem_append_left _ (List.mem_of_getElem? (i := 3) rfl))) (List.mem_cons_of_mem _ (List.mem_append_left _ (List.mem_of_getElem? (i := 4) rfl))) (gi_sub (fun w h => (List.mem_cons_of_mem _ (List.mem_append_right _ (List.mem_append_right _ (List.mem_append_left _ h))))) zg_k125_X10_byteAt)) rfl rfl rfl (by decide +kernel) ⟨Nat.le_of_ble_eq_true rfl, Nat.le_of_ble_eq_true rfl⟩ 1 rfl rfl rfl rfl (Nat.le_of_ble_eq_true rfl) ⟨Nat.le_of_ble_eq_true rfl, Nat.le_of_ble_eq_true rfl⟩ dX10_behindBlanks_12 (fun v ty' w' hp hk' => ?_)
        obtain ⟨y489, rfl, rfl⟩ := hp
        show GW κ 4 0 0 (wX q d I A) 15 [(2, .int x447), (0, .ref (q 1)), (1, .int z1)] [.int y489]
        refine g_istore_n (lv' := [(3, .int y489), (2, .int x447), (0, .ref (q 1)), (1, .int z1)]) hk dX10_behindBlanks_15 (by decide) rfl ?_
        refine g_iload_n hk dX10_behindBlanks_16 rfl ?_
        refine g_bipush (v := 9) hk dX10_behindBlanks_17 (by decide) ?_
        have b490l := Int32.le_toInt y489
        have b490h := Int32.toInt_lt y489
        refine g_icmp_eq (tgt := 42) (a := y489.toInt) (b := 9) hk dX10_behindBlanks_19 (by decide) rfl rfl (fun c491 => ?_) (fun c491 => ?_)
        · skip
          obtain ⟨y492, ey492⟩ : ∃ y : Int32, y = x447 + Int32.ofInt 1 := ⟨_, rfl⟩
          have hy492 : y492.toInt = x447.toInt + 1 := i32_add ey492 rfl (by decide) (by omega) (by omega)
          refine g_iinc (v := y492) (lv' := [(2, .int y492), (3, .int y489), (0, .ref (q 1)), (1, .int z1)]) hk 1 dX10_behindBlanks_42 rfl ey492.symm (by decide) rfl ?_
          refine g_goto (tgt := 2) hk dX10_behindBlanks_45 (by decide) ?_
          exact g_lv (List.forall_mem_cons.mpr ⟨List.mem_of_getElem? (i := 0) rfl, (List.forall_mem_cons.mpr ⟨List.mem_of_getElem? (i := 2) rfl, (List.forall_mem_cons.mpr ⟨List.mem_of_getElem? (i := 3) rfl, (fun _ h => absurd h List.not_mem_nil)⟩)⟩)⟩) (ih485 y492 (by omega) (by omega))
        · skip
          refine g_iload_n hk dX10_behindBlanks_22 rfl ?_
          refine g_bipush (v := 10) hk dX10_behindBlanks_23 (by decide) ?_
          refine g_icmp_eq (tgt := 42) (a := y489.toInt) (b := 10) hk dX10_behindBlanks_25 (by decide) rfl rfl (fun c493 => ?_) (fun c493 => ?_)
          · skip
            obtain ⟨y494, ey494⟩ : ∃ y : Int32, y = x447 + Int32.ofInt 1 := ⟨_, rfl⟩
            have hy494 : y494.toInt = x447.toInt + 1 := i32_add ey494 rfl (by decide) (by omega) (by omega)
            refine g_iinc (v := y494) (lv' := [(2, .int y494), (3, .int y489), (0, .ref (q 1)), (1, .int z1)]) hk 1 dX10_behindBlanks_42 rfl ey494.symm (by decide) rfl ?_
            refine g_goto (tgt := 2) hk dX10_behindBlanks_45 (by decide) ?_
            exact g_lv (List.forall_mem_cons.mpr ⟨List.mem_of_getElem? (i := 0) rfl, (List.forall_mem_cons.mpr ⟨List.mem_of_getElem? (i := 2) rfl, (List.forall_mem_cons.mpr ⟨List.mem_of_getElem? (i := 3) rfl, (fun _ h => absurd h List.not_mem_nil)⟩)⟩)⟩) (ih485 y494 (by omega) (by omega))
          · skip
            refine g_iload_n hk dX10_behindBlanks_28 rfl ?_
            refine g_bipush (v := 13) hk dX10_behindBlanks_29 (by decide) ?_
            refine g_icmp_eq (tgt := 42) (a := y489.toInt) (b := 13) hk dX10_behindBlanks_31 (by decide) rfl rfl (fun c495 => ?_) (fun c495 => ?_)
            · skip
              obtain ⟨y496, ey496⟩ : ∃ y : Int32, y = x447 + Int32.ofInt 1 := ⟨_, rfl⟩
              have hy496 : y496.toInt = x447.toInt + 1 := i32_add ey496 rfl (by decide) (by omega) (by omega)
              refine g_iinc (v := y496) (lv' := [(2, .int y496), (3, .int y489), (0, .ref (q 1)), (1, .int z1)]) hk 1 dX10_behindBlanks_42 rfl ey496.symm (by decide) rfl ?_
              refine g_goto (tgt := 2) hk dX10_behindBlanks_45 (by decide) ?_
              exact g_lv (List.forall_mem_cons.mpr ⟨List.mem_of_getElem? (i := 0) rfl, (List.forall_mem_cons.mpr ⟨List.mem_of_getElem? (i := 2) rfl, (List.forall_mem_cons.mpr ⟨List.mem_of_getElem? (i := 3) rfl, (fun _ h => absurd h List.not_mem_nil)⟩)⟩)⟩) (ih485 y496 (by omega) (by omega))
            · skip
              refine g_iload_n hk dX10_behindBlanks_34 rfl ?_
              refine g_bipush (v := 32) hk dX10_behindBlanks_35 (by decide) ?_
              refine g_icmp_eq (tgt := 42) (a := y489.toInt) (b := 32) hk dX10_behindBlanks_37 (by decide) rfl rfl (fun c497 => ?_) (fun c497 => ?_)
              · skip
                obtain ⟨y498, ey498⟩ : ∃ y : Int32, y = x447 + Int32.ofInt 1 := ⟨_, rfl⟩
                have hy498 : y498.toInt = x447.toInt + 1 := i32_add ey498 rfl (by decide) (by omega) (by omega)
                refine g_iinc (v := y498) (lv' := [(2, .int y498), (3, .int y489), (0, .ref (q 1)), (1, .int z1)]) hk 1 dX10_behindBlanks_42 rfl ey498.symm (by decide) rfl ?_
                refine g_goto (tgt := 2) hk dX10_behindBlanks_45 (by decide) ?_
                exact g_lv (List.forall_mem_cons.mpr ⟨List.mem_of_getElem? (i := 0) rfl, (List.forall_mem_cons.mpr ⟨List.mem_of_getElem? (i := 2) rfl, (List.forall_mem_cons.mpr ⟨List.mem_of_getElem? (i := 3) rfl, (fun _ h => absurd h List.not_mem_nil)⟩)⟩)⟩) (ih485 y498 (by omega) (by omega))
              · skip
                refine g_iload_n hk dX10_behindBlanks_40 rfl ?_
                exact g_iret hk hR rfl ⟨x447, (by omega), rfl, rfl⟩ dX10_behindBlanks_41
  have b500l := Int32.le_toInt z1
  have b500h := Int32.toInt_lt z1
  obtain ⟨n499, n499a, n499b⟩ : ∃ n : Nat, 2001 - z1.toInt < (n : Int) ∧ 0 < n := ⟨((2001 - z1.toInt : Int)).toNat + 1, by omega, by omega⟩
  exact lp482 n499 z1 n499a n499b
def wo_k126_X10_isLetter : List Cond := []
def wz_k126_X10_isLetter : List Cond := .code yX10_isLetter cX10_isLetter 1 (some .boolean) :: (wo_k126_X10_isLetter ++ ([] : List Cond))
theorem zg_k126_X10_isLetter : ∀ w ∈ wz_k126_X10_isLetter, goodWord w = true := zg_cons rfl (zg_app (by decide +kernel) zg_nil)
theorem zi_k126_X10_isLetter : ∀ w ∈ wz_k126_X10_isLetter, w ∈ lw_tbl := zi_cons zw_572 (zi_app zi_nil zi_nil)
set_option maxHeartbeats 4000000 in
set_option maxRecDepth 100000 in
theorem k126_X10_isLetter (l : Launch) (D : va_G) (zt : Nat × Nat × Nat × (Nat → Nat) × (Nat → Nat)) (q : Nat → Nat) (d : Nat → ClassId) (I : Nat → Int32) (A : Nat → Nat → Int32) (z0 : Int32) (hIv : IvX I A) : GM l D zt (tyX d) yX10_isLetter wz_k126_X10_isLetter ({ frames := 0, cells := 0, slots := 0, locals := 0 } : Room) [.int z0] (wX q d I A) (fun v _ w' => (v = some (.int 0) ∧ w' = wX q d I A) ∨ ((¬ (z0.toInt < 97)) ∧ (¬ (122 < z0.toInt)) ∧ (97 ≤ z0.toInt) ∧ (z0.toInt ≤ 122) ∧ v = some (.int 1) ∧ w' = wX q d I A)) 0 0 := by
  refine GM.of (cc := cX10_isLetter) (maxL := 1) (ret := (some .boolean)) (own := RX10) (lv := [(0, .int z0)]) (by decide) rfl rfl (Nat.le_of_ble_eq_true rfl) rfl (fun κ sz hk hR hN => ?_)
  refine g_iload_n hk dX10_isLetter_0 rfl ?_
  refine g_bipush (v := 97) hk dX10_isLetter_1 (by decide) ?_
  have b508l := Int32.le_toInt z0
  have b508h := Int32.toInt_lt z0
  refine g_icmp_lt (tgt := 16) (a := z0.toInt) (b := 97) hk dX10_isLetter_3 (by decide) rfl rfl (fun c509 => ?_) (fun c509 => ?_)
  · skip
    refine g_iconst (v := 0) hk dX10_isLetter_16 (by decide) ?_
    exact g_iret hk hR rfl (Or.inl ⟨rfl, rfl⟩) dX10_isLetter_17
  · skip
    refine g_iload_n hk dX10_isLetter_6 rfl ?_
    refine g_bipush (v := 122) hk dX10_isLetter_7 (by decide) ?_
    refine g_icmp_gt (tgt := 16) (a := z0.toInt) (b := 122) hk dX10_isLetter_9 (by decide) rfl rfl (fun c510 => ?_) (fun c510 => ?_)
    · skip
      refine g_iconst (v := 0) hk dX10_isLetter_16 (by decide) ?_
      exact g_iret hk hR rfl (Or.inl ⟨rfl, rfl⟩) dX10_isLetter_17
    · skip
      refine g_iconst (v := 1) hk dX10_isLetter_12 (by decide) ?_
      refine g_goto (tgt := 17) hk dX10_isLetter_13 (by decide) ?_
      exact g_iret hk hR rfl (Or.inr (⟨c509, c510, (by omega), (by omega), rfl, rfl⟩)) dX10_isLetter_17
def wo_k127_X10_isDigit : List Cond := []
def wz_k127_X10_isDigit : List Cond := .code yX10_isDigit cX10_isDigit 1 (some .boolean) :: (wo_k127_X10_isDigit ++ ([] : List Cond))
theorem zg_k127_X10_isDigit : ∀ w ∈ wz_k127_X10_isDigit, goodWord w = true := zg_cons rfl (zg_app (by decide +kernel) zg_nil)
theorem zi_k127_X10_isDigit : ∀ w ∈ wz_k127_X10_isDigit, w ∈ lw_tbl := zi_cons zw_579 (zi_app zi_nil zi_nil)
set_option maxHeartbeats 4000000 in
set_option maxRecDepth 100000 in
theorem k127_X10_isDigit (l : Launch) (D : va_G) (zt : Nat × Nat × Nat × (Nat → Nat) × (Nat → Nat)) (q : Nat → Nat) (d : Nat → ClassId) (I : Nat → Int32) (A : Nat → Nat → Int32) (z0 : Int32) (hIv : IvX I A) : GM l D zt (tyX d) yX10_isDigit wz_k127_X10_isDigit ({ frames := 0, cells := 0, slots := 0, locals := 0 } : Room) [.int z0] (wX q d I A) (fun v _ w' => (v = some (.int 0) ∧ w' = wX q d I A) ∨ ((¬ (z0.toInt < 48)) ∧ (¬ (57 < z0.toInt)) ∧ (48 ≤ z0.toInt) ∧ (z0.toInt ≤ 57) ∧ v = some (.int 1) ∧ w' = wX q d I A)) 0 0 := by
  refine GM.of (cc := cX10_isDigit) (maxL := 1) (ret := (some .boolean)) (own := RX10) (lv := [(0, .int z0)]) (by decide) rfl rfl (Nat.le_of_ble_eq_true rfl) rfl (fun κ sz hk hR hN => ?_)
  refine g_iload_n hk dX10_isDigit_0 rfl ?_
  refine g_bipush (v := 48) hk dX10_isDigit_1 (by decide) ?_
  have b517l := Int32.le_toInt z0
  have b517h := Int32.toInt_lt z0
  refine g_icmp_lt (tgt := 16) (a := z0.toInt) (b := 48) hk dX10_isDigit_3 (by decide) rfl rfl (fun c518 => ?_) (fun c518 => ?_)
  · skip
    refine g_iconst (v := 0) hk dX10_isDigit_16 (by decide) ?_
    exact g_iret hk hR rfl (Or.inl ⟨rfl, rfl⟩) dX10_isDigit_17
  · skip
    refine g_iload_n hk dX10_isDigit_6 rfl ?_
    refine g_bipush (v := 57) hk dX10_isDigit_7 (by decide) ?_
    refine g_icmp_gt (tgt := 16) (a := z0.toInt) (b := 57) hk dX10_isDigit_9 (by decide) rfl rfl (fun c519 => ?_) (fun c519 => ?_)
    · skip
      refine g_iconst (v := 0) hk dX10_isDigit_16 (by decide) ?_
      exact g_iret hk hR rfl (Or.inl ⟨rfl, rfl⟩) dX10_isDigit_17
    · skip
      refine g_iconst (v := 1) hk dX10_isDigit_12 (by decide) ?_
      refine g_goto (tgt := 17) hk dX10_isDigit_13 (by decide) ?_
      exact g_iret hk hR rfl (Or.inr (⟨c518, c519, (by omega), (by omega), rfl, rfl⟩)) dX10_isDigit_17
def wo_k128_X10_takeDigits : List Cond := [Cond.fieldLink RX10 32 "WarpDesk$Tape" "start" "I", Cond.fieldLink RX10 15 "WarpDesk$Tape" "size" "I", Cond.fieldLink RX10 19 "WarpDesk$Tape" "behind" "I", Cond.fieldLink RX10 41 "WarpDesk$Tape" "kind" "I", Cond.methodLink RX10 38 yX10_byteAt, Cond.instanceMethod yX10_byteAt, Cond.selects RX10 yX10_byteAt yX10_byteAt, Cond.initialized RX10, Cond.methodLink RX10 51 yX10_isDigit, Cond.static yX10_isDigit, Cond.fieldLink RX10 35 "WarpDesk$Tape" "value" "I"]
def wz_k128_X10_takeDigits : List Cond := .code yX10_takeDigits cX10_takeDigits 2 none :: (wo_k128_X10_takeDigits ++ (wsX100 ++ (wz_k125_X10_byteAt ++ (wz_k127_X10_isDigit ++ ([] : List Cond)))))
theorem zg_k128_X10_takeDigits : ∀ w ∈ wz_k128_X10_takeDigits, goodWord w = true := zg_cons rfl (zg_app (by decide +kernel) (zg_app zgU_wsX100 (zg_app zg_k125_X10_byteAt (zg_app zg_k127_X10_isDigit zg_nil))))
theorem zi_k128_X10_takeDigits : ∀ w ∈ wz_k128_X10_takeDigits, w ∈ lw_tbl := zi_cons zw_583 (zi_app (zi_cons zw_140 (zi_cons zw_137 (zi_cons zw_146 (zi_cons zw_139 (zi_cons zw_566 (zi_cons zw_568 (zi_cons zw_2 (zi_cons zw_104 (zi_cons zw_577 (zi_cons zw_578 (zi_cons zw_142 zi_nil))))))))))) (zi_app inX10 (zi_app zi_k125_X10_byteAt (zi_app zi_k127_X10_isDigit zi_nil))))
set_option maxHeartbeats 4000000 in
set_option maxRecDepth 100000 in
theorem k128_X10_takeDigits (l : Launch) (D : va_G) (zt : Nat × Nat × Nat × (Nat → Nat) × (Nat → Nat)) (q : Nat → Nat) (d : Nat → ClassId) (I : Nat → Int32) (A : Nat → Nat → Int32) (hIv : IvX I A) : GM l D zt (tyX d) yX10_takeDigits wz_k128_X10_takeDigits ({ frames := 1, cells := 0, slots := 0, locals := 21 } : Room) [.ref (q 1)] (wX q d I A) (fun v _ w' => ∃ (I' : Nat → Int32) (A' : Nat → Nat → Int32), Md [1, 3, 5] I I' ∧ Md [] A A' ∧ IvX I' A' ∧ v = none ∧ w' = wX q d I' A') 0 0 := by
  refine GM.of (cc := cX10_takeDigits) (maxL := 2) (ret := none) (own := RX10) (lv := [(0, .ref (q 1))]) (by decide) rfl rfl (Nat.le_of_ble_eq_true rfl) rfl (fun κ sz hk hR hN => ?_)
  have hin10 : ∀ w ∈ u_ws RX10 TX10 7, w ∈ wz_k128_X10_takeDigits := fun w h => (List.mem_cons_of_mem _ (List.mem_append_right _ (List.mem_append_left _ h)))
  refine g_aload_n hk dX10_takeDigits_0 rfl ?_
  refine gX_i2 (v := (I 2)) hk hin10 (List.mem_cons_of_mem _ (List.mem_append_left _ (List.mem_of_getElem? (i := 0) rfl))) dX10_takeDigits_1 rfl ?_
  refine g_istore_n (lv' := [(1, .int (I 2)), (0, .ref (q 1))]) hk dX10_takeDigits_4 (by decide) rfl ?_
  have lp585 : ∀ (n586 : Nat) (x530 : Int32) (I532 : Nat → Int32) (A532 : Nat → Nat → Int32), (Md [3] I I532) → (Md [] A A532) → (IvX I532 A532) → (2001 - x530.toInt < (n586 : Int)) → (0 < n586) → GW κ 2 0 0 (wX q d I532 A532) 5 [(1, .int x530), (0, .ref (q 1))] [] := by
    intro n586
    induction n586 with
    | zero =>
      intro x530 I532 A532 hI532 hA532 hV532 m587 m587z
      exact absurd m587z (Nat.lt_irrefl 0)
    | succ n586 ih588 =>
      intro x530 I532 A532 hI532 hA532 hV532 m587 m587z
      refine g_iload_n hk dX10_takeDigits_5 rfl ?_
      refine g_aload_n hk dX10_takeDigits_6 rfl ?_
      refine gX_i0 (v := (I 0)) hk hin10 (List.mem_cons_of_mem _ (List.mem_append_left _ (List.mem_of_getElem? (i := 1) rfl))) dX10_takeDigits_7 (hI532 0 rfl) ?_
      have f589 := IvX_f0 hIv
      have b590l := Int32.le_toInt x530
      have b590h := Int32.toInt_lt x530
      refine g_icmp_ge (tgt := 50) (a := x530.toInt) (b := (I 0).toInt) hk dX10_takeDigits_10 (by decide) rfl rfl (fun c591 => ?_) (fun c591 => ?_)
      · skip
        refine g_aload_n hk dX10_takeDigits_50 rfl ?_
        refine g_iload_n hk dX10_takeDigits_51 rfl ?_
        refine pX_i5 hk hin10 (List.mem_cons_of_mem _ (List.mem_append_left _ (List.mem_of_getElem? (i := 2) rfl))) dX10_takeDigits_52 ?_
        refine g_aload_n hk dX10_takeDigits_55 rfl ?_
        refine g_aload_n hk dX10_takeDigits_56 rfl ?_
        refine gX_i5 (v := x530) hk hin10 (List.mem_cons_of_mem _ (List.mem_append_left _ (List.mem_of_getElem? (i := 2) rfl))) dX10_takeDigits_57 rfl ?_
        refine g_aload_n hk dX10_takeDigits_60 rfl ?_
        refine gX_i2 (v := (I 2)) hk hin10 (List.mem_cons_of_mem _ (List.mem_append_left _ (List.mem_of_getElem? (i := 0) rfl))) dX10_takeDigits_61 (hI532 2 rfl) ?_
        have b592l := Int32.le_toInt (I 2)
        have b592h := Int32.toInt_lt (I 2)
        refine g_isub hk dX10_takeDigits_64 ?_
        refine g_topi (fun y593 ey593 => ?_)
        have hy593 := i32_sub0 ey593
        refine g_iconst (v := 4) hk dX10_takeDigits_65 (by decide) ?_
        have b594l := Int32.le_toInt y593
        have b594h := Int32.toInt_lt y593
        refine g_icmp_gt (tgt := 73) (a := y593.toInt) (b := 4) hk dX10_takeDigits_66 (by decide) rfl rfl (fun c595 => ?_) (fun c595 => ?_)
        · skip
          refine g_iconst (v := 5) hk dX10_takeDigits_73 (by decide) ?_
          refine pX_i1 hk hin10 (List.mem_cons_of_mem _ (List.mem_append_left _ (List.mem_of_getElem? (i := 3) rfl))) dX10_takeDigits_74 ?_
          exact g_vret hk hR ⟨(upd (upd I532 5 x530) 1 5), A532, (show Md [1, 3, 5] I (upd (upd I532 5 x530) 1 5) from (Md.up (Md.up (Md.tr Md.rf hI532 rfl) rfl) rfl)), (show Md [] A A532 from (Md.tr Md.rf hA532 rfl)), ⟨(IvX_f0 (I := I532) (A := A532) hV532), (IvX_f18 (I := I532) (A := A532) hV532), (IvX_f30 (I := I532) (A := A532) hV532), (IvX_f31 (I := I532) (A := A532) hV532), (IvX_a4 (I := I532) (A := A532) hV532), (IvX_a9 (I := I532) (A := A532) hV532), trivial⟩, rfl, rfl⟩ dX10_takeDigits_77
        · skip
          refine g_iconst (v := 2) hk dX10_takeDigits_69 (by decide) ?_
          refine g_goto (tgt := 74) hk dX10_takeDigits_70 (by decide) ?_
          refine pX_i1 hk hin10 (List.mem_cons_of_mem _ (List.mem_append_left _ (List.mem_of_getElem? (i := 3) rfl))) dX10_takeDigits_74 ?_
          exact g_vret hk hR ⟨(upd (upd I532 5 x530) 1 2), A532, (show Md [1, 3, 5] I (upd (upd I532 5 x530) 1 2) from (Md.up (Md.up (Md.tr Md.rf hI532 rfl) rfl) rfl)), (show Md [] A A532 from (Md.tr Md.rf hA532 rfl)), ⟨(IvX_f0 (I := I532) (A := A532) hV532), (IvX_f18 (I := I532) (A := A532) hV532), (IvX_f30 (I := I532) (A := A532) hV532), (IvX_f31 (I := I532) (A := A532) hV532), (IvX_a4 (I := I532) (A := A532) hV532), (IvX_a9 (I := I532) (A := A532) hV532), trivial⟩, rfl, rfl⟩ dX10_takeDigits_77
      · skip
        refine g_aload_n hk dX10_takeDigits_13 rfl ?_
        refine g_iload_n hk dX10_takeDigits_14 rfl ?_
        refine g_callV (n := 1) hk (k125_X10_byteAt l D zt q d I532 A532 x530 hV532) (SP.same _) (fun _ h => h) (gi_V (List.mem_cons_of_mem _ (List.mem_append_left _ (List.mem_of_getElem? (i := 4) rfl))) (List.mem_cons_of_mem _ (List.mem_append_left _ (List.mem_of_getElem? (i := 5) rfl))) (List.mem_cons_of_mem _ (List.mem_append_left _ (List.mem_of_getElem? (i := 6) rfl))) (List.mem_cons_of_mem _ (List.mem_append_left _ (List.mem_of_getElem? (i := 7) rfl))) (gi_sub (fun w h => (List.mem_cons_of_mem _ (List.mem_append_right _ (List.mem_append_right _ (List.mem_append_left _ h))))) zg_k125_X10_byteAt)) rfl rfl rfl (by decide +kernel) ⟨Nat.le_of_ble_eq_true rfl, Nat.le_of_ble_eq_true rfl⟩ 1 rfl rfl rfl rfl (Nat.le_of_ble_eq_true rfl) ⟨Nat.le_of_ble_eq_true rfl, Nat.le_of_ble_eq_true rfl⟩ dX10_takeDigits_15 (fun v ty' w' hp hk' => ?_)
        obtain ⟨y596, rfl, rfl⟩ := hp
        show GW κ 2 0 0 (wX q d I532 A532) 18 [(1, .int x530), (0, .ref (q 1))] [.int y596]
        refine g_callS (n := 1) hk (k127_X10_isDigit l D zt q d I532 A532 y596 hV532) (SP.same _) (fun _ h => h) (gi_S (List.mem_cons_of_mem _ (List.mem_append_left _ (List.mem_of_getElem? (i := 8) rfl))) (List.mem_cons_of_mem _ (List.mem_append_left _ (List.mem_of_getElem? (i := 9) rfl))) (List.mem_cons_of_mem _ (List.mem_append_left _ (List.mem_of_getElem? (i := 7) rfl))) (gi_sub (fun w h => (List.mem_cons_of_mem _ (List.mem_append_right _ (List.mem_append_right _ (List.mem_append_right _ (List.mem_append_left _ h)))))) zg_k127_X10_isDigit)) rfl rfl rfl (by decide +kernel) ⟨Nat.le_of_ble_eq_true rfl, Nat.le_of_ble_eq_true rfl⟩ rfl rfl (Nat.le_of_ble_eq_true rfl) ⟨Nat.le_of_ble_eq_true rfl, Nat.le_of_ble_eq_true rfl⟩ dX10_takeDigits_18 (fun v ty' w' hp hk' => ?_)
        rcases hp with ⟨rfl, rfl⟩ | ⟨c598, c599, c600, c601, rfl, rfl⟩
        · skip
          show GW κ 2 0 0 (wX q d I532 A532) 21 [(1, .int x530), (0, .ref (q 1))] [.int 0]
          refine g_if_eq (tgt := 50) (a := 0) hk dX10_takeDigits_21 (by decide) rfl (fun _ => ?_) (fun z9 => absurd (show (0 : Int) = (0 : Int) from by decide) z9)
          refine g_aload_n hk dX10_takeDigits_50 rfl ?_
          refine g_iload_n hk dX10_takeDigits_51 rfl ?_
          refine pX_i5 hk hin10 (List.mem_cons_of_mem _ (List.mem_append_left _ (List.mem_of_getElem? (i := 2) rfl))) dX10_takeDigits_52 ?_
          refine g_aload_n hk dX10_takeDigits_55 rfl ?_
          refine g_aload_n hk dX10_takeDigits_56 rfl ?_
          refine gX_i5 (v := x530) hk hin10 (List.mem_cons_of_mem _ (List.mem_append_left _ (List.mem_of_getElem? (i := 2) rfl))) dX10_takeDigits_57 rfl ?_
          refine g_aload_n hk dX10_takeDigits_60 rfl ?_
          refine gX_i2 (v := (I 2)) hk hin10 (List.mem_cons_of_mem _ (List.mem_append_left _ (List.mem_of_getElem? (i := 0) rfl))) dX10_takeDigits_61 (hI532 2 rfl) ?_
          have b603l := Int32.le_toInt (I 2)
          have b603h := Int32.toInt_lt (I 2)
          refine g_isub hk dX10_takeDigits_64 ?_
          refine g_topi (fun y604 ey604 => ?_)
          have hy604 := i32_sub0 ey604
          refine g_iconst (v := 4) hk dX10_takeDigits_65 (by decide) ?_
          have b605l := Int32.le_toInt y604
          have b605h := Int32.toInt_lt y604
          refine g_icmp_gt (tgt := 73) (a := y604.toInt) (b := 4) hk dX10_takeDigits_66 (by decide) rfl rfl (fun c606 => ?_) (fun c606 => ?_)
          · skip
            refine g_iconst (v := 5) hk dX10_takeDigits_73 (by decide) ?_
            refine pX_i1 hk hin10 (List.mem_cons_of_mem _ (List.mem_append_left _ (List.mem_of_getElem? (i := 3) rfl))) dX10_takeDigits_74 ?_
            exact g_vret hk hR ⟨(upd (upd I532 5 x530) 1 5), A532, (show Md [1, 3, 5] I (upd (upd I532 5 x530) 1 5) from (Md.up (Md.up (Md.tr Md.rf hI532 rfl) rfl) rfl)), (show Md [] A A532 from (Md.tr Md.rf hA532 rfl)), ⟨(IvX_f0 (I := I532) (A := A532) hV532), (IvX_f18 (I := I532) (A := A532) hV532), (IvX_f30 (I := I532) (A := A532) hV532), (IvX_f31 (I := I532) (A := A532) hV532), (IvX_a4 (I := I532) (A := A532) hV532), (IvX_a9 (I := I532) (A := A532) hV532), trivial⟩, rfl, rfl⟩ dX10_takeDigits_77
          · skip
            refine g_iconst (v := 2) hk dX10_takeDigits_69 (by decide) ?_
            refine g_goto (tgt := 74) hk dX10_takeDigits_70 (by decide) ?_
            refine pX_i1 hk hin10 (List.mem_cons_of_mem _ (List.mem_append_left _ (List.mem_of_getElem? (i := 3) rfl))) dX10_takeDigits_74 ?_
            exact g_vret hk hR ⟨(upd (upd I532 5 x530) 1 2), A532, (show Md [1, 3, 5] I (upd (upd I532 5 x530) 1 2) from (Md.up (Md.up (Md.tr Md.rf hI532 rfl) rfl) rfl)), (show Md [] A A532 from (Md.tr Md.rf hA532 rfl)), ⟨(IvX_f0 (I := I532) (A := A532) hV532), (IvX_f18 (I := I532) (A := A532) hV532), (IvX_f30 (I := I532) (A := A532) hV532), (IvX_f31 (I := I532) (A := A532) hV532), (IvX_a4 (I := I532) (A := A532) hV532), (IvX_a9 (I := I532) (A := A532) hV532), trivial⟩, rfl, rfl⟩ dX10_takeDigits_77
        · skip
          show GW κ 2 0 0 (wX q d I532 A532) 21 [(1, .int x530), (0, .ref (q 1))] [.int 1]
          refine g_if_eq (tgt := 50) (a := 1) hk dX10_takeDigits_21 (by decide) rfl (fun z9 => absurd z9 (show ¬ ((1 : Int) = (0 : Int)) from by decide)) (fun _ => ?_)
          refine g_aload_n hk dX10_takeDigits_24 rfl ?_
          refine g_aload_n hk dX10_takeDigits_25 rfl ?_
          refine gX_i3 (v := (I532 3)) hk hin10 (List.mem_cons_of_mem _ (List.mem_append_left _ (List.mem_of_getElem? (i := 10) rfl))) dX10_takeDigits_26 rfl ?_
          refine g_bipush (v := 10) hk dX10_takeDigits_29 (by decide) ?_
          have b607l := Int32.le_toInt (I532 3)
          have b607h := Int32.toInt_lt (I532 3)
          refine g_imul hk dX10_takeDigits_31 ?_
          refine g_topi (fun y608 ey608 => ?_)
          refine g_aload_n hk dX10_takeDigits_32 rfl ?_
          refine g_iload_n hk dX10_takeDigits_33 rfl ?_
          refine g_callV (n := 1) hk (k125_X10_byteAt l D zt q d I532 A532 x530 hV532) (SP.same _) (fun _ h => h) (gi_V (List.mem_cons_of_mem _ (List.mem_append_left _ (List.mem_of_getElem? (i := 4) rfl))) (List.mem_cons_of_mem _ (List.mem_append_left _ (List.mem_of_getElem? (i := 5) rfl))) (List.mem_cons_of_mem _ (List.mem_append_left _ (List.mem_of_getElem? (i := 6) rfl))) (List.mem_cons_of_mem _ (List.mem_append_left _ (List.mem_of_getElem? (i := 7) rfl))) (gi_sub (fun w h => (List.mem_cons_of_mem _ (List.mem_append_right _ (List.mem_append_right _ (List.mem_append_left _ h))))) zg_k125_X10_byteAt)) rfl rfl rfl (by decide +kernel) ⟨Nat.le_of_ble_eq_true rfl, Nat.le_of_ble_eq_true rfl⟩ 1 rfl rfl rfl rfl (Nat.le_of_ble_eq_true rfl) ⟨Nat.le_of_ble_eq_true rfl, Nat.le_of_ble_eq_true rfl⟩ dX10_takeDigits_34 (fun v ty' w' hp hk' => ?_)
          obtain ⟨y609, rfl, rfl⟩ := hp
          show GW κ 2 0 0 (wX q d I532 A532) 37 [(1, .int x530), (0, .ref (q 1))] [.int y609, .int y608, .ref (q 1)]
          have b610l := Int32.le_toInt y608
          have b610h := Int32.toInt_lt y608
          have b611l := Int32.le_toInt y609
          have b611h := Int32.toInt_lt y609
          refine g_iadd hk dX10_takeDigits_37 ?_
          refine g_topi (fun y612 ey612 => ?_)
          refine g_bipush (v := 48) hk dX10_takeDigits_38 (by decide) ?_
          have b613l := Int32.le_toInt y612
          have b613h := Int32.toInt_lt y612
          refine g_isub hk dX10_takeDigits_40 ?_
          refine g_topi (fun y614 ey614 => ?_)
          have hy614 := i32_sub0 ey614
          refine pX_i3 hk hin10 (List.mem_cons_of_mem _ (List.mem_append_left _ (List.mem_of_getElem? (i := 10) rfl))) dX10_takeDigits_41 ?_
          obtain ⟨y615, ey615⟩ : ∃ y : Int32, y = x530 + Int32.ofInt 1 := ⟨_, rfl⟩
          have hy615 : y615.toInt = x530.toInt + 1 := i32_add ey615 rfl (by decide) (by omega) (by omega)
          refine g_iinc (v := y615) (lv' := [(1, .int y615), (0, .ref (q 1))]) hk 0 dX10_takeDigits_44 rfl ey615.symm (by decide) rfl ?_
          refine g_goto (tgt := 5) hk dX10_takeDigits_47 (by decide) ?_
          exact g_lv (List.forall_mem_cons.mpr ⟨List.mem_of_getElem? (i := 0) rfl, (List.forall_mem_cons.mpr ⟨List.mem_of_getElem? (i := 1) rfl, (fun _ h => absurd h List.not_mem_nil)⟩)⟩) (ih588 y615 (upd I532 3 y614) A532 (show Md [3] I (upd I532 3 y614) from Md.tr hI532 (show Md [3] I532 (upd I532 3 y614) from (Md.up Md.rf rfl)) rfl) (show Md [] A A532 from Md.tr hA532 (show Md [] A532 A532 from Md.rf) rfl) ⟨(IvX_f0 (I := I532) (A := A532) hV532), (IvX_f18 (I := I532) (A := A532) hV532), (IvX_f30 (I := I532) (A := A532) hV532), (IvX_f31 (I := I532) (A := A532) hV532), (IvX_a4 (I := I532) (A := A532) hV532), (IvX_a9 (I := I532) (A := A532) hV532), trivial⟩ (by omega) (by omega))
  have b617l := Int32.le_toInt (I 2)
  have b617h := Int32.toInt_lt (I 2)
  obtain ⟨n616, n616a, n616b⟩ : ∃ n : Nat, 2001 - (I 2).toInt < (n : Int) ∧ 0 < n := ⟨((2001 - (I 2).toInt : Int)).toNat + 1, by omega, by omega⟩
  exact lp585 n616 (I 2) I A Md.rf Md.rf hIv n616a n616b
def wo_k129_X10_takeLetters : List Cond := [Cond.fieldLink RX10 32 "WarpDesk$Tape" "start" "I", Cond.fieldLink RX10 15 "WarpDesk$Tape" "size" "I", Cond.fieldLink RX10 19 "WarpDesk$Tape" "behind" "I", Cond.fieldLink RX10 41 "WarpDesk$Tape" "kind" "I", Cond.methodLink RX10 38 yX10_byteAt, Cond.instanceMethod yX10_byteAt, Cond.selects RX10 yX10_byteAt yX10_byteAt, Cond.initialized RX10, Cond.methodLink RX10 44 yX10_isLetter, Cond.static yX10_isLetter]
def wz_k129_X10_takeLetters : List Cond := .code yX10_takeLetters cX10_takeLetters 2 none :: (wo_k129_X10_takeLetters ++ (wsX100 ++ (wz_k125_X10_byteAt ++ (wz_k126_X10_isLetter ++ ([] : List Cond)))))
theorem zg_k129_X10_takeLetters : ∀ w ∈ wz_k129_X10_takeLetters, goodWord w = true := zg_cons rfl (zg_app (by decide +kernel) (zg_app zgU_wsX100 (zg_app zg_k125_X10_byteAt (zg_app zg_k126_X10_isLetter zg_nil))))
theorem zi_k129_X10_takeLetters : ∀ w ∈ wz_k129_X10_takeLetters, w ∈ lw_tbl := zi_cons zw_576 (zi_app (zi_cons zw_140 (zi_cons zw_137 (zi_cons zw_146 (zi_cons zw_139 (zi_cons zw_566 (zi_cons zw_568 (zi_cons zw_2 (zi_cons zw_104 (zi_cons zw_570 (zi_cons zw_571 zi_nil)))))))))) (zi_app inX10 (zi_app zi_k125_X10_byteAt (zi_app zi_k126_X10_isLetter zi_nil))))
set_option maxHeartbeats 4000000 in
set_option maxRecDepth 100000 in
theorem k129_X10_takeLetters (l : Launch) (D : va_G) (zt : Nat × Nat × Nat × (Nat → Nat) × (Nat → Nat)) (q : Nat → Nat) (d : Nat → ClassId) (I : Nat → Int32) (A : Nat → Nat → Int32) (hIv : IvX I A) : GM l D zt (tyX d) yX10_takeLetters wz_k129_X10_takeLetters ({ frames := 1, cells := 0, slots := 0, locals := 21 } : Room) [.ref (q 1)] (wX q d I A) (fun v _ w' => ∃ (I' : Nat → Int32) (A' : Nat → Nat → Int32), Md [1, 5] I I' ∧ Md [] A A' ∧ IvX I' A' ∧ v = none ∧ w' = wX q d I' A') 0 0 := by
  refine GM.of (cc := cX10_takeLetters) (maxL := 2) (ret := none) (own := RX10) (lv := [(0, .ref (q 1))]) (by decide) rfl rfl (Nat.le_of_ble_eq_true rfl) rfl (fun κ sz hk hR hN => ?_)
  have hin10 : ∀ w ∈ u_ws RX10 TX10 7, w ∈ wz_k129_X10_takeLetters := fun w h => (List.mem_cons_of_mem _ (List.mem_append_right _ (List.mem_append_left _ h)))
  refine g_aload_n hk dX10_takeLetters_0 rfl ?_
  refine gX_i2 (v := (I 2)) hk hin10 (List.mem_cons_of_mem _ (List.mem_append_left _ (List.mem_of_getElem? (i := 0) rfl))) dX10_takeLetters_1 rfl ?_
  refine g_istore_n (lv' := [(1, .int (I 2)), (0, .ref (q 1))]) hk dX10_takeLetters_4 (by decide) rfl ?_
  have lp659 : ∀ (n660 : Nat) (x620 : Int32), (2001 - x620.toInt < (n660 : Int)) → (0 < n660) → GW κ 2 0 0 (wX q d I A) 5 [(1, .int x620), (0, .ref (q 1))] [] := by
    intro n660
    induction n660 with
    | zero =>
      intro x620 m661 m661z
      exact absurd m661z (Nat.lt_irrefl 0)
    | succ n660 ih662 =>
      intro x620 m661 m661z
      refine g_iload_n hk dX10_takeLetters_5 rfl ?_
      refine g_aload_n hk dX10_takeLetters_6 rfl ?_
      refine gX_i0 (v := (I 0)) hk hin10 (List.mem_cons_of_mem _ (List.mem_append_left _ (List.mem_of_getElem? (i := 1) rfl))) dX10_takeLetters_7 rfl ?_
      have f663 := IvX_f0 hIv
      have b664l := Int32.le_toInt x620
      have b664h := Int32.toInt_lt x620
      refine g_icmp_ge (tgt := 30) (a := x620.toInt) (b := (I 0).toInt) hk dX10_takeLetters_10 (by decide) rfl rfl (fun c665 => ?_) (fun c665 => ?_)
      · skip
        refine g_aload_n hk dX10_takeLetters_30 rfl ?_
        refine g_iload_n hk dX10_takeLetters_31 rfl ?_
        refine pX_i5 hk hin10 (List.mem_cons_of_mem _ (List.mem_append_left _ (List.mem_of_getElem? (i := 2) rfl))) dX10_takeLetters_32 ?_
        refine g_aload_n hk dX10_takeLetters_35 rfl ?_
        refine g_aload_n hk dX10_takeLetters_36 rfl ?_
        refine gX_i5 (v := x620) hk hin10 (List.mem_cons_of_mem _ (List.mem_append_left _ (List.mem_of_getElem? (i := 2) rfl))) dX10_takeLetters_37 rfl ?_
        refine g_aload_n hk dX10_takeLetters_40 rfl ?_
        refine gX_i2 (v := (I 2)) hk hin10 (List.mem_cons_of_mem _ (List.mem_append_left _ (List.mem_of_getElem? (i := 0) rfl))) dX10_takeLetters_41 rfl ?_
        have b666l := Int32.le_toInt (I 2)
        have b666h := Int32.toInt_lt (I 2)
        refine g_isub hk dX10_takeLetters_44 ?_
        refine g_topi (fun y667 ey667 => ?_)
        have hy667 := i32_sub0 ey667
        refine g_bipush (v := 8) hk dX10_takeLetters_45 (by decide) ?_
        have b668l := Int32.le_toInt y667
        have b668h := Int32.toInt_lt y667
        refine g_icmp_gt (tgt := 54) (a := y667.toInt) (b := 8) hk dX10_takeLetters_47 (by decide) rfl rfl (fun c669 => ?_) (fun c669 => ?_)
        · skip
          refine g_iconst (v := 5) hk dX10_takeLetters_54 (by decide) ?_
          refine pX_i1 hk hin10 (List.mem_cons_of_mem _ (List.mem_append_left _ (List.mem_of_getElem? (i := 3) rfl))) dX10_takeLetters_55 ?_
          exact g_vret hk hR ⟨(upd (upd I 5 x620) 1 5), A, (show Md [1, 5] I (upd (upd I 5 x620) 1 5) from (Md.up (Md.up Md.rf rfl) rfl)), (show Md [] A A from Md.rf), ⟨(IvX_f0 (I := I) (A := A) hIv), (IvX_f18 (I := I) (A := A) hIv), (IvX_f30 (I := I) (A := A) hIv), (IvX_f31 (I := I) (A := A) hIv), (IvX_a4 (I := I) (A := A) hIv), (IvX_a9 (I := I) (A := A) hIv), trivial⟩, rfl, rfl⟩ dX10_takeLetters_58
        · skip
          refine g_iconst (v := 1) hk dX10_takeLetters_50 (by decide) ?_
          refine g_goto (tgt := 55) hk dX10_takeLetters_51 (by decide) ?_
          refine pX_i1 hk hin10 (List.mem_cons_of_mem _ (List.mem_append_left _ (List.mem_of_getElem? (i := 3) rfl))) dX10_takeLetters_55 ?_
          exact g_vret hk hR ⟨(upd (upd I 5 x620) 1 1), A, (show Md [1, 5] I (upd (upd I 5 x620) 1 1) from (Md.up (Md.up Md.rf rfl) rfl)), (show Md [] A A from Md.rf), ⟨(IvX_f0 (I := I) (A := A) hIv), (IvX_f18 (I := I) (A := A) hIv), (IvX_f30 (I := I) (A := A) hIv), (IvX_f31 (I := I) (A := A) hIv), (IvX_a4 (I := I) (A := A) hIv), (IvX_a9 (I := I) (A := A) hIv), trivial⟩, rfl, rfl⟩ dX10_takeLetters_58
      · skip
        refine g_aload_n hk dX10_takeLetters_13 rfl ?_
        refine g_iload_n hk dX10_takeLetters_14 rfl ?_
        refine g_callV (n := 1) hk (k125_X10_byteAt l D zt q d I A x620 hIv) (SP.same _) (fun _ h => h) (gi_V (List.mem_cons_of_mem _ (List.mem_append_left _ (List.mem_of_getElem? (i := 4) rfl))) (List.mem_cons_of_mem _ (List.mem_append_left _ (List.mem_of_getElem? (i := 5) rfl))) (List.mem_cons_of_mem _ (List.mem_append_left _ (List.mem_of_getElem? (i := 6) rfl))) (List.mem_cons_of_mem _ (List.mem_append_left _ (List.mem_of_getElem? (i := 7) rfl))) (gi_sub (fun w h => (List.mem_cons_of_mem _ (List.mem_append_right _ (List.mem_append_right _ (List.mem_append_left _ h))))) zg_k125_X10_byteAt)) rfl rfl rfl (by decide +kernel) ⟨Nat.le_of_ble_eq_true rfl, Nat.le_of_ble_eq_true rfl⟩ 1 rfl rfl rfl rfl (Nat.le_of_ble_eq_true rfl) ⟨Nat.le_of_ble_eq_true rfl, Nat.le_of_ble_eq_true rfl⟩ dX10_takeLetters_15 (fun v ty' w' hp hk' => ?_)
        obtain ⟨y670, rfl, rfl⟩ := hp
        show GW κ 2 0 0 (wX q d I A) 18 [(1, .int x620), (0, .ref (q 1))] [.int y670]
        refine g_callS (n := 1) hk (k126_X10_isLetter l D zt q d I A y670 hIv) (SP.same _) (fun _ h => h) (gi_S (List.mem_cons_of_mem _ (List.mem_append_left _ (List.mem_of_getElem? (i := 8) rfl))) (List.mem_cons_of_mem _ (List.mem_append_left _ (List.mem_of_getElem? (i := 9) rfl))) (List.mem_cons_of_mem _ (List.mem_append_left _ (List.mem_of_getElem? (i := 7) rfl))) (gi_sub (fun w h => (List.mem_cons_of_mem _ (List.mem_append_right _ (List.mem_append_right _ (List.mem_append_right _ (List.mem_append_left _ h)))))) zg_k126_X10_isLetter)) rfl rfl rfl (by decide +kernel) ⟨Nat.le_of_ble_eq_true rfl, Nat.le_of_ble_eq_true rfl⟩ rfl rfl (Nat.le_of_ble_eq_true rfl) ⟨Nat.le_of_ble_eq_true rfl, Nat.le_of_ble_eq_true rfl⟩ dX10_takeLetters_18 (fun v ty' w' hp hk' => ?_)
        rcases hp with ⟨rfl, rfl⟩ | ⟨c672, c673, c674, c675, rfl, rfl⟩
        · skip
          show GW κ 2 0 0 (wX q d I A) 21 [(1, .int x620), (0, .ref (q 1))] [.int 0]
          refine g_if_eq (tgt := 30) (a := 0) hk dX10_takeLetters_21 (by decide) rfl (fun _ => ?_) (fun z9 => absurd (show (0 : Int) = (0 : Int) from by decide) z9)
          refine g_aload_n hk dX10_takeLetters_30 rfl ?_
          refine g_iload_n hk dX10_takeLetters_31 rfl ?_
          refine pX_i5 hk hin10 (List.mem_cons_of_mem _ (List.mem_append_left _ (List.mem_of_getElem? (i := 2) rfl))) dX10_takeLetters_32 ?_
          refine g_aload_n hk dX10_takeLetters_35 rfl ?_
          refine g_aload_n hk dX10_takeLetters_36 rfl ?_
          refine gX_i5 (v := x620) hk hin10 (List.mem_cons_of_mem _ (List.mem_append_left _ (List.mem_of_getElem? (i := 2) rfl))) dX10_takeLetters_37 rfl ?_
          refine g_aload_n hk dX10_takeLetters_40 rfl ?_
          refine gX_i2 (v := (I 2)) hk hin10 (List.mem_cons_of_mem _ (List.mem_append_left _ (List.mem_of_getElem? (i := 0) rfl))) dX10_takeLetters_41 rfl ?_
          have b677l := Int32.le_toInt (I 2)
          have b677h := Int32.toInt_lt (I 2)
          refine g_isub hk dX10_takeLetters_44 ?_
          refine g_topi (fun y678 ey678 => ?_)
          have hy678 := i32_sub0 ey678
          refine g_bipush (v := 8) hk dX10_takeLetters_45 (by decide) ?_
          have b679l := Int32.le_toInt y678
          have b679h := Int32.toInt_lt y678
          refine g_icmp_gt (tgt := 54) (a := y678.toInt) (b := 8) hk dX10_takeLetters_47 (by decide) rfl rfl (fun c680 => ?_) (fun c680 => ?_)
          · skip
            refine g_iconst (v := 5) hk dX10_takeLetters_54 (by decide) ?_
            refine pX_i1 hk hin10 (List.mem_cons_of_mem _ (List.mem_append_left _ (List.mem_of_getElem? (i := 3) rfl))) dX10_takeLetters_55 ?_
            exact g_vret hk hR ⟨(upd (upd I 5 x620) 1 5), A, (show Md [1, 5] I (upd (upd I 5 x620) 1 5) from (Md.up (Md.up Md.rf rfl) rfl)), (show Md [] A A from Md.rf), ⟨(IvX_f0 (I := I) (A := A) hIv), (IvX_f18 (I := I) (A := A) hIv), (IvX_f30 (I := I) (A := A) hIv), (IvX_f31 (I := I) (A := A) hIv), (IvX_a4 (I := I) (A := A) hIv), (IvX_a9 (I := I) (A := A) hIv), trivial⟩, rfl, rfl⟩ dX10_takeLetters_58
          · skip
            refine g_iconst (v := 1) hk dX10_takeLetters_50 (by decide) ?_
            refine g_goto (tgt := 55) hk dX10_takeLetters_51 (by decide) ?_
            refine pX_i1 hk hin10 (List.mem_cons_of_mem _ (List.mem_append_left _ (List.mem_of_getElem? (i := 3) rfl))) dX10_takeLetters_55 ?_
            exact g_vret hk hR ⟨(upd (upd I 5 x620) 1 1), A, (show Md [1, 5] I (upd (upd I 5 x620) 1 1) from (Md.up (Md.up Md.rf rfl) rfl)), (show Md [] A A from Md.rf), ⟨(IvX_f0 (I := I) (A := A) hIv), (IvX_f18 (I := I) (A := A) hIv), (IvX_f30 (I := I) (A := A) hIv), (IvX_f31 (I := I) (A := A) hIv), (IvX_a4 (I := I) (A := A) hIv), (IvX_a9 (I := I) (A := A) hIv), trivial⟩, rfl, rfl⟩ dX10_takeLetters_58
        · skip
          show GW κ 2 0 0 (wX q d I A) 21 [(1, .int x620), (0, .ref (q 1))] [.int 1]
          refine g_if_eq (tgt := 30) (a := 1) hk dX10_takeLetters_21 (by decide) rfl (fun z9 => absurd z9 (show ¬ ((1 : Int) = (0 : Int)) from by decide)) (fun _ => ?_)
          obtain ⟨y681, ey681⟩ : ∃ y : Int32, y = x620 + Int32.ofInt 1 := ⟨_, rfl⟩
          have hy681 : y681.toInt = x620.toInt + 1 := i32_add ey681 rfl (by decide) (by omega) (by omega)
          refine g_iinc (v := y681) (lv' := [(1, .int y681), (0, .ref (q 1))]) hk 0 dX10_takeLetters_24 rfl ey681.symm (by decide) rfl ?_
          refine g_goto (tgt := 5) hk dX10_takeLetters_27 (by decide) ?_
          exact g_lv (List.forall_mem_cons.mpr ⟨List.mem_of_getElem? (i := 0) rfl, (List.forall_mem_cons.mpr ⟨List.mem_of_getElem? (i := 1) rfl, (fun _ h => absurd h List.not_mem_nil)⟩)⟩) (ih662 y681 (by omega) (by omega))
  have b683l := Int32.le_toInt (I 2)
  have b683h := Int32.toInt_lt (I 2)
  obtain ⟨n682, n682a, n682b⟩ : ∃ n : Nat, 2001 - (I 2).toInt < (n : Int) ∧ 0 < n := ⟨((2001 - (I 2).toInt : Int)).toNat + 1, by omega, by omega⟩
  exact lp659 n682 (I 2) n682a n682b
def wo_k123_X10_toNextToken : List Cond := [Cond.fieldLink RX10 19 "WarpDesk$Tape" "behind" "I", Cond.methodLink RX10 28 yX10_behindBlanks, Cond.instanceMethod yX10_behindBlanks, Cond.selects RX10 yX10_behindBlanks yX10_behindBlanks, Cond.initialized RX10, Cond.fieldLink RX10 32 "WarpDesk$Tape" "start" "I", Cond.fieldLink RX10 22 "WarpDesk$Tape" "number" "I", Cond.fieldLink RX10 35 "WarpDesk$Tape" "value" "I", Cond.methodLink RX10 38 yX10_byteAt, Cond.instanceMethod yX10_byteAt, Cond.selects RX10 yX10_byteAt yX10_byteAt, Cond.methodLink RX10 44 yX10_isLetter, Cond.static yX10_isLetter, Cond.methodLink RX10 51 yX10_isDigit, Cond.static yX10_isDigit, Cond.fieldLink RX10 41 "WarpDesk$Tape" "kind" "I", Cond.methodLink RX10 54 yX10_takeDigits, Cond.instanceMethod yX10_takeDigits, Cond.selects RX10 yX10_takeDigits yX10_takeDigits, Cond.methodLink RX10 48 yX10_takeLetters, Cond.instanceMethod yX10_takeLetters, Cond.selects RX10 yX10_takeLetters yX10_takeLetters]
def wz_k123_X10_toNextToken : List Cond := .code yX10_toNextToken cX10_toNextToken 2 none :: (wo_k123_X10_toNextToken ++ (wsX100 ++ (wz_k124_X10_behindBlanks ++ (wz_k125_X10_byteAt ++ (wz_k126_X10_isLetter ++ (wz_k127_X10_isDigit ++ (wz_k128_X10_takeDigits ++ (wz_k129_X10_takeLetters ++ ([] : List Cond)))))))))
theorem zg_k123_X10_toNextToken : ∀ w ∈ wz_k123_X10_toNextToken, goodWord w = true := zg_cons rfl (zg_app (by decide +kernel) (zg_app zgU_wsX100 (zg_app zg_k124_X10_behindBlanks (zg_app zg_k125_X10_byteAt (zg_app zg_k126_X10_isLetter (zg_app zg_k127_X10_isDigit (zg_app zg_k128_X10_takeDigits (zg_app zg_k129_X10_takeLetters zg_nil))))))))
theorem zi_k123_X10_toNextToken : ∀ w ∈ wz_k123_X10_toNextToken, w ∈ lw_tbl := zi_cons zw_561 (zi_app (zi_cons zw_146 (zi_cons zw_562 (zi_cons zw_564 (zi_cons zw_1 (zi_cons zw_104 (zi_cons zw_140 (zi_cons zw_144 (zi_cons zw_142 (zi_cons zw_566 (zi_cons zw_568 (zi_cons zw_2 (zi_cons zw_570 (zi_cons zw_571 (zi_cons zw_577 (zi_cons zw_578 (zi_cons zw_139 (zi_cons zw_580 (zi_cons zw_582 (zi_cons zw_4 (zi_cons zw_573 (zi_cons zw_575 (zi_cons zw_3 zi_nil)))))))))))))))))))))) (zi_app inX10 (zi_app zi_k124_X10_behindBlanks (zi_app zi_k125_X10_byteAt (zi_app zi_k126_X10_isLetter (zi_app zi_k127_X10_isDigit (zi_app zi_k128_X10_takeDigits (zi_app zi_k129_X10_takeLetters zi_nil))))))))
set_option maxHeartbeats 4000000 in
set_option maxRecDepth 100000 in
theorem k123_X10_toNextToken (l : Launch) (D : va_G) (zt : Nat × Nat × Nat × (Nat → Nat) × (Nat → Nat)) (q : Nat → Nat) (d : Nat → ClassId) (I : Nat → Int32) (A : Nat → Nat → Int32) (hIv : IvX I A) : GM l D zt (tyX d) yX10_toNextToken wz_k123_X10_toNextToken ({ frames := 2, cells := 0, slots := 0, locals := 44 } : Room) [.ref (q 1)] (wX q d I A) (fun v _ w' => ∃ (I' : Nat → Int32) (A' : Nat → Nat → Int32), Md [1, 2, 3, 4, 5] I I' ∧ Md [] A A' ∧ IvX I' A' ∧ v = none ∧ w' = wX q d I' A') 0 0 := by
  refine GM.of (cc := cX10_toNextToken) (maxL := 2) (ret := none) (own := RX10) (lv := [(0, .ref (q 1))]) (by decide) rfl rfl (Nat.le_of_ble_eq_true rfl) rfl (fun κ sz hk hR hN => ?_)
  have hin10 : ∀ w ∈ u_ws RX10 TX10 7, w ∈ wz_k123_X10_toNextToken := fun w h => (List.mem_cons_of_mem _ (List.mem_append_right _ (List.mem_append_left _ h)))
  refine g_aload_n hk dX10_toNextToken_0 rfl ?_
  refine g_aload_n hk dX10_toNextToken_1 rfl ?_
  refine g_aload_n hk dX10_toNextToken_2 rfl ?_
  refine gX_i5 (v := (I 5)) hk hin10 (List.mem_cons_of_mem _ (List.mem_append_left _ (List.mem_of_getElem? (i := 0) rfl))) dX10_toNextToken_3 rfl ?_
  refine g_callV (n := 1) hk (k124_X10_behindBlanks l D zt q d I A (I 5) hIv) (SP.same _) (fun _ h => h) (gi_V (List.mem_cons_of_mem _ (List.mem_append_left _ (List.mem_of_getElem? (i := 1) rfl))) (List.mem_cons_of_mem _ (List.mem_append_left _ (List.mem_of_getElem? (i := 2) rfl))) (List.mem_cons_of_mem _ (List.mem_append_left _ (List.mem_of_getElem? (i := 3) rfl))) (List.mem_cons_of_mem _ (List.mem_append_left _ (List.mem_of_getElem? (i := 4) rfl))) (gi_sub (fun w h => (List.mem_cons_of_mem _ (List.mem_append_right _ (List.mem_append_right _ (List.mem_append_left _ h))))) zg_k124_X10_behindBlanks)) rfl rfl rfl (by decide +kernel) ⟨Nat.le_of_ble_eq_true rfl, Nat.le_of_ble_eq_true rfl⟩ 1 rfl rfl rfl rfl (Nat.le_of_ble_eq_true rfl) ⟨Nat.le_of_ble_eq_true rfl, Nat.le_of_ble_eq_true rfl⟩ dX10_toNextToken_6 (fun v ty' w' hp hk' => ?_)
  obtain ⟨y501, c502, rfl, rfl⟩ := hp
  show GW κ 2 0 0 (wX q d I A) 9 [(0, .ref (q 1))] [.int y501, .ref (q 1)]
  refine pX_i2 hk hin10 (List.mem_cons_of_mem _ (List.mem_append_left _ (List.mem_of_getElem? (i := 5) rfl))) dX10_toNextToken_9 ?_
  refine g_aload_n hk dX10_toNextToken_12 rfl ?_
  refine g_dup hk dX10_toNextToken_13 rfl ?_
  refine gX_i4 (v := (I 4)) hk hin10 (List.mem_cons_of_mem _ (List.mem_append_left _ (List.mem_of_getElem? (i := 6) rfl))) dX10_toNextToken_14 rfl ?_
  refine g_iconst (v := 1) hk dX10_toNextToken_17 (by decide) ?_
  have b503l := Int32.le_toInt (I 4)
  have b503h := Int32.toInt_lt (I 4)
  refine g_iadd hk dX10_toNextToken_18 ?_
  refine g_topi (fun y504 ey504 => ?_)
  refine pX_i4 hk hin10 (List.mem_cons_of_mem _ (List.mem_append_left _ (List.mem_of_getElem? (i := 6) rfl))) dX10_toNextToken_19 ?_
  refine g_aload_n hk dX10_toNextToken_22 rfl ?_
  refine g_iconst (v := 0) hk dX10_toNextToken_23 (by decide) ?_
  refine pX_i3 hk hin10 (List.mem_cons_of_mem _ (List.mem_append_left _ (List.mem_of_getElem? (i := 7) rfl))) dX10_toNextToken_24 ?_
  refine g_aload_n hk dX10_toNextToken_27 rfl ?_
  refine g_aload_n hk dX10_toNextToken_28 rfl ?_
  refine gX_i2 (v := y501) hk hin10 (List.mem_cons_of_mem _ (List.mem_append_left _ (List.mem_of_getElem? (i := 5) rfl))) dX10_toNextToken_29 rfl ?_
  refine g_callV (n := 1) hk (k125_X10_byteAt l D zt q d (upd (upd (upd I 2 y501) 4 y504) 3 0) A y501 ⟨(IvX_f0 (I := I) (A := A) hIv), (IvX_f18 (I := I) (A := A) hIv), (IvX_f30 (I := I) (A := A) hIv), (IvX_f31 (I := I) (A := A) hIv), (IvX_a4 (I := I) (A := A) hIv), (IvX_a9 (I := I) (A := A) hIv), trivial⟩) (SP.same _) (fun _ h => h) (gi_V (List.mem_cons_of_mem _ (List.mem_append_left _ (List.mem_of_getElem? (i := 8) rfl))) (List.mem_cons_of_mem _ (List.mem_append_left _ (List.mem_of_getElem? (i := 9) rfl))) (List.mem_cons_of_mem _ (List.mem_append_left _ (List.mem_of_getElem? (i := 10) rfl))) (List.mem_cons_of_mem _ (List.mem_append_left _ (List.mem_of_getElem? (i := 4) rfl))) (gi_sub (fun w h => (List.mem_cons_of_mem _ (List.mem_append_right _ (List.mem_append_right _ (List.mem_append_right _ (List.mem_append_left _ h)))))) zg_k125_X10_byteAt)) rfl rfl rfl (by decide +kernel) ⟨Nat.le_of_ble_eq_true rfl, Nat.le_of_ble_eq_true rfl⟩ 1 rfl rfl rfl rfl (Nat.le_of_ble_eq_true rfl) ⟨Nat.le_of_ble_eq_true rfl, Nat.le_of_ble_eq_true rfl⟩ dX10_toNextToken_32 (fun v ty' w' hp hk' => ?_)
  obtain ⟨y505, rfl, rfl⟩ := hp
  show GW κ 2 0 0 (wX q d (upd (upd (upd I 2 y501) 4 y504) 3 0) A) 35 [(0, .ref (q 1))] [.int y505]
  refine g_istore_n (lv' := [(1, .int y505), (0, .ref (q 1))]) hk dX10_toNextToken_35 (by decide) rfl ?_
  refine g_iload_n hk dX10_toNextToken_36 rfl ?_
  have b506l := Int32.le_toInt y505
  have b506h := Int32.toInt_lt y505
  refine g_if_ge (tgt := 56) (a := y505.toInt) hk dX10_toNextToken_37 (by decide) rfl (fun c507 => ?_) (fun c507 => ?_)
  · skip
    refine g_iload_n hk dX10_toNextToken_56 rfl ?_
    refine g_callS (n := 1) hk (k126_X10_isLetter l D zt q d (upd (upd (upd I 2 y501) 4 y504) 3 0) A y505 ⟨(IvX_f0 (I := I) (A := A) hIv), (IvX_f18 (I := I) (A := A) hIv), (IvX_f30 (I := I) (A := A) hIv), (IvX_f31 (I := I) (A := A) hIv), (IvX_a4 (I := I) (A := A) hIv), (IvX_a9 (I := I) (A := A) hIv), trivial⟩) (SP.same _) (fun _ h => h) (gi_S (List.mem_cons_of_mem _ (List.mem_append_left _ (List.mem_of_getElem? (i := 11) rfl))) (List.mem_cons_of_mem _ (List.mem_append_left _ (List.mem_of_getElem? (i := 12) rfl))) (List.mem_cons_of_mem _ (List.mem_append_left _ (List.mem_of_getElem? (i := 4) rfl))) (gi_sub (fun w h => (List.mem_cons_of_mem _ (List.mem_append_right _ (List.mem_append_right _ (List.mem_append_right _ (List.mem_append_right _ (List.mem_append_left _ h))))))) zg_k126_X10_isLetter)) rfl rfl rfl (by decide +kernel) ⟨Nat.le_of_ble_eq_true rfl, Nat.le_of_ble_eq_true rfl⟩ rfl rfl (Nat.le_of_ble_eq_true rfl) ⟨Nat.le_of_ble_eq_true rfl, Nat.le_of_ble_eq_true rfl⟩ dX10_toNextToken_57 (fun v ty' w' hp hk' => ?_)
    rcases hp with ⟨rfl, rfl⟩ | ⟨c512, c513, c514, c515, rfl, rfl⟩
    · skip
      show GW κ 2 0 0 (wX q d (upd (upd (upd I 2 y501) 4 y504) 3 0) A) 60 [(1, .int y505), (0, .ref (q 1))] [.int 0]
      refine g_if_eq (tgt := 70) (a := 0) hk dX10_toNextToken_60 (by decide) rfl (fun _ => ?_) (fun z9 => absurd (show (0 : Int) = (0 : Int) from by decide) z9)
      refine g_iload_n hk dX10_toNextToken_70 rfl ?_
      refine g_callS (n := 1) hk (k127_X10_isDigit l D zt q d (upd (upd (upd I 2 y501) 4 y504) 3 0) A y505 ⟨(IvX_f0 (I := I) (A := A) hIv), (IvX_f18 (I := I) (A := A) hIv), (IvX_f30 (I := I) (A := A) hIv), (IvX_f31 (I := I) (A := A) hIv), (IvX_a4 (I := I) (A := A) hIv), (IvX_a9 (I := I) (A := A) hIv), trivial⟩) (SP.same _) (fun _ h => h) (gi_S (List.mem_cons_of_mem _ (List.mem_append_left _ (List.mem_of_getElem? (i := 13) rfl))) (List.mem_cons_of_mem _ (List.mem_append_left _ (List.mem_of_getElem? (i := 14) rfl))) (List.mem_cons_of_mem _ (List.mem_append_left _ (List.mem_of_getElem? (i := 4) rfl))) (gi_sub (fun w h => (List.mem_cons_of_mem _ (List.mem_append_right _ (List.mem_append_right _ (List.mem_append_right _ (List.mem_append_right _ (List.mem_append_right _ (List.mem_append_left _ h)))))))) zg_k127_X10_isDigit)) rfl rfl rfl (by decide +kernel) ⟨Nat.le_of_ble_eq_true rfl, Nat.le_of_ble_eq_true rfl⟩ rfl rfl (Nat.le_of_ble_eq_true rfl) ⟨Nat.le_of_ble_eq_true rfl, Nat.le_of_ble_eq_true rfl⟩ dX10_toNextToken_71 (fun v ty' w' hp hk' => ?_)
      rcases hp with ⟨rfl, rfl⟩ | ⟨c521, c522, c523, c524, rfl, rfl⟩
      · skip
        show GW κ 2 0 0 (wX q d (upd (upd (upd I 2 y501) 4 y504) 3 0) A) 74 [(1, .int y505), (0, .ref (q 1))] [.int 0]
        refine g_if_eq (tgt := 84) (a := 0) hk dX10_toNextToken_74 (by decide) rfl (fun _ => ?_) (fun z9 => absurd (show (0 : Int) = (0 : Int) from by decide) z9)
        refine g_aload_n hk dX10_toNextToken_84 rfl ?_
        refine g_aload_n hk dX10_toNextToken_85 rfl ?_
        refine gX_i2 (v := y501) hk hin10 (List.mem_cons_of_mem _ (List.mem_append_left _ (List.mem_of_getElem? (i := 5) rfl))) dX10_toNextToken_86 rfl ?_
        refine g_iconst (v := 1) hk dX10_toNextToken_89 (by decide) ?_
        have b526l := Int32.le_toInt y501
        have b526h := Int32.toInt_lt y501
        refine g_iadd hk dX10_toNextToken_90 ?_
        refine g_topi (fun y527 ey527 => ?_)
        have hy527 : y527.toInt = y501.toInt + 1 := i32_add ey527 rfl rfl (by omega) (by omega)
        refine pX_i5 hk hin10 (List.mem_cons_of_mem _ (List.mem_append_left _ (List.mem_of_getElem? (i := 0) rfl))) dX10_toNextToken_91 ?_
        refine g_aload_n hk dX10_toNextToken_94 rfl ?_
        refine g_iload_n hk dX10_toNextToken_95 rfl ?_
        refine g_bipush (v := 59) hk dX10_toNextToken_96 (by decide) ?_
        refine g_icmp_ne (tgt := 105) (a := y505.toInt) (b := 59) hk dX10_toNextToken_98 (by decide) rfl rfl (fun c528 => ?_) (fun c528 => ?_)
        · skip
          refine g_iload_n hk dX10_toNextToken_105 rfl ?_
          refine g_bipush (v := 45) hk dX10_toNextToken_106 (by decide) ?_
          refine g_icmp_ne (tgt := 115) (a := y505.toInt) (b := 45) hk dX10_toNextToken_108 (by decide) rfl rfl (fun c529 => ?_) (fun c529 => ?_)
          · skip
            refine g_iconst (v := 5) hk dX10_toNextToken_115 (by decide) ?_
            refine pX_i1 hk hin10 (List.mem_cons_of_mem _ (List.mem_append_left _ (List.mem_of_getElem? (i := 15) rfl))) dX10_toNextToken_116 ?_
            exact g_vret hk hR ⟨(upd (upd (upd (upd (upd I 2 y501) 4 y504) 3 0) 5 y527) 1 5), A, (show Md [1, 2, 3, 4, 5] I (upd (upd (upd (upd (upd I 2 y501) 4 y504) 3 0) 5 y527) 1 5) from (Md.up (Md.up (Md.up (Md.up (Md.up Md.rf rfl) rfl) rfl) rfl) rfl)), (show Md [] A A from Md.rf), ⟨(IvX_f0 (I := I) (A := A) hIv), (IvX_f18 (I := I) (A := A) hIv), (IvX_f30 (I := I) (A := A) hIv), (IvX_f31 (I := I) (A := A) hIv), (IvX_a4 (I := I) (A := A) hIv), (IvX_a9 (I := I) (A := A) hIv), trivial⟩, rfl, rfl⟩ dX10_toNextToken_119
          · skip
            refine g_iconst (v := 4) hk dX10_toNextToken_111 (by decide) ?_
            refine g_goto (tgt := 116) hk dX10_toNextToken_112 (by decide) ?_
            refine pX_i1 hk hin10 (List.mem_cons_of_mem _ (List.mem_append_left _ (List.mem_of_getElem? (i := 15) rfl))) dX10_toNextToken_116 ?_
            exact g_vret hk hR ⟨(upd (upd (upd (upd (upd I 2 y501) 4 y504) 3 0) 5 y527) 1 4), A, (show Md [1, 2, 3, 4, 5] I (upd (upd (upd (upd (upd I 2 y501) 4 y504) 3 0) 5 y527) 1 4) from (Md.up (Md.up (Md.up (Md.up (Md.up Md.rf rfl) rfl) rfl) rfl) rfl)), (show Md [] A A from Md.rf), ⟨(IvX_f0 (I := I) (A := A) hIv), (IvX_f18 (I := I) (A := A) hIv), (IvX_f30 (I := I) (A := A) hIv), (IvX_f31 (I := I) (A := A) hIv), (IvX_a4 (I := I) (A := A) hIv), (IvX_a9 (I := I) (A := A) hIv), trivial⟩, rfl, rfl⟩ dX10_toNextToken_119
        · skip
          refine g_iconst (v := 3) hk dX10_toNextToken_101 (by decide) ?_
          refine g_goto (tgt := 116) hk dX10_toNextToken_102 (by decide) ?_
          refine pX_i1 hk hin10 (List.mem_cons_of_mem _ (List.mem_append_left _ (List.mem_of_getElem? (i := 15) rfl))) dX10_toNextToken_116 ?_
          exact g_vret hk hR ⟨(upd (upd (upd (upd (upd I 2 y501) 4 y504) 3 0) 5 y527) 1 3), A, (show Md [1, 2, 3, 4, 5] I (upd (upd (upd (upd (upd I 2 y501) 4 y504) 3 0) 5 y527) 1 3) from (Md.up (Md.up (Md.up (Md.up (Md.up Md.rf rfl) rfl) rfl) rfl) rfl)), (show Md [] A A from Md.rf), ⟨(IvX_f0 (I := I) (A := A) hIv), (IvX_f18 (I := I) (A := A) hIv), (IvX_f30 (I := I) (A := A) hIv), (IvX_f31 (I := I) (A := A) hIv), (IvX_a4 (I := I) (A := A) hIv), (IvX_a9 (I := I) (A := A) hIv), trivial⟩, rfl, rfl⟩ dX10_toNextToken_119
      · skip
        show GW κ 2 0 0 (wX q d (upd (upd (upd I 2 y501) 4 y504) 3 0) A) 74 [(1, .int y505), (0, .ref (q 1))] [.int 1]
        refine g_if_eq (tgt := 84) (a := 1) hk dX10_toNextToken_74 (by decide) rfl (fun z9 => absurd z9 (show ¬ ((1 : Int) = (0 : Int)) from by decide)) (fun _ => ?_)
        refine g_aload_n hk dX10_toNextToken_77 rfl ?_
        refine g_callV (n := 0) hk (k128_X10_takeDigits l D zt q d (upd (upd (upd I 2 y501) 4 y504) 3 0) A  ⟨(IvX_f0 (I := I) (A := A) hIv), (IvX_f18 (I := I) (A := A) hIv), (IvX_f30 (I := I) (A := A) hIv), (IvX_f31 (I := I) (A := A) hIv), (IvX_a4 (I := I) (A := A) hIv), (IvX_a9 (I := I) (A := A) hIv), trivial⟩) (SP.same _) (fun _ h => h) (gi_V (List.mem_cons_of_mem _ (List.mem_append_left _ (List.mem_of_getElem? (i := 16) rfl))) (List.mem_cons_of_mem _ (List.mem_append_left _ (List.mem_of_getElem? (i := 17) rfl))) (List.mem_cons_of_mem _ (List.mem_append_left _ (List.mem_of_getElem? (i := 18) rfl))) (List.mem_cons_of_mem _ (List.mem_append_left _ (List.mem_of_getElem? (i := 4) rfl))) (gi_sub (fun w h => (List.mem_cons_of_mem _ (List.mem_append_right _ (List.mem_append_right _ (List.mem_append_right _ (List.mem_append_right _ (List.mem_append_right _ (List.mem_append_right _ (List.mem_append_left _ h))))))))) zg_k128_X10_takeDigits)) rfl rfl rfl (by decide +kernel) ⟨Nat.le_of_ble_eq_true rfl, Nat.le_of_ble_eq_true rfl⟩ 1 rfl rfl rfl rfl (Nat.le_of_ble_eq_true rfl) ⟨Nat.le_of_ble_eq_true rfl, Nat.le_of_ble_eq_true rfl⟩ dX10_toNextToken_78 (fun v ty' w' hp hk' => ?_)
        obtain ⟨I619, A619, hI619, hA619, hV619, rfl, rfl⟩ := hp
        show GW κ 2 0 0 (wX q d I619 A619) 81 [(1, .int y505), (0, .ref (q 1))] []
        refine g_goto (tgt := 119) hk dX10_toNextToken_81 (by decide) ?_
        exact g_vret hk hR ⟨I619, A619, (show Md [1, 2, 3, 4, 5] I I619 from (Md.tr (Md.up (Md.up (Md.up Md.rf rfl) rfl) rfl) hI619 rfl)), (show Md [] A A619 from (Md.tr Md.rf hA619 rfl)), hV619, rfl, rfl⟩ dX10_toNextToken_119
    · skip
      show GW κ 2 0 0 (wX q d (upd (upd (upd I 2 y501) 4 y504) 3 0) A) 60 [(1, .int y505), (0, .ref (q 1))] [.int 1]
      refine g_if_eq (tgt := 70) (a := 1) hk dX10_toNextToken_60 (by decide) rfl (fun z9 => absurd z9 (show ¬ ((1 : Int) = (0 : Int)) from by decide)) (fun _ => ?_)
      refine g_aload_n hk dX10_toNextToken_63 rfl ?_
      refine g_callV (n := 0) hk (k129_X10_takeLetters l D zt q d (upd (upd (upd I 2 y501) 4 y504) 3 0) A  ⟨(IvX_f0 (I := I) (A := A) hIv), (IvX_f18 (I := I) (A := A) hIv), (IvX_f30 (I := I) (A := A) hIv), (IvX_f31 (I := I) (A := A) hIv), (IvX_a4 (I := I) (A := A) hIv), (IvX_a9 (I := I) (A := A) hIv), trivial⟩) (SP.same _) (fun _ h => h) (gi_V (List.mem_cons_of_mem _ (List.mem_append_left _ (List.mem_of_getElem? (i := 19) rfl))) (List.mem_cons_of_mem _ (List.mem_append_left _ (List.mem_of_getElem? (i := 20) rfl))) (List.mem_cons_of_mem _ (List.mem_append_left _ (List.mem_of_getElem? (i := 21) rfl))) (List.mem_cons_of_mem _ (List.mem_append_left _ (List.mem_of_getElem? (i := 4) rfl))) (gi_sub (fun w h => (List.mem_cons_of_mem _ (List.mem_append_right _ (List.mem_append_right _ (List.mem_append_right _ (List.mem_append_right _ (List.mem_append_right _ (List.mem_append_right _ (List.mem_append_right _ (List.mem_append_left _ h)))))))))) zg_k129_X10_takeLetters)) rfl rfl rfl (by decide +kernel) ⟨Nat.le_of_ble_eq_true rfl, Nat.le_of_ble_eq_true rfl⟩ 1 rfl rfl rfl rfl (Nat.le_of_ble_eq_true rfl) ⟨Nat.le_of_ble_eq_true rfl, Nat.le_of_ble_eq_true rfl⟩ dX10_toNextToken_64 (fun v ty' w' hp hk' => ?_)
      obtain ⟨I685, A685, hI685, hA685, hV685, rfl, rfl⟩ := hp
      show GW κ 2 0 0 (wX q d I685 A685) 67 [(1, .int y505), (0, .ref (q 1))] []
      refine g_goto (tgt := 119) hk dX10_toNextToken_67 (by decide) ?_
      exact g_vret hk hR ⟨I685, A685, (show Md [1, 2, 3, 4, 5] I I685 from (Md.tr (Md.up (Md.up (Md.up Md.rf rfl) rfl) rfl) hI685 rfl)), (show Md [] A A685 from (Md.tr Md.rf hA685 rfl)), hV685, rfl, rfl⟩ dX10_toNextToken_119
  · skip
    refine g_aload_n hk dX10_toNextToken_40 rfl ?_
    refine g_iconst (v := 0) hk dX10_toNextToken_41 (by decide) ?_
    refine pX_i1 hk hin10 (List.mem_cons_of_mem _ (List.mem_append_left _ (List.mem_of_getElem? (i := 15) rfl))) dX10_toNextToken_42 ?_
    refine g_aload_n hk dX10_toNextToken_45 rfl ?_
    refine g_aload_n hk dX10_toNextToken_46 rfl ?_
    refine gX_i2 (v := y501) hk hin10 (List.mem_cons_of_mem _ (List.mem_append_left _ (List.mem_of_getElem? (i := 5) rfl))) dX10_toNextToken_47 rfl ?_
    refine pX_i5 hk hin10 (List.mem_cons_of_mem _ (List.mem_append_left _ (List.mem_of_getElem? (i := 0) rfl))) dX10_toNextToken_50 ?_
    refine g_goto (tgt := 119) hk dX10_toNextToken_53 (by decide) ?_
    exact g_vret hk hR ⟨(upd (upd (upd (upd (upd I 2 y501) 4 y504) 3 0) 1 0) 5 y501), A, (show Md [1, 2, 3, 4, 5] I (upd (upd (upd (upd (upd I 2 y501) 4 y504) 3 0) 1 0) 5 y501) from (Md.up (Md.up (Md.up (Md.up (Md.up Md.rf rfl) rfl) rfl) rfl) rfl)), (show Md [] A A from Md.rf), ⟨(IvX_f0 (I := I) (A := A) hIv), (IvX_f18 (I := I) (A := A) hIv), (IvX_f30 (I := I) (A := A) hIv), (IvX_f31 (I := I) (A := A) hIv), (IvX_a4 (I := I) (A := A) hIv), (IvX_a9 (I := I) (A := A) hIv), trivial⟩, rfl, rfl⟩ dX10_toNextToken_119
def wo_k122_X10_toFirstToken : List Cond := [Cond.fieldLink RX10 19 "WarpDesk$Tape" "behind" "I", Cond.fieldLink RX10 22 "WarpDesk$Tape" "number" "I", Cond.methodLink RX10 25 yX10_toNextToken, Cond.instanceMethod yX10_toNextToken, Cond.selects RX10 yX10_toNextToken yX10_toNextToken, Cond.initialized RX10]
def wz_k122_X10_toFirstToken : List Cond := .code yX10_toFirstToken cX10_toFirstToken 1 none :: (wo_k122_X10_toFirstToken ++ (wsX100 ++ (wz_k123_X10_toNextToken ++ ([] : List Cond))))
theorem zg_k122_X10_toFirstToken : ∀ w ∈ wz_k122_X10_toFirstToken, goodWord w = true := zg_cons rfl (zg_app (by decide +kernel) (zg_app zgU_wsX100 (zg_app zg_k123_X10_toNextToken zg_nil)))
theorem zi_k122_X10_toFirstToken : ∀ w ∈ wz_k122_X10_toFirstToken, w ∈ lw_tbl := zi_cons zw_557 (zi_app (zi_cons zw_146 (zi_cons zw_144 (zi_cons zw_558 (zi_cons zw_559 (zi_cons zw_560 (zi_cons zw_104 zi_nil)))))) (zi_app inX10 (zi_app zi_k123_X10_toNextToken zi_nil)))
set_option maxHeartbeats 4000000 in
set_option maxRecDepth 100000 in
theorem k122_X10_toFirstToken (l : Launch) (D : va_G) (zt : Nat × Nat × Nat × (Nat → Nat) × (Nat → Nat)) (q : Nat → Nat) (d : Nat → ClassId) (I : Nat → Int32) (A : Nat → Nat → Int32) (hIv : IvX I A) : GM l D zt (tyX d) yX10_toFirstToken wz_k122_X10_toFirstToken ({ frames := 3, cells := 0, slots := 0, locals := 65 } : Room) [.ref (q 1)] (wX q d I A) (fun v _ w' => ∃ (I' : Nat → Int32) (A' : Nat → Nat → Int32), Md [1, 2, 3, 4, 5] I I' ∧ Md [] A A' ∧ IvX I' A' ∧ v = none ∧ w' = wX q d I' A') 0 0 := by
  refine GM.of (cc := cX10_toFirstToken) (maxL := 1) (ret := none) (own := RX10) (lv := [(0, .ref (q 1))]) (by decide) rfl rfl (Nat.le_of_ble_eq_true rfl) rfl (fun κ sz hk hR hN => ?_)
  have hin10 : ∀ w ∈ u_ws RX10 TX10 7, w ∈ wz_k122_X10_toFirstToken := fun w h => (List.mem_cons_of_mem _ (List.mem_append_right _ (List.mem_append_left _ h)))
  refine g_aload_n hk dX10_toFirstToken_0 rfl ?_
  refine g_iconst (v := 0) hk dX10_toFirstToken_1 (by decide) ?_
  refine pX_i5 hk hin10 (List.mem_cons_of_mem _ (List.mem_append_left _ (List.mem_of_getElem? (i := 0) rfl))) dX10_toFirstToken_2 ?_
  refine g_aload_n hk dX10_toFirstToken_5 rfl ?_
  refine g_iconst (v := 0) hk dX10_toFirstToken_6 (by decide) ?_
  refine pX_i4 hk hin10 (List.mem_cons_of_mem _ (List.mem_append_left _ (List.mem_of_getElem? (i := 1) rfl))) dX10_toFirstToken_7 ?_
  refine g_aload_n hk dX10_toFirstToken_10 rfl ?_
  refine g_callV (n := 0) hk (k123_X10_toNextToken l D zt q d (upd (upd I 5 0) 4 0) A  ⟨(IvX_f0 (I := I) (A := A) hIv), (IvX_f18 (I := I) (A := A) hIv), (IvX_f30 (I := I) (A := A) hIv), (IvX_f31 (I := I) (A := A) hIv), (IvX_a4 (I := I) (A := A) hIv), (IvX_a9 (I := I) (A := A) hIv), trivial⟩) (SP.same _) (fun _ h => h) (gi_V (List.mem_cons_of_mem _ (List.mem_append_left _ (List.mem_of_getElem? (i := 2) rfl))) (List.mem_cons_of_mem _ (List.mem_append_left _ (List.mem_of_getElem? (i := 3) rfl))) (List.mem_cons_of_mem _ (List.mem_append_left _ (List.mem_of_getElem? (i := 4) rfl))) (List.mem_cons_of_mem _ (List.mem_append_left _ (List.mem_of_getElem? (i := 5) rfl))) (gi_sub (fun w h => (List.mem_cons_of_mem _ (List.mem_append_right _ (List.mem_append_right _ (List.mem_append_left _ h))))) zg_k123_X10_toNextToken)) rfl rfl rfl (by decide +kernel) ⟨Nat.le_of_ble_eq_true rfl, Nat.le_of_ble_eq_true rfl⟩ 1 rfl rfl rfl rfl (Nat.le_of_ble_eq_true rfl) ⟨Nat.le_of_ble_eq_true rfl, Nat.le_of_ble_eq_true rfl⟩ dX10_toFirstToken_11 (fun v ty' w' hp hk' => ?_)
  obtain ⟨I687, A687, hI687, hA687, hV687, rfl, rfl⟩ := hp
  show GW κ 1 0 0 (wX q d I687 A687) 14 [(0, .ref (q 1))] []
  exact g_vret hk hR ⟨I687, A687, (show Md [1, 2, 3, 4, 5] I I687 from (Md.tr (Md.up (Md.up Md.rf rfl) rfl) hI687 rfl)), (show Md [] A A687 from (Md.tr Md.rf hA687 rfl)), hV687, rfl, rfl⟩ dX10_toFirstToken_14
def wo_k118_X5_begin : List Cond := [Cond.fieldLink RX5 12 "WarpDesk$Reader" "draft" "LWarpDesk$Stand;", Cond.methodLink RX5 81 yX8_clear, Cond.instanceMethod yX8_clear, Cond.selects RX8 yX8_clear yX8_clear, Cond.initialized RX8, Cond.fieldLink RX5 21 "WarpDesk$Reader" "queries" "LWarpDesk$Queries;", Cond.fieldLink RX5 84 "WarpDesk$Queries" "size" "I", Cond.fieldLink RX5 75 "WarpDesk$Reader" "state" "I", Cond.fieldLink RX5 87 "WarpDesk$Reader" "isNegative" "Z", Cond.fieldLink RX5 32 "WarpDesk$Reader" "told" "I", Cond.fieldLink RX5 49 "WarpDesk$Reader" "isStopped" "Z", Cond.fieldLink RX5 78 "WarpDesk$Reader" "fault" "I", Cond.fieldLink RX5 36 "WarpDesk$Reader" "faultPlace" "I", Cond.fieldLink RX5 39 "WarpDesk$Reader" "faultCause" "I", Cond.fieldLink RX5 42 "WarpDesk$Reader" "tape" "LWarpDesk$Tape;", Cond.methodLink RX5 90 yX10_toFirstToken, Cond.instanceMethod yX10_toFirstToken, Cond.selects RX10 yX10_toFirstToken yX10_toFirstToken, Cond.initialized RX10]
def wz_k118_X5_begin : List Cond := .code yX5_begin cX5_begin 1 none :: (wo_k118_X5_begin ++ (wsX40 ++ (wsX50 ++ (wz_k119_X8_clear ++ (wz_k122_X10_toFirstToken ++ ([] : List Cond))))))
theorem zg_k118_X5_begin : ∀ w ∈ wz_k118_X5_begin, goodWord w = true := zg_cons rfl (zg_app (by decide +kernel) (zg_app zgU_wsX40 (zg_app zgU_wsX50 (zg_app zg_k119_X8_clear (zg_app zg_k122_X10_toFirstToken zg_nil)))))
theorem zi_k118_X5_begin : ∀ w ∈ wz_k118_X5_begin, w ∈ lw_tbl := zi_cons zw_541 (zi_app (zi_cons zw_231 (zi_cons zw_542 (zi_cons zw_543 (zi_cons zw_544 (zi_cons zw_106 (zi_cons zw_233 (zi_cons zw_220 (zi_cons zw_237 (zi_cons zw_239 (zi_cons zw_240 (zi_cons zw_241 (zi_cons zw_242 (zi_cons zw_243 (zi_cons zw_245 (zi_cons zw_230 (zi_cons zw_554 (zi_cons zw_555 (zi_cons zw_556 (zi_cons zw_104 zi_nil))))))))))))))))))) (zi_app inX4 (zi_app inX5 (zi_app zi_k119_X8_clear (zi_app zi_k122_X10_toFirstToken zi_nil)))))
set_option maxHeartbeats 4000000 in
set_option maxRecDepth 100000 in
theorem k118_X5_begin (l : Launch) (D : va_G) (zt : Nat × Nat × Nat × (Nat → Nat) × (Nat → Nat)) (q : Nat → Nat) (d : Nat → ClassId) (I : Nat → Int32) (A : Nat → Nat → Int32) (hIv : IvX I A) : GM l D zt (tyX d) yX5_begin wz_k118_X5_begin ({ frames := 4, cells := 0, slots := 0, locals := 85 } : Room) [.ref (q 3)] (wX q d I A) (fun v _ w' => ∃ (I' : Nat → Int32) (A' : Nat → Nat → Int32), Md [1, 2, 3, 4, 5, 6, 8, 9, 10, 11, 12, 13, 14, 16] I I' ∧ Md [2] A A' ∧ IvX I' A' ∧ v = none ∧ w' = wX q d I' A') 0 0 := by
  refine GM.of (cc := cX5_begin) (maxL := 1) (ret := none) (own := RX5) (lv := [(0, .ref (q 3))]) (by decide) rfl rfl (Nat.le_of_ble_eq_true rfl) rfl (fun κ sz hk hR hN => ?_)
  have hin4 : ∀ w ∈ u_ws RX4 TX4 3, w ∈ wz_k118_X5_begin := fun w h => (List.mem_cons_of_mem _ (List.mem_append_right _ (List.mem_append_left _ h)))
  have hin5 : ∀ w ∈ u_ws RX5 TX5 13, w ∈ wz_k118_X5_begin := fun w h => (List.mem_cons_of_mem _ (List.mem_append_right _ (List.mem_append_right _ (List.mem_append_left _ h))))
  refine g_aload_n hk dX5_begin_0 rfl ?_
  refine gX_r3_1 hk hin5 (List.mem_cons_of_mem _ (List.mem_append_left _ (List.mem_of_getElem? (i := 0) rfl))) dX5_begin_1 ?_
  refine g_callV (n := 0) hk (k119_X8_clear l D zt q d I A  hIv) (SP.same _) (fun _ h => h) (gi_V (List.mem_cons_of_mem _ (List.mem_append_left _ (List.mem_of_getElem? (i := 1) rfl))) (List.mem_cons_of_mem _ (List.mem_append_left _ (List.mem_of_getElem? (i := 2) rfl))) (List.mem_cons_of_mem _ (List.mem_append_left _ (List.mem_of_getElem? (i := 3) rfl))) (List.mem_cons_of_mem _ (List.mem_append_left _ (List.mem_of_getElem? (i := 4) rfl))) (gi_sub (fun w h => (List.mem_cons_of_mem _ (List.mem_append_right _ (List.mem_append_right _ (List.mem_append_right _ (List.mem_append_left _ h)))))) zg_k119_X8_clear)) rfl rfl rfl (by decide +kernel) ⟨Nat.le_of_ble_eq_true rfl, Nat.le_of_ble_eq_true rfl⟩ 4 rfl rfl rfl rfl (Nat.le_of_ble_eq_true rfl) ⟨Nat.le_of_ble_eq_true rfl, Nat.le_of_ble_eq_true rfl⟩ dX5_begin_4 (fun v ty' w' hp hk' => ?_)
  obtain ⟨I446, A446, hI446, hA446, hV446, rfl, rfl⟩ := hp
  show GW κ 1 0 0 (wX q d I446 A446) 7 [(0, .ref (q 3))] []
  refine g_aload_n hk dX5_begin_7 rfl ?_
  refine gX_r3_2 hk hin5 (List.mem_cons_of_mem _ (List.mem_append_left _ (List.mem_of_getElem? (i := 5) rfl))) dX5_begin_8 ?_
  refine g_iconst (v := 0) hk dX5_begin_11 (by decide) ?_
  refine pX_i16 hk hin4 (List.mem_cons_of_mem _ (List.mem_append_left _ (List.mem_of_getElem? (i := 6) rfl))) dX5_begin_12 ?_
  refine g_aload_n hk dX5_begin_15 rfl ?_
  refine g_iconst (v := 0) hk dX5_begin_16 (by decide) ?_
  refine pX_i6 hk hin5 (List.mem_cons_of_mem _ (List.mem_append_left _ (List.mem_of_getElem? (i := 7) rfl))) dX5_begin_17 ?_
  refine g_aload_n hk dX5_begin_20 rfl ?_
  refine g_iconst (v := 0) hk dX5_begin_21 (by decide) ?_
  refine pX_i8 hk hin5 (List.mem_cons_of_mem _ (List.mem_append_left _ (List.mem_of_getElem? (i := 8) rfl))) ⟨rfl, rfl⟩ dX5_begin_22 ?_
  refine g_aload_n hk dX5_begin_25 rfl ?_
  refine g_bipush (v := (-2)) hk dX5_begin_26 (by decide) ?_
  refine pX_i9 hk hin5 (List.mem_cons_of_mem _ (List.mem_append_left _ (List.mem_of_getElem? (i := 9) rfl))) dX5_begin_28 ?_
  refine g_aload_n hk dX5_begin_31 rfl ?_
  refine g_iconst (v := 0) hk dX5_begin_32 (by decide) ?_
  refine pX_i10 hk hin5 (List.mem_cons_of_mem _ (List.mem_append_left _ (List.mem_of_getElem? (i := 10) rfl))) ⟨rfl, rfl⟩ dX5_begin_33 ?_
  refine g_aload_n hk dX5_begin_36 rfl ?_
  refine g_iconst (v := 0) hk dX5_begin_37 (by decide) ?_
  refine pX_i11 hk hin5 (List.mem_cons_of_mem _ (List.mem_append_left _ (List.mem_of_getElem? (i := 11) rfl))) dX5_begin_38 ?_
  refine g_aload_n hk dX5_begin_41 rfl ?_
  refine g_iconst (v := (-1)) hk dX5_begin_42 (by decide) ?_
  refine pX_i12 hk hin5 (List.mem_cons_of_mem _ (List.mem_append_left _ (List.mem_of_getElem? (i := 12) rfl))) dX5_begin_43 ?_
  refine g_aload_n hk dX5_begin_46 rfl ?_
  refine g_iconst (v := (-1)) hk dX5_begin_47 (by decide) ?_
  refine pX_i13 hk hin5 (List.mem_cons_of_mem _ (List.mem_append_left _ (List.mem_of_getElem? (i := 13) rfl))) dX5_begin_48 ?_
  refine g_aload_n hk dX5_begin_51 rfl ?_
  refine gX_r3_0 hk hin5 (List.mem_cons_of_mem _ (List.mem_append_left _ (List.mem_of_getElem? (i := 14) rfl))) dX5_begin_52 ?_
  refine g_callV (n := 0) hk (k122_X10_toFirstToken l D zt q d (upd (upd (upd (upd (upd (upd (upd (upd I446 16 0) 6 0) 8 0) 9 (-2)) 10 0) 11 0) 12 (-1)) 13 (-1)) A446  ⟨(IvX_f0 (I := I446) (A := A446) hV446), (IvX_f18 (I := I446) (A := A446) hV446), (IvX_f30 (I := I446) (A := A446) hV446), (IvX_f31 (I := I446) (A := A446) hV446), (IvX_a4 (I := I446) (A := A446) hV446), (IvX_a9 (I := I446) (A := A446) hV446), trivial⟩) (SP.same _) (fun _ h => h) (gi_V (List.mem_cons_of_mem _ (List.mem_append_left _ (List.mem_of_getElem? (i := 15) rfl))) (List.mem_cons_of_mem _ (List.mem_append_left _ (List.mem_of_getElem? (i := 16) rfl))) (List.mem_cons_of_mem _ (List.mem_append_left _ (List.mem_of_getElem? (i := 17) rfl))) (List.mem_cons_of_mem _ (List.mem_append_left _ (List.mem_of_getElem? (i := 18) rfl))) (gi_sub (fun w h => (List.mem_cons_of_mem _ (List.mem_append_right _ (List.mem_append_right _ (List.mem_append_right _ (List.mem_append_right _ (List.mem_append_left _ h))))))) zg_k122_X10_toFirstToken)) rfl rfl rfl (by decide +kernel) ⟨Nat.le_of_ble_eq_true rfl, Nat.le_of_ble_eq_true rfl⟩ 1 rfl rfl rfl rfl (Nat.le_of_ble_eq_true rfl) ⟨Nat.le_of_ble_eq_true rfl, Nat.le_of_ble_eq_true rfl⟩ dX5_begin_55 (fun v ty' w' hp hk' => ?_)
  obtain ⟨I689, A689, hI689, hA689, hV689, rfl, rfl⟩ := hp
  show GW κ 1 0 0 (wX q d I689 A689) 58 [(0, .ref (q 3))] []
  exact g_vret hk hR ⟨I689, A689, (show Md [1, 2, 3, 4, 5, 6, 8, 9, 10, 11, 12, 13, 14, 16] I I689 from (Md.tr (Md.up (Md.up (Md.up (Md.up (Md.up (Md.up (Md.up (Md.up (Md.tr Md.rf hI446 rfl) rfl) rfl) rfl) rfl) rfl) rfl) rfl) rfl) hI689 rfl)), (show Md [2] A A689 from (Md.tr (Md.tr Md.rf hA446 rfl) hA689 rfl)), hV689, rfl, rfl⟩ dX5_begin_58
def wo_k131_X5_keepFault : List Cond := [Cond.fieldLink RX5 78 "WarpDesk$Reader" "fault" "I", Cond.fieldLink RX5 42 "WarpDesk$Reader" "tape" "LWarpDesk$Tape;", Cond.fieldLink RX5 96 "WarpDesk$Tape" "start" "I", Cond.fieldLink RX5 36 "WarpDesk$Reader" "faultPlace" "I", Cond.fieldLink RX5 32 "WarpDesk$Reader" "told" "I", Cond.fieldLink RX5 39 "WarpDesk$Reader" "faultCause" "I"]
def wz_k131_X5_keepFault : List Cond := .code yX5_keepFault cX5_keepFault 2 none :: (wo_k131_X5_keepFault ++ (wsX50 ++ (wsX100 ++ ([] : List Cond))))
theorem zg_k131_X5_keepFault : ∀ w ∈ wz_k131_X5_keepFault, goodWord w = true := zg_cons rfl (zg_app (by decide +kernel) (zg_app zgU_wsX50 (zg_app zgU_wsX100 zg_nil)))
theorem zi_k131_X5_keepFault : ∀ w ∈ wz_k131_X5_keepFault, w ∈ lw_tbl := zi_cons zw_688 (zi_app (zi_cons zw_242 (zi_cons zw_230 (zi_cons zw_141 (zi_cons zw_243 (zi_cons zw_240 (zi_cons zw_245 zi_nil)))))) (zi_app inX5 (zi_app inX10 zi_nil)))
set_option maxHeartbeats 4000000 in
set_option maxRecDepth 100000 in
theorem k131_X5_keepFault (l : Launch) (D : va_G) (zt : Nat × Nat × Nat × (Nat → Nat) × (Nat → Nat)) (q : Nat → Nat) (d : Nat → ClassId) (I : Nat → Int32) (A : Nat → Nat → Int32) (z1 : Int32) (hIv : IvX I A) : GM l D zt (tyX d) yX5_keepFault wz_k131_X5_keepFault ({ frames := 0, cells := 0, slots := 0, locals := 0 } : Room) [.ref (q 3), .int z1] (wX q d I A) (fun v _ w' => ∃ (I' : Nat → Int32) (A' : Nat → Nat → Int32), Md [11, 12, 13] I I' ∧ Md [] A A' ∧ IvX I' A' ∧ v = none ∧ w' = wX q d I' A') 0 0 := by
  refine GM.of (cc := cX5_keepFault) (maxL := 2) (ret := none) (own := RX5) (lv := [(0, .ref (q 3)), (1, .int z1)]) (by decide) rfl rfl (Nat.le_of_ble_eq_true rfl) rfl (fun κ sz hk hR hN => ?_)
  have hin5 : ∀ w ∈ u_ws RX5 TX5 13, w ∈ wz_k131_X5_keepFault := fun w h => (List.mem_cons_of_mem _ (List.mem_append_right _ (List.mem_append_left _ h)))
  have hin10 : ∀ w ∈ u_ws RX10 TX10 7, w ∈ wz_k131_X5_keepFault := fun w h => (List.mem_cons_of_mem _ (List.mem_append_right _ (List.mem_append_right _ (List.mem_append_left _ h))))
  refine g_aload_n hk dX5_keepFault_0 rfl ?_
  refine g_iload_n hk dX5_keepFault_1 rfl ?_
  refine pX_i11 hk hin5 (List.mem_cons_of_mem _ (List.mem_append_left _ (List.mem_of_getElem? (i := 0) rfl))) dX5_keepFault_2 ?_
  refine g_aload_n hk dX5_keepFault_5 rfl ?_
  refine g_aload_n hk dX5_keepFault_6 rfl ?_
  refine gX_r3_0 hk hin5 (List.mem_cons_of_mem _ (List.mem_append_left _ (List.mem_of_getElem? (i := 1) rfl))) dX5_keepFault_7 ?_
  refine gX_i2 (v := (I 2)) hk hin10 (List.mem_cons_of_mem _ (List.mem_append_left _ (List.mem_of_getElem? (i := 2) rfl))) dX5_keepFault_10 rfl ?_
  refine pX_i12 hk hin5 (List.mem_cons_of_mem _ (List.mem_append_left _ (List.mem_of_getElem? (i := 3) rfl))) dX5_keepFault_13 ?_
  refine g_aload_n hk dX5_keepFault_16 rfl ?_
  refine g_aload_n hk dX5_keepFault_17 rfl ?_
  refine gX_i9 (v := (I 9)) hk hin5 (List.mem_cons_of_mem _ (List.mem_append_left _ (List.mem_of_getElem? (i := 4) rfl))) dX5_keepFault_18 rfl ?_
  refine pX_i13 hk hin5 (List.mem_cons_of_mem _ (List.mem_append_left _ (List.mem_of_getElem? (i := 5) rfl))) dX5_keepFault_21 ?_
  exact g_vret hk hR ⟨(upd (upd (upd I 11 z1) 12 (I 2)) 13 (I 9)), A, (show Md [11, 12, 13] I (upd (upd (upd I 11 z1) 12 (I 2)) 13 (I 9)) from (Md.up (Md.up (Md.up Md.rf rfl) rfl) rfl)), (show Md [] A A from Md.rf), ⟨(IvX_f0 (I := I) (A := A) hIv), (IvX_f18 (I := I) (A := A) hIv), (IvX_f30 (I := I) (A := A) hIv), (IvX_f31 (I := I) (A := A) hIv), (IvX_a4 (I := I) (A := A) hIv), (IvX_a9 (I := I) (A := A) hIv), trivial⟩, rfl, rfl⟩ dX5_keepFault_24
def wo_k130_X5_stop : List Cond := [Cond.fieldLink RX5 49 "WarpDesk$Reader" "isStopped" "Z", Cond.methodLink RX5 93 yX5_keepFault, Cond.instanceMethod yX5_keepFault, Cond.selects RX5 yX5_keepFault yX5_keepFault, Cond.initialized RX5]
def wz_k130_X5_stop : List Cond := .code yX5_stop cX5_stop 2 none :: (wo_k130_X5_stop ++ (wsX50 ++ (wz_k131_X5_keepFault ++ ([] : List Cond))))
theorem zg_k130_X5_stop : ∀ w ∈ wz_k130_X5_stop, goodWord w = true := zg_cons rfl (zg_app (by decide +kernel) (zg_app zgU_wsX50 (zg_app zg_k131_X5_keepFault zg_nil)))
theorem zi_k130_X5_stop : ∀ w ∈ wz_k130_X5_stop, w ∈ lw_tbl := zi_cons zw_684 (zi_app (zi_cons zw_241 (zi_cons zw_685 (zi_cons zw_687 (zi_cons zw_13 (zi_cons zw_105 zi_nil))))) (zi_app inX5 (zi_app zi_k131_X5_keepFault zi_nil)))
set_option maxHeartbeats 4000000 in
set_option maxRecDepth 100000 in
theorem k130_X5_stop (l : Launch) (D : va_G) (zt : Nat × Nat × Nat × (Nat → Nat) × (Nat → Nat)) (q : Nat → Nat) (d : Nat → ClassId) (I : Nat → Int32) (A : Nat → Nat → Int32) (z1 : Int32) (hIv : IvX I A) : GM l D zt (tyX d) yX5_stop wz_k130_X5_stop ({ frames := 1, cells := 0, slots := 0, locals := 21 } : Room) [.ref (q 3), .int z1] (wX q d I A) (fun v _ w' => ∃ (I' : Nat → Int32) (A' : Nat → Nat → Int32), Md [10, 11, 12, 13] I I' ∧ Md [] A A' ∧ IvX I' A' ∧ v = none ∧ w' = wX q d I' A') 0 0 := by
  refine GM.of (cc := cX5_stop) (maxL := 2) (ret := none) (own := RX5) (lv := [(0, .ref (q 3)), (1, .int z1)]) (by decide) rfl rfl (Nat.le_of_ble_eq_true rfl) rfl (fun κ sz hk hR hN => ?_)
  have hin5 : ∀ w ∈ u_ws RX5 TX5 13, w ∈ wz_k130_X5_stop := fun w h => (List.mem_cons_of_mem _ (List.mem_append_right _ (List.mem_append_left _ h)))
  refine g_aload_n hk dX5_stop_0 rfl ?_
  refine g_iconst (v := 1) hk dX5_stop_1 (by decide) ?_
  refine pX_i10 hk hin5 (List.mem_cons_of_mem _ (List.mem_append_left _ (List.mem_of_getElem? (i := 0) rfl))) ⟨rfl, rfl⟩ dX5_stop_2 ?_
  refine g_aload_n hk dX5_stop_5 rfl ?_
  refine g_iload_n hk dX5_stop_6 rfl ?_
  refine g_callV (n := 1) hk (k131_X5_keepFault l D zt q d (upd I 10 1) A z1 ⟨(IvX_f0 (I := I) (A := A) hIv), (IvX_f18 (I := I) (A := A) hIv), (IvX_f30 (I := I) (A := A) hIv), (IvX_f31 (I := I) (A := A) hIv), (IvX_a4 (I := I) (A := A) hIv), (IvX_a9 (I := I) (A := A) hIv), trivial⟩) (SP.same _) (fun _ h => h) (gi_V (List.mem_cons_of_mem _ (List.mem_append_left _ (List.mem_of_getElem? (i := 1) rfl))) (List.mem_cons_of_mem _ (List.mem_append_left _ (List.mem_of_getElem? (i := 2) rfl))) (List.mem_cons_of_mem _ (List.mem_append_left _ (List.mem_of_getElem? (i := 3) rfl))) (List.mem_cons_of_mem _ (List.mem_append_left _ (List.mem_of_getElem? (i := 4) rfl))) (gi_sub (fun w h => (List.mem_cons_of_mem _ (List.mem_append_right _ (List.mem_append_right _ (List.mem_append_left _ h))))) zg_k131_X5_keepFault)) rfl rfl rfl (by decide +kernel) ⟨Nat.le_of_ble_eq_true rfl, Nat.le_of_ble_eq_true rfl⟩ 3 rfl rfl rfl rfl (Nat.le_of_ble_eq_true rfl) ⟨Nat.le_of_ble_eq_true rfl, Nat.le_of_ble_eq_true rfl⟩ dX5_stop_7 (fun v ty' w' hp hk' => ?_)
  obtain ⟨I701, A701, hI701, hA701, hV701, rfl, rfl⟩ := hp
  show GW κ 2 0 0 (wX q d I701 A701) 10 [(0, .ref (q 3)), (1, .int z1)] []
  exact g_vret hk hR ⟨I701, A701, (show Md [10, 11, 12, 13] I I701 from (Md.tr (Md.up Md.rf rfl) hI701 rfl)), (show Md [] A A701 from (Md.tr Md.rf hA701 rfl)), hV701, rfl, rfl⟩ dX5_stop_10
def wo_k135_X10_lengthAtHand : List Cond := [Cond.fieldLink RX10 19 "WarpDesk$Tape" "behind" "I", Cond.fieldLink RX10 32 "WarpDesk$Tape" "start" "I"]
def wz_k135_X10_lengthAtHand : List Cond := .code yX10_lengthAtHand cX10_lengthAtHand 1 (some .int) :: (wo_k135_X10_lengthAtHand ++ (wsX100 ++ ([] : List Cond)))
theorem zg_k135_X10_lengthAtHand : ∀ w ∈ wz_k135_X10_lengthAtHand, goodWord w = true := zg_cons rfl (zg_app (by decide +kernel) (zg_app zgU_wsX100 zg_nil))
theorem zi_k135_X10_lengthAtHand : ∀ w ∈ wz_k135_X10_lengthAtHand, w ∈ lw_tbl := zi_cons zw_600 (zi_app (zi_cons zw_146 (zi_cons zw_140 zi_nil)) (zi_app inX10 zi_nil))
set_option maxHeartbeats 4000000 in
set_option maxRecDepth 100000 in
theorem k135_X10_lengthAtHand (l : Launch) (D : va_G) (zt : Nat × Nat × Nat × (Nat → Nat) × (Nat → Nat)) (q : Nat → Nat) (d : Nat → ClassId) (I : Nat → Int32) (A : Nat → Nat → Int32) (hIv : IvX I A) : GM l D zt (tyX d) yX10_lengthAtHand wz_k135_X10_lengthAtHand ({ frames := 0, cells := 0, slots := 0, locals := 0 } : Room) [.ref (q 1)] (wX q d I A) (fun v _ w' => ∃ y0 : Int32, v = some (.int y0) ∧ w' = wX q d I A) 0 0 := by
  refine GM.of (cc := cX10_lengthAtHand) (maxL := 1) (ret := (some .int)) (own := RX10) (lv := [(0, .ref (q 1))]) (by decide) rfl rfl (Nat.le_of_ble_eq_true rfl) rfl (fun κ sz hk hR hN => ?_)
  have hin10 : ∀ w ∈ u_ws RX10 TX10 7, w ∈ wz_k135_X10_lengthAtHand := fun w h => (List.mem_cons_of_mem _ (List.mem_append_right _ (List.mem_append_left _ h)))
  refine g_aload_n hk dX10_lengthAtHand_0 rfl ?_
  refine gX_i5 (v := (I 5)) hk hin10 (List.mem_cons_of_mem _ (List.mem_append_left _ (List.mem_of_getElem? (i := 0) rfl))) dX10_lengthAtHand_1 rfl ?_
  refine g_aload_n hk dX10_lengthAtHand_4 rfl ?_
  refine gX_i2 (v := (I 2)) hk hin10 (List.mem_cons_of_mem _ (List.mem_append_left _ (List.mem_of_getElem? (i := 1) rfl))) dX10_lengthAtHand_5 rfl ?_
  have b715l := Int32.le_toInt (I 5)
  have b715h := Int32.toInt_lt (I 5)
  have b716l := Int32.le_toInt (I 2)
  have b716h := Int32.toInt_lt (I 2)
  refine g_isub hk dX10_lengthAtHand_8 ?_
  refine g_topi (fun y717 ey717 => ?_)
  have hy717 := i32_sub0 ey717
  have b718l := Int32.le_toInt y717
  have b718h := Int32.toInt_lt y717
  exact g_iret hk hR rfl ⟨y717, rfl, rfl⟩ dX10_lengthAtHand_9
def wo_k137_J0_coder_7d493 : List Cond := [Cond.fieldLink RJ0 38 "java/lang/String" "COMPACT_STRINGS" "Z", Cond.fieldLink RJ0 15 "java/lang/String" "coder" "B"]
def wz_k137_J0_coder_7d493 : List Cond := .code yJ0_coder_7d493 cJ0_coder_7d493 1 (some .byte) :: (wo_k137_J0_coder_7d493 ++ ([] : List Cond))
theorem zg_k137_J0_coder_7d493 : ∀ w ∈ wz_k137_J0_coder_7d493, goodWord w = true := zg_cons rfl (zg_app (by decide +kernel) zg_nil)
theorem zi_k137_J0_coder_7d493 : ∀ w ∈ wz_k137_J0_coder_7d493, w ∈ lw_tbl := zi_cons zw_608 (zi_app (zi_cons zw_609 (zi_cons zw_1952 zi_nil)) zi_nil)
set_option maxHeartbeats 4000000 in
set_option maxRecDepth 100000 in
theorem k137_J0_coder_7d493 (l : Launch) (D : va_G) (zt : Nat × Nat × Nat × (Nat → Nat) × (Nat → Nat)) (i : Nat) (hi : i < 13) (q : Nat → Nat) (d : Nat → ClassId) (I : Nat → Int32) (A : Nat → Nat → Int32) (hIv : IvX I A) : GM l D zt (tyX d) yJ0_coder_7d493 wz_k137_J0_coder_7d493 ({ frames := 0, cells := 0, slots := 0, locals := 0 } : Room) [.ref (zt.2.2.2.1 i)] (wX q d I A) (fun v _ w' => v = some (.int 0) ∧ w' = wX q d I A) 0 0 := by
  refine GM.of (cc := cJ0_coder_7d493) (maxL := 1) (ret := (some .byte)) (own := RJ0) (lv := [(0, .ref (zt.2.2.2.1 i))]) (by decide) rfl rfl (Nat.le_of_ble_eq_true rfl) rfl (fun κ sz hk hR hN => ?_)
  refine g_getsC hk (List.mem_cons_of_mem _ (List.mem_append_left _ (List.mem_of_getElem? (i := 0) rfl))) dJ0_coder_7d493_0 ?_
  refine g_if_eq (tgt := 13) (a := 1) hk dJ0_coder_7d493_3 (by decide) rfl (fun z9 => absurd z9 (show ¬ ((1 : Int) = (0 : Int)) from by decide)) (fun _ => ?_)
  refine g_aload_n hk dJ0_coder_7d493_6 rfl ?_
  refine g_strC hk i hi (List.mem_cons_of_mem _ (List.mem_append_left _ (List.mem_of_getElem? (i := 1) rfl))) dJ0_coder_7d493_7 ?_
  refine g_goto (tgt := 14) hk dJ0_coder_7d493_10 (by decide) ?_
  exact g_iret hk hR rfl ⟨rfl, rfl⟩ dJ0_coder_7d493_14
def wo_k136_J0_length_8abf5 : List Cond := [Cond.fieldLink RJ0 9 "java/lang/String" "value" "[B", Cond.methodLink RJ0 335 yJ0_coder_7d493, Cond.instanceMethod yJ0_coder_7d493, Cond.selects RJ0 yJ0_coder_7d493 yJ0_coder_7d493, Cond.initialized RJ0]
def wz_k136_J0_length_8abf5 : List Cond := .code yJ0_length_8abf5 cJ0_length_8abf5 1 (some .int) :: (wo_k136_J0_length_8abf5 ++ (wz_k137_J0_coder_7d493 ++ ([] : List Cond)))
theorem zg_k136_J0_length_8abf5 : ∀ w ∈ wz_k136_J0_length_8abf5, goodWord w = true := zg_cons rfl (zg_app (by decide +kernel) (zg_app zg_k137_J0_coder_7d493 zg_nil))
theorem zi_k136_J0_length_8abf5 : ∀ w ∈ wz_k136_J0_length_8abf5, w ∈ lw_tbl := zi_cons zw_604 (zi_app (zi_cons zw_1951 (zi_cons zw_605 (zi_cons zw_606 (zi_cons zw_607 (zi_cons zw_116 zi_nil))))) (zi_app zi_k137_J0_coder_7d493 zi_nil))
set_option maxHeartbeats 4000000 in
set_option maxRecDepth 100000 in
theorem k136_J0_length_8abf5 (l : Launch) (D : va_G) (zt : Nat × Nat × Nat × (Nat → Nat) × (Nat → Nat)) (i : Nat) (hi : i < 13) (q : Nat → Nat) (d : Nat → ClassId) (I : Nat → Int32) (A : Nat → Nat → Int32) (hIv : IvX I A) : GM l D zt (tyX d) yJ0_length_8abf5 wz_k136_J0_length_8abf5 ({ frames := 1, cells := 0, slots := 0, locals := 20 } : Room) [.ref (zt.2.2.2.1 i)] (wX q d I A) (fun v _ w' => v = some (.int (nI (lenS.getD i 0))) ∧ w' = wX q d I A) 0 0 := by
  refine GM.of (cc := cJ0_length_8abf5) (maxL := 1) (ret := (some .int)) (own := RJ0) (lv := [(0, .ref (zt.2.2.2.1 i))]) (by decide) rfl rfl (Nat.le_of_ble_eq_true rfl) rfl (fun κ sz hk hR hN => ?_)
  refine g_aload_n hk dJ0_length_8abf5_0 rfl ?_
  refine g_strV hk i hi (List.mem_cons_of_mem _ (List.mem_append_left _ (List.mem_of_getElem? (i := 0) rfl))) dJ0_length_8abf5_1 ?_
  have f720 := lenS_le i hi
  refine g_strN hk i hi dJ0_length_8abf5_4 ?_
  refine g_aload_n hk dJ0_length_8abf5_5 rfl ?_
  refine g_callVS (n := 0) i hi hk (k137_J0_coder_7d493 l D zt i hi q d I A  hIv) (SP.same _) (fun _ h => h) (gi_V (List.mem_cons_of_mem _ (List.mem_append_left _ (List.mem_of_getElem? (i := 1) rfl))) (List.mem_cons_of_mem _ (List.mem_append_left _ (List.mem_of_getElem? (i := 2) rfl))) (List.mem_cons_of_mem _ (List.mem_append_left _ (List.mem_of_getElem? (i := 3) rfl))) (List.mem_cons_of_mem _ (List.mem_append_left _ (List.mem_of_getElem? (i := 4) rfl))) (gi_sub (fun w h => (List.mem_cons_of_mem _ (List.mem_append_right _ (List.mem_append_left _ h)))) zg_k137_J0_coder_7d493)) rfl rfl rfl (by decide +kernel) ⟨Nat.le_of_ble_eq_true rfl, Nat.le_of_ble_eq_true rfl⟩ rfl rfl (Nat.le_of_ble_eq_true rfl) ⟨Nat.le_of_ble_eq_true rfl, Nat.le_of_ble_eq_true rfl⟩ dJ0_length_8abf5_6 (fun v ty' w' hp hk' => ?_)
  obtain ⟨rfl, rfl⟩ := hp
  show GW κ 1 0 0 (wX q d I A) 9 [(0, .ref (zt.2.2.2.1 i))] [.int 0, .int (nI (lenS.getD i 0))]
  refine g_ishr hk dJ0_length_8abf5_9 ?_
  refine g_norm (v := (nI (lenS.getD i 0))) (sc_shr0 (n := lenS.getD i 0) (by omega)) ?_
  exact g_iret hk hR rfl ⟨rfl, rfl⟩ dJ0_length_8abf5_10
def wo_k139_J0_isLatin1_aae02 : List Cond := [Cond.fieldLink RJ0 38 "java/lang/String" "COMPACT_STRINGS" "Z", Cond.fieldLink RJ0 15 "java/lang/String" "coder" "B"]
def wz_k139_J0_isLatin1_aae02 : List Cond := .code yJ0_isLatin1_aae02 cJ0_isLatin1_aae02 1 (some .boolean) :: (wo_k139_J0_isLatin1_aae02 ++ ([] : List Cond))
theorem zg_k139_J0_isLatin1_aae02 : ∀ w ∈ wz_k139_J0_isLatin1_aae02, goodWord w = true := zg_cons rfl (zg_app (by decide +kernel) zg_nil)
theorem zi_k139_J0_isLatin1_aae02 : ∀ w ∈ wz_k139_J0_isLatin1_aae02, w ∈ lw_tbl := zi_cons zw_618 (zi_app (zi_cons zw_609 (zi_cons zw_1952 zi_nil)) zi_nil)
set_option maxHeartbeats 4000000 in
set_option maxRecDepth 100000 in
theorem k139_J0_isLatin1_aae02 (l : Launch) (D : va_G) (zt : Nat × Nat × Nat × (Nat → Nat) × (Nat → Nat)) (i : Nat) (hi : i < 13) (q : Nat → Nat) (d : Nat → ClassId) (I : Nat → Int32) (A : Nat → Nat → Int32) (hIv : IvX I A) : GM l D zt (tyX d) yJ0_isLatin1_aae02 wz_k139_J0_isLatin1_aae02 ({ frames := 0, cells := 0, slots := 0, locals := 0 } : Room) [.ref (zt.2.2.2.1 i)] (wX q d I A) (fun v _ w' => v = some (.int 1) ∧ w' = wX q d I A) 0 0 := by
  refine GM.of (cc := cJ0_isLatin1_aae02) (maxL := 1) (ret := (some .boolean)) (own := RJ0) (lv := [(0, .ref (zt.2.2.2.1 i))]) (by decide) rfl rfl (Nat.le_of_ble_eq_true rfl) rfl (fun κ sz hk hR hN => ?_)
  refine g_getsC hk (List.mem_cons_of_mem _ (List.mem_append_left _ (List.mem_of_getElem? (i := 0) rfl))) dJ0_isLatin1_aae02_0 ?_
  refine g_if_eq (tgt := 17) (a := 1) hk dJ0_isLatin1_aae02_3 (by decide) rfl (fun z9 => absurd z9 (show ¬ ((1 : Int) = (0 : Int)) from by decide)) (fun _ => ?_)
  refine g_aload_n hk dJ0_isLatin1_aae02_6 rfl ?_
  refine g_strC hk i hi (List.mem_cons_of_mem _ (List.mem_append_left _ (List.mem_of_getElem? (i := 1) rfl))) dJ0_isLatin1_aae02_7 ?_
  refine g_if_ne (tgt := 17) (a := 0) hk dJ0_isLatin1_aae02_10 (by decide) rfl (fun z9 => absurd z9 (show ¬ ((0 : Int) ≠ (0 : Int)) from by decide)) (fun _ => ?_)
  refine g_iconst (v := 1) hk dJ0_isLatin1_aae02_13 (by decide) ?_
  refine g_goto (tgt := 18) hk dJ0_isLatin1_aae02_14 (by decide) ?_
  exact g_iret hk hR rfl ⟨rfl, rfl⟩ dJ0_isLatin1_aae02_18
def wo_k142_J3_checkIndex_8e157 : List Cond := []
def wz_k142_J3_checkIndex_8e157 : List Cond := .code yJ3_checkIndex_8e157 cJ3_checkIndex_8e157 3 (some .int) :: (wo_k142_J3_checkIndex_8e157 ++ ([] : List Cond))
theorem zg_k142_J3_checkIndex_8e157 : ∀ w ∈ wz_k142_J3_checkIndex_8e157, goodWord w = true := zg_cons rfl (zg_app (by decide +kernel) zg_nil)
theorem zi_k142_J3_checkIndex_8e157 : ∀ w ∈ wz_k142_J3_checkIndex_8e157, w ∈ lw_tbl := zi_cons zw_629 (zi_app zi_nil zi_nil)
set_option maxHeartbeats 4000000 in
set_option maxRecDepth 100000 in
theorem k142_J3_checkIndex_8e157 (l : Launch) (D : va_G) (zt : Nat × Nat × Nat × (Nat → Nat) × (Nat → Nat)) (q : Nat → Nat) (d : Nat → ClassId) (I : Nat → Int32) (A : Nat → Nat → Int32) (z0 : Int32) (z1 : Int32) (hIv : IvX I A) (hp0 : 0 ≤ z0.toInt ∧ z0.toInt < z1.toInt) : GM l D zt (tyX d) yJ3_checkIndex_8e157 wz_k142_J3_checkIndex_8e157 ({ frames := 0, cells := 0, slots := 0, locals := 0 } : Room) [.int z0, .int z1, .null] (wX q d I A) (fun v _ w' => ∃ y0 : Int32, (0 ≤ y0.toInt) ∧ (y0.toInt ≤ 2147483646) ∧ v = some (.int y0) ∧ w' = wX q d I A) 0 0 := by
  refine GM.of (cc := cJ3_checkIndex_8e157) (maxL := 3) (ret := (some .int)) (own := RJ3) (lv := [(0, .int z0), (1, .int z1), (2, .null)]) (by decide) rfl rfl (Nat.le_of_ble_eq_true rfl) rfl (fun κ sz hk hR hN => ?_)
  refine g_iload_n hk dJ3_checkIndex_8e157_0 rfl ?_
  have b735l := Int32.le_toInt z0
  have b735h := Int32.toInt_lt z0
  refine g_if_lt (tgt := 9) (a := z0.toInt) hk dJ3_checkIndex_8e157_1 (by decide) rfl (fun c736 => ?_) (fun c736 => ?_)
  · skip
    exfalso; omega
  · skip
    refine g_iload_n hk dJ3_checkIndex_8e157_4 rfl ?_
    refine g_iload_n hk dJ3_checkIndex_8e157_5 rfl ?_
    have b737l := Int32.le_toInt z1
    have b737h := Int32.toInt_lt z1
    refine g_icmp_lt (tgt := 16) (a := z0.toInt) (b := z1.toInt) hk dJ3_checkIndex_8e157_6 (by decide) rfl rfl (fun c738 => ?_) (fun c738 => ?_)
    · skip
      refine g_iload_n hk dJ3_checkIndex_8e157_16 rfl ?_
      exact g_iret hk hR rfl ⟨z0, (by omega), (by omega), rfl, rfl⟩ dJ3_checkIndex_8e157_17
    · skip
      exfalso; omega
def wo_k143_J3_checkIndex_8e157 : List Cond := []
def wz_k143_J3_checkIndex_8e157 : List Cond := .code yJ3_checkIndex_8e157 cJ3_checkIndex_8e157 3 (some .int) :: (wo_k143_J3_checkIndex_8e157 ++ ([] : List Cond))
theorem zg_k143_J3_checkIndex_8e157 : ∀ w ∈ wz_k143_J3_checkIndex_8e157, goodWord w = true := zg_cons rfl (zg_app (by decide +kernel) zg_nil)
theorem zi_k143_J3_checkIndex_8e157 : ∀ w ∈ wz_k143_J3_checkIndex_8e157, w ∈ lw_tbl := zi_cons zw_629 (zi_app zi_nil zi_nil)
set_option maxHeartbeats 4000000 in
set_option maxRecDepth 100000 in
theorem k143_J3_checkIndex_8e157 (l : Launch) (D : va_G) (zt : Nat × Nat × Nat × (Nat → Nat) × (Nat → Nat)) (t8 : Nat) (q : Nat → Nat) (d : Nat → ClassId) (I : Nat → Int32) (A : Nat → Nat → Int32) (z0 : Int32) (z1 : Int32) (hIv : IvX I A) (hp0 : 0 ≤ z0.toInt ∧ z0.toInt < z1.toInt) : GM l D zt (tyX d) yJ3_checkIndex_8e157 wz_k143_J3_checkIndex_8e157 ({ frames := 0, cells := 0, slots := 0, locals := 0 } : Room) [.int z0, .int z1, .ref t8] (wX q d I A) (fun v _ w' => ∃ y0 : Int32, (0 ≤ y0.toInt) ∧ (y0.toInt ≤ 2147483646) ∧ v = some (.int y0) ∧ w' = wX q d I A) 0 0 := by
  refine GM.of (cc := cJ3_checkIndex_8e157) (maxL := 3) (ret := (some .int)) (own := RJ3) (lv := [(0, .int z0), (1, .int z1), (2, .ref t8)]) (by decide) rfl rfl (Nat.le_of_ble_eq_true rfl) rfl (fun κ sz hk hR hN => ?_)
  refine g_iload_n hk dJ3_checkIndex_8e157_0 rfl ?_
  have b742l := Int32.le_toInt z0
  have b742h := Int32.toInt_lt z0
  refine g_if_lt (tgt := 9) (a := z0.toInt) hk dJ3_checkIndex_8e157_1 (by decide) rfl (fun c743 => ?_) (fun c743 => ?_)
  · skip
    exfalso; omega
  · skip
    refine g_iload_n hk dJ3_checkIndex_8e157_4 rfl ?_
    refine g_iload_n hk dJ3_checkIndex_8e157_5 rfl ?_
    have b744l := Int32.le_toInt z1
    have b744h := Int32.toInt_lt z1
    refine g_icmp_lt (tgt := 16) (a := z0.toInt) (b := z1.toInt) hk dJ3_checkIndex_8e157_6 (by decide) rfl rfl (fun c745 => ?_) (fun c745 => ?_)
    · skip
      refine g_iload_n hk dJ3_checkIndex_8e157_16 rfl ?_
      exact g_iret hk hR rfl ⟨z0, (by omega), (by omega), rfl, rfl⟩ dJ3_checkIndex_8e157_17
    · skip
      exfalso; omega
def wo_k141_J0_checkIndex_df160 : List Cond := [Cond.fieldLink RJ0 1053 "jdk/internal/util/Preconditions" "SIOOBE_FORMATTER" "Ljava/util/function/BiFunction;", Cond.methodLink RJ0 1059 yJ3_checkIndex_8e157, Cond.static yJ3_checkIndex_8e157, Cond.initialized RJ3]
def wz_k141_J0_checkIndex_df160 : List Cond := .code yJ0_checkIndex_df160 cJ0_checkIndex_df160 2 none :: (wo_k141_J0_checkIndex_df160 ++ (wz_k142_J3_checkIndex_8e157 ++ (wz_k143_J3_checkIndex_8e157 ++ ([] : List Cond))))
theorem zg_k141_J0_checkIndex_df160 : ∀ w ∈ wz_k141_J0_checkIndex_df160, goodWord w = true := zg_cons rfl (zg_app (by decide +kernel) (zg_app zg_k142_J3_checkIndex_8e157 (zg_app zg_k143_J3_checkIndex_8e157 zg_nil)))
theorem zi_k141_J0_checkIndex_df160 : ∀ w ∈ wz_k141_J0_checkIndex_df160, w ∈ lw_tbl := zi_cons zw_624 (zi_app (zi_cons zw_625 (zi_cons zw_627 (zi_cons zw_628 (zi_cons zw_118 zi_nil)))) (zi_app zi_k142_J3_checkIndex_8e157 (zi_app zi_k143_J3_checkIndex_8e157 zi_nil)))
set_option maxHeartbeats 4000000 in
set_option maxRecDepth 100000 in
theorem k141_J0_checkIndex_df160 (l : Launch) (D : va_G) (zt : Nat × Nat × Nat × (Nat → Nat) × (Nat → Nat)) (q : Nat → Nat) (d : Nat → ClassId) (I : Nat → Int32) (A : Nat → Nat → Int32) (z0 : Int32) (z1 : Int32) (hIv : IvX I A) (hp0 : 0 ≤ z0.toInt ∧ z0.toInt < z1.toInt) : GM l D zt (tyX d) yJ0_checkIndex_df160 wz_k141_J0_checkIndex_df160 ({ frames := 1, cells := 0, slots := 0, locals := 22 } : Room) [.int z0, .int z1] (wX q d I A) (fun v _ w' => v = none ∧ w' = wX q d I A) 0 0 := by
  refine GM.of (cc := cJ0_checkIndex_df160) (maxL := 2) (ret := none) (own := RJ0) (lv := [(0, .int z0), (1, .int z1)]) (by decide) rfl rfl (Nat.le_of_ble_eq_true rfl) rfl (fun κ sz hk hR hN => ?_)
  refine g_iload_n hk dJ0_checkIndex_df160_0 rfl ?_
  refine g_iload_n hk dJ0_checkIndex_df160_1 rfl ?_
  refine g_getsF hk (List.mem_cons_of_mem _ (List.mem_append_left _ (List.mem_of_getElem? (i := 0) rfl))) dJ0_checkIndex_df160_2 ?_ (fun t9 => ?_)
  · skip
    refine g_callS (n := 3) hk (k142_J3_checkIndex_8e157 l D zt q d I A z0 z1 hIv ⟨by omega, by omega⟩) (SP.same _) (fun _ h => h) (gi_S (List.mem_cons_of_mem _ (List.mem_append_left _ (List.mem_of_getElem? (i := 1) rfl))) (List.mem_cons_of_mem _ (List.mem_append_left _ (List.mem_of_getElem? (i := 2) rfl))) (List.mem_cons_of_mem _ (List.mem_append_left _ (List.mem_of_getElem? (i := 3) rfl))) (gi_sub (fun w h => (List.mem_cons_of_mem _ (List.mem_append_right _ (List.mem_append_left _ h)))) zg_k142_J3_checkIndex_8e157)) rfl rfl rfl (by decide +kernel) ⟨Nat.le_of_ble_eq_true rfl, Nat.le_of_ble_eq_true rfl⟩ rfl rfl (Nat.le_of_ble_eq_true rfl) ⟨Nat.le_of_ble_eq_true rfl, Nat.le_of_ble_eq_true rfl⟩ dJ0_checkIndex_df160_5 (fun v ty' w' hp hk' => ?_)
    obtain ⟨y739, c740, c741, rfl, rfl⟩ := hp
    show GW κ 2 0 0 (wX q d I A) 8 [(0, .int z0), (1, .int z1)] [.int y739]
    refine g_pop hk dJ0_checkIndex_df160_8 rfl ?_
    exact g_vret hk hR ⟨rfl, rfl⟩ dJ0_checkIndex_df160_9
  · skip
    refine g_callS (n := 3) hk (k143_J3_checkIndex_8e157 l D zt t9 q d I A z0 z1 hIv ⟨by omega, by omega⟩) (SP.same _) (fun _ h => h) (gi_S (List.mem_cons_of_mem _ (List.mem_append_left _ (List.mem_of_getElem? (i := 1) rfl))) (List.mem_cons_of_mem _ (List.mem_append_left _ (List.mem_of_getElem? (i := 2) rfl))) (List.mem_cons_of_mem _ (List.mem_append_left _ (List.mem_of_getElem? (i := 3) rfl))) (gi_sub (fun w h => (List.mem_cons_of_mem _ (List.mem_append_right _ (List.mem_append_right _ (List.mem_append_left _ h))))) zg_k143_J3_checkIndex_8e157)) rfl rfl rfl (by decide +kernel) ⟨Nat.le_of_ble_eq_true rfl, Nat.le_of_ble_eq_true rfl⟩ rfl rfl (Nat.le_of_ble_eq_true rfl) ⟨Nat.le_of_ble_eq_true rfl, Nat.le_of_ble_eq_true rfl⟩ dJ0_checkIndex_df160_5 (fun v ty' w' hp hk' => ?_)
    obtain ⟨y746, c747, c748, rfl, rfl⟩ := hp
    show GW κ 2 0 0 (wX q d I A) 8 [(0, .int z0), (1, .int z1)] [.int y746]
    refine g_pop hk dJ0_checkIndex_df160_8 rfl ?_
    exact g_vret hk hR ⟨rfl, rfl⟩ dJ0_checkIndex_df160_9
def wo_k140_J1_charAt_3b067 : List Cond := [Cond.methodLink RJ1 9 yJ0_checkIndex_df160, Cond.static yJ0_checkIndex_df160, Cond.initialized RJ0]
def wz_k140_J1_charAt_3b067 : List Cond := .code yJ1_charAt_3b067 cJ1_charAt_3b067 2 (some .char) :: (wo_k140_J1_charAt_3b067 ++ (wz_k141_J0_checkIndex_df160 ++ ([] : List Cond)))
theorem zg_k140_J1_charAt_3b067 : ∀ w ∈ wz_k140_J1_charAt_3b067, goodWord w = true := zg_cons rfl (zg_app (by decide +kernel) (zg_app zg_k141_J0_checkIndex_df160 zg_nil))
theorem zi_k140_J1_charAt_3b067 : ∀ w ∈ wz_k140_J1_charAt_3b067, w ∈ lw_tbl := zi_cons zw_621 (zi_app (zi_cons zw_622 (zi_cons zw_623 (zi_cons zw_116 zi_nil))) (zi_app zi_k141_J0_checkIndex_df160 zi_nil))
set_option maxHeartbeats 4000000 in
set_option maxRecDepth 100000 in
theorem k140_J1_charAt_3b067 (l : Launch) (D : va_G) (zt : Nat × Nat × Nat × (Nat → Nat) × (Nat → Nat)) (i : Nat) (hi : i < 13) (q : Nat → Nat) (d : Nat → ClassId) (I : Nat → Int32) (A : Nat → Nat → Int32) (z1 : Int32) (hIv : IvX I A) (hp0 : 0 ≤ z1.toInt ∧ z1.toInt < (nI (lenS.getD i 0)).toInt) : GM l D zt (tyX d) yJ1_charAt_3b067 wz_k140_J1_charAt_3b067 ({ frames := 2, cells := 0, slots := 0, locals := 43 } : Room) [.ref (zt.2.2.2.2 i), .int z1] (wX q d I A) (fun v _ w' => ∃ y749 : Int32, v = some (.int (y749 &&& 255)) ∧ w' = wX q d I A) 0 0 := by
  refine GM.of (cc := cJ1_charAt_3b067) (maxL := 2) (ret := (some .char)) (own := RJ1) (lv := [(0, .ref (zt.2.2.2.2 i)), (1, .int z1)]) (by decide) rfl rfl (Nat.le_of_ble_eq_true rfl) rfl (fun κ sz hk hR hN => ?_)
  refine g_iload_n hk dJ1_charAt_3b067_0 rfl ?_
  refine g_aload_n hk dJ1_charAt_3b067_1 rfl ?_
  have f734 := lenS_le i hi
  refine g_strN hk i hi dJ1_charAt_3b067_2 ?_
  refine g_callS (n := 2) hk (k141_J0_checkIndex_df160 l D zt q d I A z1 (nI (lenS.getD i 0)) hIv ⟨by omega, by omega⟩) (SP.same _) (fun _ h => h) (gi_S (List.mem_cons_of_mem _ (List.mem_append_left _ (List.mem_of_getElem? (i := 0) rfl))) (List.mem_cons_of_mem _ (List.mem_append_left _ (List.mem_of_getElem? (i := 1) rfl))) (List.mem_cons_of_mem _ (List.mem_append_left _ (List.mem_of_getElem? (i := 2) rfl))) (gi_sub (fun w h => (List.mem_cons_of_mem _ (List.mem_append_right _ (List.mem_append_left _ h)))) zg_k141_J0_checkIndex_df160)) rfl rfl rfl (by decide +kernel) ⟨Nat.le_of_ble_eq_true rfl, Nat.le_of_ble_eq_true rfl⟩ rfl rfl (Nat.le_of_ble_eq_true rfl) ⟨Nat.le_of_ble_eq_true rfl, Nat.le_of_ble_eq_true rfl⟩ dJ1_charAt_3b067_3 (fun v ty' w' hp hk' => ?_)
  obtain ⟨rfl, rfl⟩ := hp
  show GW κ 2 0 0 (wX q d I A) 6 [(0, .ref (zt.2.2.2.2 i)), (1, .int z1)] []
  refine g_aload_n hk dJ1_charAt_3b067_6 rfl ?_
  refine g_iload_n hk dJ1_charAt_3b067_7 rfl ?_
  have b750l := Int32.le_toInt z1
  have b750h := Int32.toInt_lt z1
  refine g_strB hk i hi (str_in hi (by omega) (by omega)) dJ1_charAt_3b067_8 (fun y749 => ?_)
  refine g_sipush (v := 255) hk dJ1_charAt_3b067_9 (by decide) ?_
  have b751l := Int32.le_toInt y749
  have b751h := Int32.toInt_lt y749
  refine g_iand hk dJ1_charAt_3b067_12 ?_
  have h752 : 0 ≤ (y749 &&& 255).toInt ∧ (y749 &&& 255).toInt ≤ 255 := i32_mask 8 rfl (by decide) (by decide)
  refine g_i2c hk dJ1_charAt_3b067_13 (sc_c2 _) ?_
  exact g_iret hk hR (sc_nar _) ⟨y749, rfl, rfl⟩ dJ1_charAt_3b067_14
def wo_k138_J0_charAt_5068e : List Cond := [Cond.methodLink RJ0 492 yJ0_isLatin1_aae02, Cond.instanceMethod yJ0_isLatin1_aae02, Cond.selects RJ0 yJ0_isLatin1_aae02 yJ0_isLatin1_aae02, Cond.initialized RJ0, Cond.fieldLink RJ0 9 "java/lang/String" "value" "[B", Cond.methodLink RJ0 495 yJ1_charAt_3b067, Cond.static yJ1_charAt_3b067, Cond.initialized RJ1]
def wz_k138_J0_charAt_5068e : List Cond := .code yJ0_charAt_5068e cJ0_charAt_5068e 2 (some .char) :: (wo_k138_J0_charAt_5068e ++ (wz_k139_J0_isLatin1_aae02 ++ (wz_k140_J1_charAt_3b067 ++ ([] : List Cond))))
theorem zg_k138_J0_charAt_5068e : ∀ w ∈ wz_k138_J0_charAt_5068e, goodWord w = true := zg_cons rfl (zg_app (by decide +kernel) (zg_app zg_k139_J0_isLatin1_aae02 (zg_app zg_k140_J1_charAt_3b067 zg_nil)))
theorem zi_k138_J0_charAt_5068e : ∀ w ∈ wz_k138_J0_charAt_5068e, w ∈ lw_tbl := zi_cons zw_614 (zi_app (zi_cons zw_615 (zi_cons zw_616 (zi_cons zw_617 (zi_cons zw_116 (zi_cons zw_1951 (zi_cons zw_619 (zi_cons zw_620 (zi_cons zw_117 zi_nil)))))))) (zi_app zi_k139_J0_isLatin1_aae02 (zi_app zi_k140_J1_charAt_3b067 zi_nil)))
set_option maxHeartbeats 4000000 in
set_option maxRecDepth 100000 in
theorem k138_J0_charAt_5068e (l : Launch) (D : va_G) (zt : Nat × Nat × Nat × (Nat → Nat) × (Nat → Nat)) (i : Nat) (hi : i < 13) (q : Nat → Nat) (d : Nat → ClassId) (I : Nat → Int32) (A : Nat → Nat → Int32) (z1 : Int32) (hIv : IvX I A) (hp0 : 0 ≤ z1.toInt ∧ z1.toInt < (nI (lenS.getD i 0)).toInt) : GM l D zt (tyX d) yJ0_charAt_5068e wz_k138_J0_charAt_5068e ({ frames := 3, cells := 0, slots := 0, locals := 64 } : Room) [.ref (zt.2.2.2.1 i), .int z1] (wX q d I A) (fun v _ w' => ∃ y753 : Int32, v = some (.int (y753 &&& 255)) ∧ w' = wX q d I A) 0 0 := by
  refine GM.of (cc := cJ0_charAt_5068e) (maxL := 2) (ret := (some .char)) (own := RJ0) (lv := [(0, .ref (zt.2.2.2.1 i)), (1, .int z1)]) (by decide) rfl rfl (Nat.le_of_ble_eq_true rfl) rfl (fun κ sz hk hR hN => ?_)
  refine g_aload_n hk dJ0_charAt_5068e_0 rfl ?_
  refine g_callVS (n := 0) i hi hk (k139_J0_isLatin1_aae02 l D zt i hi q d I A  hIv) (SP.same _) (fun _ h => h) (gi_V (List.mem_cons_of_mem _ (List.mem_append_left _ (List.mem_of_getElem? (i := 0) rfl))) (List.mem_cons_of_mem _ (List.mem_append_left _ (List.mem_of_getElem? (i := 1) rfl))) (List.mem_cons_of_mem _ (List.mem_append_left _ (List.mem_of_getElem? (i := 2) rfl))) (List.mem_cons_of_mem _ (List.mem_append_left _ (List.mem_of_getElem? (i := 3) rfl))) (gi_sub (fun w h => (List.mem_cons_of_mem _ (List.mem_append_right _ (List.mem_append_left _ h)))) zg_k139_J0_isLatin1_aae02)) rfl rfl rfl (by decide +kernel) ⟨Nat.le_of_ble_eq_true rfl, Nat.le_of_ble_eq_true rfl⟩ rfl rfl (Nat.le_of_ble_eq_true rfl) ⟨Nat.le_of_ble_eq_true rfl, Nat.le_of_ble_eq_true rfl⟩ dJ0_charAt_5068e_1 (fun v ty' w' hp hk' => ?_)
  obtain ⟨rfl, rfl⟩ := hp
  show GW κ 2 0 0 (wX q d I A) 4 [(0, .ref (zt.2.2.2.1 i)), (1, .int z1)] [.int 1]
  refine g_if_eq (tgt := 16) (a := 1) hk dJ0_charAt_5068e_4 (by decide) rfl (fun z9 => absurd z9 (show ¬ ((1 : Int) = (0 : Int)) from by decide)) (fun _ => ?_)
  refine g_aload_n hk dJ0_charAt_5068e_7 rfl ?_
  refine g_strV hk i hi (List.mem_cons_of_mem _ (List.mem_append_left _ (List.mem_of_getElem? (i := 4) rfl))) dJ0_charAt_5068e_8 ?_
  refine g_iload_n hk dJ0_charAt_5068e_11 rfl ?_
  refine g_callS (n := 2) hk (k140_J1_charAt_3b067 l D zt i hi q d I A z1 hIv ⟨by omega, by omega⟩) (SP.same _) (fun _ h => h) (gi_S (List.mem_cons_of_mem _ (List.mem_append_left _ (List.mem_of_getElem? (i := 5) rfl))) (List.mem_cons_of_mem _ (List.mem_append_left _ (List.mem_of_getElem? (i := 6) rfl))) (List.mem_cons_of_mem _ (List.mem_append_left _ (List.mem_of_getElem? (i := 7) rfl))) (gi_sub (fun w h => (List.mem_cons_of_mem _ (List.mem_append_right _ (List.mem_append_right _ (List.mem_append_left _ h))))) zg_k140_J1_charAt_3b067)) rfl rfl rfl (by decide +kernel) ⟨Nat.le_of_ble_eq_true rfl, Nat.le_of_ble_eq_true rfl⟩ rfl rfl (Nat.le_of_ble_eq_true rfl) ⟨Nat.le_of_ble_eq_true rfl, Nat.le_of_ble_eq_true rfl⟩ dJ0_charAt_5068e_12 (fun v ty' w' hp hk' => ?_)
  obtain ⟨y753, rfl, rfl⟩ := hp
  show GW κ 2 0 0 (wX q d I A) 15 [(0, .ref (zt.2.2.2.1 i)), (1, .int z1)] [.int (y753 &&& 255)]
  have b754l := Int32.le_toInt (y753 &&& 255)
  have b754h := Int32.toInt_lt (y753 &&& 255)
  exact g_iret hk hR (sc_nar _) ⟨y753, rfl, rfl⟩ dJ0_charAt_5068e_15
def wo_k134_X10_isWord : List Cond := [Cond.fieldLink RX10 41 "WarpDesk$Tape" "kind" "I", Cond.methodLink RX10 57 yX10_lengthAtHand, Cond.instanceMethod yX10_lengthAtHand, Cond.selects RX10 yX10_lengthAtHand yX10_lengthAtHand, Cond.initialized RX10, Cond.methodLink RX10 61 yJ0_length_8abf5, Cond.instanceMethod yJ0_length_8abf5, Cond.selects RJ0 yJ0_length_8abf5 yJ0_length_8abf5, Cond.initialized RJ0, Cond.fieldLink RX10 32 "WarpDesk$Tape" "start" "I", Cond.methodLink RX10 38 yX10_byteAt, Cond.instanceMethod yX10_byteAt, Cond.selects RX10 yX10_byteAt yX10_byteAt, Cond.methodLink RX10 66 yJ0_charAt_5068e, Cond.instanceMethod yJ0_charAt_5068e, Cond.selects RJ0 yJ0_charAt_5068e yJ0_charAt_5068e]
def wz_k134_X10_isWord : List Cond := .code yX10_isWord cX10_isWord 3 (some .boolean) :: (wo_k134_X10_isWord ++ (wsX100 ++ (wz_k135_X10_lengthAtHand ++ (wz_k136_J0_length_8abf5 ++ (wz_k125_X10_byteAt ++ (wz_k138_J0_charAt_5068e ++ ([] : List Cond)))))))
theorem zg_k134_X10_isWord : ∀ w ∈ wz_k134_X10_isWord, goodWord w = true := zg_cons rfl (zg_app (by decide +kernel) (zg_app zgU_wsX100 (zg_app zg_k135_X10_lengthAtHand (zg_app zg_k136_J0_length_8abf5 (zg_app zg_k125_X10_byteAt (zg_app zg_k138_J0_charAt_5068e zg_nil))))))
theorem zi_k134_X10_isWord : ∀ w ∈ wz_k134_X10_isWord, w ∈ lw_tbl := zi_cons zw_596 (zi_app (zi_cons zw_139 (zi_cons zw_597 (zi_cons zw_598 (zi_cons zw_599 (zi_cons zw_104 (zi_cons zw_601 (zi_cons zw_602 (zi_cons zw_603 (zi_cons zw_116 (zi_cons zw_140 (zi_cons zw_566 (zi_cons zw_568 (zi_cons zw_2 (zi_cons zw_611 (zi_cons zw_612 (zi_cons zw_613 zi_nil)))))))))))))))) (zi_app inX10 (zi_app zi_k135_X10_lengthAtHand (zi_app zi_k136_J0_length_8abf5 (zi_app zi_k125_X10_byteAt (zi_app zi_k138_J0_charAt_5068e zi_nil))))))
set_option maxHeartbeats 4000000 in
set_option maxRecDepth 100000 in
theorem k134_X10_isWord (l : Launch) (D : va_G) (zt : Nat × Nat × Nat × (Nat → Nat) × (Nat → Nat)) (i : Nat) (hi : i < 13) (q : Nat → Nat) (d : Nat → ClassId) (I : Nat → Int32) (A : Nat → Nat → Int32) (hIv : IvX I A) : GM l D zt (tyX d) yX10_isWord wz_k134_X10_isWord ({ frames := 4, cells := 0, slots := 0, locals := 85 } : Room) [.ref (q 1), .ref (zt.2.2.2.1 i)] (wX q d I A) (fun v _ w' => (v = some (.int 0) ∧ w' = wX q d I A) ∨ (v = some (.int 1) ∧ w' = wX q d I A)) 0 0 := by
  refine GM.of (cc := cX10_isWord) (maxL := 3) (ret := (some .boolean)) (own := RX10) (lv := [(0, .ref (q 1)), (1, .ref (zt.2.2.2.1 i))]) (by decide) rfl rfl (Nat.le_of_ble_eq_true rfl) rfl (fun κ sz hk hR hN => ?_)
  have hin10 : ∀ w ∈ u_ws RX10 TX10 7, w ∈ wz_k134_X10_isWord := fun w h => (List.mem_cons_of_mem _ (List.mem_append_right _ (List.mem_append_left _ h)))
  refine g_aload_n hk dX10_isWord_0 rfl ?_
  refine gX_i1 (v := (I 1)) hk hin10 (List.mem_cons_of_mem _ (List.mem_append_left _ (List.mem_of_getElem? (i := 0) rfl))) dX10_isWord_1 rfl ?_
  refine g_iconst (v := 1) hk dX10_isWord_4 (by decide) ?_
  have b713l := Int32.le_toInt (I 1)
  have b713h := Int32.toInt_lt (I 1)
  refine g_icmp_ne (tgt := 19) (a := (I 1).toInt) (b := 1) hk dX10_isWord_5 (by decide) rfl rfl (fun c714 => ?_) (fun c714 => ?_)
  · skip
    refine g_iconst (v := 0) hk dX10_isWord_19 (by decide) ?_
    exact g_iret hk hR rfl (Or.inl ⟨rfl, rfl⟩) dX10_isWord_20
  · skip
    refine g_aload_n hk dX10_isWord_8 rfl ?_
    refine g_callV (n := 0) hk (k135_X10_lengthAtHand l D zt q d I A  hIv) (SP.same _) (fun _ h => h) (gi_V (List.mem_cons_of_mem _ (List.mem_append_left _ (List.mem_of_getElem? (i := 1) rfl))) (List.mem_cons_of_mem _ (List.mem_append_left _ (List.mem_of_getElem? (i := 2) rfl))) (List.mem_cons_of_mem _ (List.mem_append_left _ (List.mem_of_getElem? (i := 3) rfl))) (List.mem_cons_of_mem _ (List.mem_append_left _ (List.mem_of_getElem? (i := 4) rfl))) (gi_sub (fun w h => (List.mem_cons_of_mem _ (List.mem_append_right _ (List.mem_append_right _ (List.mem_append_left _ h))))) zg_k135_X10_lengthAtHand)) rfl rfl rfl (by decide +kernel) ⟨Nat.le_of_ble_eq_true rfl, Nat.le_of_ble_eq_true rfl⟩ 1 rfl rfl rfl rfl (Nat.le_of_ble_eq_true rfl) ⟨Nat.le_of_ble_eq_true rfl, Nat.le_of_ble_eq_true rfl⟩ dX10_isWord_9 (fun v ty' w' hp hk' => ?_)
    obtain ⟨y719, rfl, rfl⟩ := hp
    show GW κ 3 0 0 (wX q d I A) 12 [(0, .ref (q 1)), (1, .ref (zt.2.2.2.1 i))] [.int y719]
    refine g_aload_n hk dX10_isWord_12 rfl ?_
    refine g_callVS (n := 0) i hi hk (k136_J0_length_8abf5 l D zt i hi q d I A  hIv) (SP.same _) (fun _ h => h) (gi_V (List.mem_cons_of_mem _ (List.mem_append_left _ (List.mem_of_getElem? (i := 5) rfl))) (List.mem_cons_of_mem _ (List.mem_append_left _ (List.mem_of_getElem? (i := 6) rfl))) (List.mem_cons_of_mem _ (List.mem_append_left _ (List.mem_of_getElem? (i := 7) rfl))) (List.mem_cons_of_mem _ (List.mem_append_left _ (List.mem_of_getElem? (i := 8) rfl))) (gi_sub (fun w h => (List.mem_cons_of_mem _ (List.mem_append_right _ (List.mem_append_right _ (List.mem_append_right _ (List.mem_append_left _ h)))))) zg_k136_J0_length_8abf5)) rfl rfl rfl (by decide +kernel) ⟨Nat.le_of_ble_eq_true rfl, Nat.le_of_ble_eq_true rfl⟩ rfl rfl (Nat.le_of_ble_eq_true rfl) ⟨Nat.le_of_ble_eq_true rfl, Nat.le_of_ble_eq_true rfl⟩ dX10_isWord_13 (fun v ty' w' hp hk' => ?_)
    obtain ⟨rfl, rfl⟩ := hp
    have f722 := lenS_le i hi
    show GW κ 3 0 0 (wX q d I A) 16 [(0, .ref (q 1)), (1, .ref (zt.2.2.2.1 i))] [.int (nI (lenS.getD i 0)), .int y719]
    have b723l := Int32.le_toInt y719
    have b723h := Int32.toInt_lt y719
    refine g_icmp_eq (tgt := 21) (a := y719.toInt) (b := (nI (lenS.getD i 0)).toInt) hk dX10_isWord_16 (by decide) rfl rfl (fun c724 => ?_) (fun c724 => ?_)
    · skip
      refine g_iconst (v := 0) hk dX10_isWord_21 (by decide) ?_
      refine g_istore_n (lv' := [(2, .int 0), (0, .ref (q 1)), (1, .ref (zt.2.2.2.1 i))]) hk dX10_isWord_22 (by decide) rfl ?_
      have lp790 : ∀ (n791 : Nat) (x725 : Int32), (0 ≤ x725.toInt) → (x725.toInt ≤ 6) → (7 - x725.toInt < (n791 : Int)) → (0 < n791) → GW κ 3 0 0 (wX q d I A) 23 [(2, .int x725), (0, .ref (q 1)), (1, .ref (zt.2.2.2.1 i))] [] := by
        intro n791
        induction n791 with
        | zero =>
          intro x725 h788 h789 m792 m792z
          exact absurd m792z (Nat.lt_irrefl 0)
        | succ n791 ih793 =>
          intro x725 h788 h789 m792 m792z
          refine g_iload_n hk dX10_isWord_23 rfl ?_
          refine g_aload_n hk dX10_isWord_24 rfl ?_
          refine g_callVS (n := 0) i hi hk (k136_J0_length_8abf5 l D zt i hi q d I A  hIv) (SP.same _) (fun _ h => h) (gi_V (List.mem_cons_of_mem _ (List.mem_append_left _ (List.mem_of_getElem? (i := 5) rfl))) (List.mem_cons_of_mem _ (List.mem_append_left _ (List.mem_of_getElem? (i := 6) rfl))) (List.mem_cons_of_mem _ (List.mem_append_left _ (List.mem_of_getElem? (i := 7) rfl))) (List.mem_cons_of_mem _ (List.mem_append_left _ (List.mem_of_getElem? (i := 8) rfl))) (gi_sub (fun w h => (List.mem_cons_of_mem _ (List.mem_append_right _ (List.mem_append_right _ (List.mem_append_right _ (List.mem_append_left _ h)))))) zg_k136_J0_length_8abf5)) rfl rfl rfl (by decide +kernel) ⟨Nat.le_of_ble_eq_true rfl, Nat.le_of_ble_eq_true rfl⟩ rfl rfl (Nat.le_of_ble_eq_true rfl) ⟨Nat.le_of_ble_eq_true rfl, Nat.le_of_ble_eq_true rfl⟩ dX10_isWord_25 (fun v ty' w' hp hk' => ?_)
          obtain ⟨rfl, rfl⟩ := hp
          show GW κ 3 0 0 (wX q d I A) 28 [(2, .int x725), (0, .ref (q 1)), (1, .ref (zt.2.2.2.1 i))] [.int (nI (lenS.getD i 0)), .int x725]
          refine g_icmp_ge (tgt := 57) (a := x725.toInt) (b := (nI (lenS.getD i 0)).toInt) hk dX10_isWord_28 (by decide) rfl rfl (fun c794 => ?_) (fun c794 => ?_)
          · skip
            refine g_iconst (v := 1) hk dX10_isWord_57 (by decide) ?_
            exact g_iret hk hR rfl (Or.inr (⟨rfl, rfl⟩)) dX10_isWord_58
          · skip
            refine g_aload_n hk dX10_isWord_31 rfl ?_
            refine g_aload_n hk dX10_isWord_32 rfl ?_
            refine gX_i2 (v := (I 2)) hk hin10 (List.mem_cons_of_mem _ (List.mem_append_left _ (List.mem_of_getElem? (i := 9) rfl))) dX10_isWord_33 rfl ?_
            refine g_iload_n hk dX10_isWord_36 rfl ?_
            have b795l := Int32.le_toInt (I 2)
            have b795h := Int32.toInt_lt (I 2)
            refine g_iadd hk dX10_isWord_37 ?_
            refine g_topi (fun y796 ey796 => ?_)
            refine g_callV (n := 1) hk (k125_X10_byteAt l D zt q d I A y796 hIv) (SP.same _) (fun _ h => h) (gi_V (List.mem_cons_of_mem _ (List.mem_append_left _ (List.mem_of_getElem? (i := 10) rfl))) (List.mem_cons_of_mem _ (List.mem_append_left _ (List.mem_of_getElem? (i := 11) rfl))) (List.mem_cons_of_mem _ (List.mem_append_left _ (List.mem_of_getElem? (i := 12) rfl))) (List.mem_cons_of_mem _ (List.mem_append_left _ (List.mem_of_getElem? (i := 4) rfl))) (gi_sub (fun w h => (List.mem_cons_of_mem _ (List.mem_append_right _ (List.mem_append_right _ (List.mem_append_right _ (List.mem_append_right _ (List.mem_append_left _ h))))))) zg_k125_X10_byteAt)) rfl rfl rfl (by decide +kernel) ⟨Nat.le_of_ble_eq_true rfl, Nat.le_of_ble_eq_true rfl⟩ 1 rfl rfl rfl rfl (Nat.le_of_ble_eq_true rfl) ⟨Nat.le_of_ble_eq_true rfl, Nat.le_of_ble_eq_true rfl⟩ dX10_isWord_38 (fun v ty' w' hp hk' => ?_)
            obtain ⟨y797, rfl, rfl⟩ := hp
            show GW κ 3 0 0 (wX q d I A) 41 [(2, .int x725), (0, .ref (q 1)), (1, .ref (zt.2.2.2.1 i))] [.int y797]
            refine g_aload_n hk dX10_isWord_41 rfl ?_
            refine g_iload_n hk dX10_isWord_42 rfl ?_
            refine g_callVS (n := 1) i hi hk (k138_J0_charAt_5068e l D zt i hi q d I A x725 hIv ⟨by omega, by omega⟩) (SP.same _) (fun _ h => h) (gi_V (List.mem_cons_of_mem _ (List.mem_append_left _ (List.mem_of_getElem? (i := 13) rfl))) (List.mem_cons_of_mem _ (List.mem_append_left _ (List.mem_of_getElem? (i := 14) rfl))) (List.mem_cons_of_mem _ (List.mem_append_left _ (List.mem_of_getElem? (i := 15) rfl))) (List.mem_cons_of_mem _ (List.mem_append_left _ (List.mem_of_getElem? (i := 8) rfl))) (gi_sub (fun w h => (List.mem_cons_of_mem _ (List.mem_append_right _ (List.mem_append_right _ (List.mem_append_right _ (List.mem_append_right _ (List.mem_append_right _ (List.mem_append_left _ h)))))))) zg_k138_J0_charAt_5068e)) rfl rfl rfl (by decide +kernel) ⟨Nat.le_of_ble_eq_true rfl, Nat.le_of_ble_eq_true rfl⟩ rfl rfl (Nat.le_of_ble_eq_true rfl) ⟨Nat.le_of_ble_eq_true rfl, Nat.le_of_ble_eq_true rfl⟩ dX10_isWord_43 (fun v ty' w' hp hk' => ?_)
            obtain ⟨y798, rfl, rfl⟩ := hp
            show GW κ 3 0 0 (wX q d I A) 46 [(2, .int x725), (0, .ref (q 1)), (1, .ref (zt.2.2.2.1 i))] [.int (y798 &&& 255), .int y797]
            have b799l := Int32.le_toInt y797
            have b799h := Int32.toInt_lt y797
            have b800l := Int32.le_toInt (y798 &&& 255)
            have b800h := Int32.toInt_lt (y798 &&& 255)
            refine g_icmp_eq (tgt := 51) (a := y797.toInt) (b := (y798 &&& 255).toInt) hk dX10_isWord_46 (by decide) rfl rfl (fun c801 => ?_) (fun c801 => ?_)
            · skip
              obtain ⟨y802, ey802⟩ : ∃ y : Int32, y = x725 + Int32.ofInt 1 := ⟨_, rfl⟩
              have hy802 : y802.toInt = x725.toInt + 1 := i32_add ey802 rfl (by decide) (by omega) (by omega)
              refine g_iinc (v := y802) (lv' := [(2, .int y802), (0, .ref (q 1)), (1, .ref (zt.2.2.2.1 i))]) hk 0 dX10_isWord_51 rfl ey802.symm (by decide) rfl ?_
              refine g_goto (tgt := 23) hk dX10_isWord_54 (by decide) ?_
              exact g_lv (List.forall_mem_cons.mpr ⟨List.mem_of_getElem? (i := 0) rfl, (List.forall_mem_cons.mpr ⟨List.mem_of_getElem? (i := 1) rfl, (List.forall_mem_cons.mpr ⟨List.mem_of_getElem? (i := 2) rfl, (fun _ h => absurd h List.not_mem_nil)⟩)⟩)⟩) (ih793 y802 (by omega) (by omega) (by omega) (by omega))
            · skip
              refine g_iconst (v := 0) hk dX10_isWord_49 (by decide) ?_
              exact g_iret hk hR rfl (Or.inl ⟨rfl, rfl⟩) dX10_isWord_50
      have k804 : (0 : Int32).toInt = 0 := rfl
      obtain ⟨n803, n803a, n803b⟩ : ∃ n : Nat, 7 - 0 < (n : Int) ∧ 0 < n := ⟨((7 - 0 : Int)).toNat + 1, by omega, by omega⟩
      exact lp790 n803 0 (by omega) (by omega) n803a n803b
    · skip
      refine g_iconst (v := 0) hk dX10_isWord_19 (by decide) ?_
      exact g_iret hk hR rfl (Or.inl ⟨rfl, rfl⟩) dX10_isWord_20
def wo_k133_X5_tellAtHand : List Cond := [Cond.fieldLink RX5 42 "WarpDesk$Reader" "tape" "LWarpDesk$Tape;", Cond.methodLink RX5 108 yX10_isWord, Cond.instanceMethod yX10_isWord, Cond.selects RX10 yX10_isWord yX10_isWord, Cond.initialized RX10]
def wz_k133_X5_tellAtHand : List Cond := .code yX5_tellAtHand cX5_tellAtHand 1 (some .int) :: (wo_k133_X5_tellAtHand ++ (wsX50 ++ (wz_k134_X10_isWord ++ ([] : List Cond))))
theorem zg_k133_X5_tellAtHand : ∀ w ∈ wz_k133_X5_tellAtHand, goodWord w = true := zg_cons rfl (zg_app (by decide +kernel) (zg_app zgU_wsX50 (zg_app zg_k134_X10_isWord zg_nil)))
theorem zi_k133_X5_tellAtHand : ∀ w ∈ wz_k133_X5_tellAtHand, w ∈ lw_tbl := zi_cons zw_591 (zi_app (zi_cons zw_230 (zi_cons zw_593 (zi_cons zw_594 (zi_cons zw_595 (zi_cons zw_104 zi_nil))))) (zi_app inX5 (zi_app zi_k134_X10_isWord zi_nil)))
set_option maxHeartbeats 4000000 in
set_option maxRecDepth 100000 in
theorem k133_X5_tellAtHand (l : Launch) (D : va_G) (zt : Nat × Nat × Nat × (Nat → Nat) × (Nat → Nat)) (q : Nat → Nat) (d : Nat → ClassId) (I : Nat → Int32) (A : Nat → Nat → Int32) (hIv : IvX I A) : GM l D zt (tyX d) yX5_tellAtHand wz_k133_X5_tellAtHand ({ frames := 5, cells := 0, slots := 0, locals := 107 } : Room) [.ref (q 3)] (wX q d I A) (fun v _ w' => ∃ y0 : Int32, ((-1) ≤ y0.toInt) ∧ (y0.toInt ≤ 5) ∧ v = some (.int y0) ∧ w' = wX q d I A) 0 0 := by
  refine GM.of (cc := cX5_tellAtHand) (maxL := 1) (ret := (some .int)) (own := RX5) (lv := [(0, .ref (q 3))]) (by decide) rfl rfl (Nat.le_of_ble_eq_true rfl) rfl (fun κ sz hk hR hN => ?_)
  have hin5 : ∀ w ∈ u_ws RX5 TX5 13, w ∈ wz_k133_X5_tellAtHand := fun w h => (List.mem_cons_of_mem _ (List.mem_append_right _ (List.mem_append_left _ h)))
  refine g_aload_n hk dX5_tellAtHand_0 rfl ?_
  refine gX_r3_0 hk hin5 (List.mem_cons_of_mem _ (List.mem_append_left _ (List.mem_of_getElem? (i := 0) rfl))) dX5_tellAtHand_1 ?_
  refine g_ldcS hk 1 (by decide) rfl dX5_tellAtHand_4 ?_
  refine g_callV (n := 1) hk (k134_X10_isWord l D zt 1 (by decide) q d I A  hIv) (SP.same _) (fun _ h => h) (gi_V (List.mem_cons_of_mem _ (List.mem_append_left _ (List.mem_of_getElem? (i := 1) rfl))) (List.mem_cons_of_mem _ (List.mem_append_left _ (List.mem_of_getElem? (i := 2) rfl))) (List.mem_cons_of_mem _ (List.mem_append_left _ (List.mem_of_getElem? (i := 3) rfl))) (List.mem_cons_of_mem _ (List.mem_append_left _ (List.mem_of_getElem? (i := 4) rfl))) (gi_sub (fun w h => (List.mem_cons_of_mem _ (List.mem_append_right _ (List.mem_append_right _ (List.mem_append_left _ h))))) zg_k134_X10_isWord)) rfl rfl rfl (by decide +kernel) ⟨Nat.le_of_ble_eq_true rfl, Nat.le_of_ble_eq_true rfl⟩ 1 rfl rfl rfl rfl (Nat.le_of_ble_eq_true rfl) ⟨Nat.le_of_ble_eq_true rfl, Nat.le_of_ble_eq_true rfl⟩ dX5_tellAtHand_6 (fun v ty' w' hp hk' => ?_)
  rcases hp with ⟨rfl, rfl⟩ | ⟨rfl, rfl⟩
  · skip
    show GW κ 1 0 0 (wX q d I A) 9 [(0, .ref (q 3))] [.int 0]
    refine g_if_eq (tgt := 14) (a := 0) hk dX5_tellAtHand_9 (by decide) rfl (fun _ => ?_) (fun z9 => absurd (show (0 : Int) = (0 : Int) from by decide) z9)
    refine g_aload_n hk dX5_tellAtHand_14 rfl ?_
    refine gX_r3_0 hk hin5 (List.mem_cons_of_mem _ (List.mem_append_left _ (List.mem_of_getElem? (i := 0) rfl))) dX5_tellAtHand_15 ?_
    refine g_ldcS hk 2 (by decide) rfl dX5_tellAtHand_18 ?_
    refine g_callV (n := 1) hk (k134_X10_isWord l D zt 2 (by decide) q d I A  hIv) (SP.same _) (fun _ h => h) (gi_V (List.mem_cons_of_mem _ (List.mem_append_left _ (List.mem_of_getElem? (i := 1) rfl))) (List.mem_cons_of_mem _ (List.mem_append_left _ (List.mem_of_getElem? (i := 2) rfl))) (List.mem_cons_of_mem _ (List.mem_append_left _ (List.mem_of_getElem? (i := 3) rfl))) (List.mem_cons_of_mem _ (List.mem_append_left _ (List.mem_of_getElem? (i := 4) rfl))) (gi_sub (fun w h => (List.mem_cons_of_mem _ (List.mem_append_right _ (List.mem_append_right _ (List.mem_append_left _ h))))) zg_k134_X10_isWord)) rfl rfl rfl (by decide +kernel) ⟨Nat.le_of_ble_eq_true rfl, Nat.le_of_ble_eq_true rfl⟩ 1 rfl rfl rfl rfl (Nat.le_of_ble_eq_true rfl) ⟨Nat.le_of_ble_eq_true rfl, Nat.le_of_ble_eq_true rfl⟩ dX5_tellAtHand_20 (fun v ty' w' hp hk' => ?_)
    rcases hp with ⟨rfl, rfl⟩ | ⟨rfl, rfl⟩
    · skip
      show GW κ 1 0 0 (wX q d I A) 23 [(0, .ref (q 3))] [.int 0]
      refine g_if_eq (tgt := 28) (a := 0) hk dX5_tellAtHand_23 (by decide) rfl (fun _ => ?_) (fun z9 => absurd (show (0 : Int) = (0 : Int) from by decide) z9)
      refine g_aload_n hk dX5_tellAtHand_28 rfl ?_
      refine gX_r3_0 hk hin5 (List.mem_cons_of_mem _ (List.mem_append_left _ (List.mem_of_getElem? (i := 0) rfl))) dX5_tellAtHand_29 ?_
      refine g_ldcS hk 3 (by decide) rfl dX5_tellAtHand_32 ?_
      refine g_callV (n := 1) hk (k134_X10_isWord l D zt 3 (by decide) q d I A  hIv) (SP.same _) (fun _ h => h) (gi_V (List.mem_cons_of_mem _ (List.mem_append_left _ (List.mem_of_getElem? (i := 1) rfl))) (List.mem_cons_of_mem _ (List.mem_append_left _ (List.mem_of_getElem? (i := 2) rfl))) (List.mem_cons_of_mem _ (List.mem_append_left _ (List.mem_of_getElem? (i := 3) rfl))) (List.mem_cons_of_mem _ (List.mem_append_left _ (List.mem_of_getElem? (i := 4) rfl))) (gi_sub (fun w h => (List.mem_cons_of_mem _ (List.mem_append_right _ (List.mem_append_right _ (List.mem_append_left _ h))))) zg_k134_X10_isWord)) rfl rfl rfl (by decide +kernel) ⟨Nat.le_of_ble_eq_true rfl, Nat.le_of_ble_eq_true rfl⟩ 1 rfl rfl rfl rfl (Nat.le_of_ble_eq_true rfl) ⟨Nat.le_of_ble_eq_true rfl, Nat.le_of_ble_eq_true rfl⟩ dX5_tellAtHand_34 (fun v ty' w' hp hk' => ?_)
      rcases hp with ⟨rfl, rfl⟩ | ⟨rfl, rfl⟩
      · skip
        show GW κ 1 0 0 (wX q d I A) 37 [(0, .ref (q 3))] [.int 0]
        refine g_if_eq (tgt := 42) (a := 0) hk dX5_tellAtHand_37 (by decide) rfl (fun _ => ?_) (fun z9 => absurd (show (0 : Int) = (0 : Int) from by decide) z9)
        refine g_aload_n hk dX5_tellAtHand_42 rfl ?_
        refine gX_r3_0 hk hin5 (List.mem_cons_of_mem _ (List.mem_append_left _ (List.mem_of_getElem? (i := 0) rfl))) dX5_tellAtHand_43 ?_
        refine g_ldcS hk 4 (by decide) rfl dX5_tellAtHand_46 ?_
        refine g_callV (n := 1) hk (k134_X10_isWord l D zt 4 (by decide) q d I A  hIv) (SP.same _) (fun _ h => h) (gi_V (List.mem_cons_of_mem _ (List.mem_append_left _ (List.mem_of_getElem? (i := 1) rfl))) (List.mem_cons_of_mem _ (List.mem_append_left _ (List.mem_of_getElem? (i := 2) rfl))) (List.mem_cons_of_mem _ (List.mem_append_left _ (List.mem_of_getElem? (i := 3) rfl))) (List.mem_cons_of_mem _ (List.mem_append_left _ (List.mem_of_getElem? (i := 4) rfl))) (gi_sub (fun w h => (List.mem_cons_of_mem _ (List.mem_append_right _ (List.mem_append_right _ (List.mem_append_left _ h))))) zg_k134_X10_isWord)) rfl rfl rfl (by decide +kernel) ⟨Nat.le_of_ble_eq_true rfl, Nat.le_of_ble_eq_true rfl⟩ 1 rfl rfl rfl rfl (Nat.le_of_ble_eq_true rfl) ⟨Nat.le_of_ble_eq_true rfl, Nat.le_of_ble_eq_true rfl⟩ dX5_tellAtHand_48 (fun v ty' w' hp hk' => ?_)
        rcases hp with ⟨rfl, rfl⟩ | ⟨rfl, rfl⟩
        · skip
          show GW κ 1 0 0 (wX q d I A) 51 [(0, .ref (q 3))] [.int 0]
          refine g_if_eq (tgt := 56) (a := 0) hk dX5_tellAtHand_51 (by decide) rfl (fun _ => ?_) (fun z9 => absurd (show (0 : Int) = (0 : Int) from by decide) z9)
          refine g_aload_n hk dX5_tellAtHand_56 rfl ?_
          refine gX_r3_0 hk hin5 (List.mem_cons_of_mem _ (List.mem_append_left _ (List.mem_of_getElem? (i := 0) rfl))) dX5_tellAtHand_57 ?_
          refine g_ldcS hk 5 (by decide) rfl dX5_tellAtHand_60 ?_
          refine g_callV (n := 1) hk (k134_X10_isWord l D zt 5 (by decide) q d I A  hIv) (SP.same _) (fun _ h => h) (gi_V (List.mem_cons_of_mem _ (List.mem_append_left _ (List.mem_of_getElem? (i := 1) rfl))) (List.mem_cons_of_mem _ (List.mem_append_left _ (List.mem_of_getElem? (i := 2) rfl))) (List.mem_cons_of_mem _ (List.mem_append_left _ (List.mem_of_getElem? (i := 3) rfl))) (List.mem_cons_of_mem _ (List.mem_append_left _ (List.mem_of_getElem? (i := 4) rfl))) (gi_sub (fun w h => (List.mem_cons_of_mem _ (List.mem_append_right _ (List.mem_append_right _ (List.mem_append_left _ h))))) zg_k134_X10_isWord)) rfl rfl rfl (by decide +kernel) ⟨Nat.le_of_ble_eq_true rfl, Nat.le_of_ble_eq_true rfl⟩ 1 rfl rfl rfl rfl (Nat.le_of_ble_eq_true rfl) ⟨Nat.le_of_ble_eq_true rfl, Nat.le_of_ble_eq_true rfl⟩ dX5_tellAtHand_62 (fun v ty' w' hp hk' => ?_)
          rcases hp with ⟨rfl, rfl⟩ | ⟨rfl, rfl⟩
          · skip
            show GW κ 1 0 0 (wX q d I A) 65 [(0, .ref (q 3))] [.int 0]
            refine g_if_eq (tgt := 70) (a := 0) hk dX5_tellAtHand_65 (by decide) rfl (fun _ => ?_) (fun z9 => absurd (show (0 : Int) = (0 : Int) from by decide) z9)
            refine g_aload_n hk dX5_tellAtHand_70 rfl ?_
            refine gX_r3_0 hk hin5 (List.mem_cons_of_mem _ (List.mem_append_left _ (List.mem_of_getElem? (i := 0) rfl))) dX5_tellAtHand_71 ?_
            refine g_ldcS hk 6 (by decide) rfl dX5_tellAtHand_74 ?_
            refine g_callV (n := 1) hk (k134_X10_isWord l D zt 6 (by decide) q d I A  hIv) (SP.same _) (fun _ h => h) (gi_V (List.mem_cons_of_mem _ (List.mem_append_left _ (List.mem_of_getElem? (i := 1) rfl))) (List.mem_cons_of_mem _ (List.mem_append_left _ (List.mem_of_getElem? (i := 2) rfl))) (List.mem_cons_of_mem _ (List.mem_append_left _ (List.mem_of_getElem? (i := 3) rfl))) (List.mem_cons_of_mem _ (List.mem_append_left _ (List.mem_of_getElem? (i := 4) rfl))) (gi_sub (fun w h => (List.mem_cons_of_mem _ (List.mem_append_right _ (List.mem_append_right _ (List.mem_append_left _ h))))) zg_k134_X10_isWord)) rfl rfl rfl (by decide +kernel) ⟨Nat.le_of_ble_eq_true rfl, Nat.le_of_ble_eq_true rfl⟩ 1 rfl rfl rfl rfl (Nat.le_of_ble_eq_true rfl) ⟨Nat.le_of_ble_eq_true rfl, Nat.le_of_ble_eq_true rfl⟩ dX5_tellAtHand_76 (fun v ty' w' hp hk' => ?_)
            rcases hp with ⟨rfl, rfl⟩ | ⟨rfl, rfl⟩
            · skip
              show GW κ 1 0 0 (wX q d I A) 79 [(0, .ref (q 3))] [.int 0]
              refine g_if_eq (tgt := 86) (a := 0) hk dX5_tellAtHand_79 (by decide) rfl (fun _ => ?_) (fun z9 => absurd (show (0 : Int) = (0 : Int) from by decide) z9)
              refine g_iconst (v := (-1)) hk dX5_tellAtHand_86 (by decide) ?_
              exact g_iret hk hR rfl ⟨(-1), (by decide), (by decide), rfl, rfl⟩ dX5_tellAtHand_87
            · skip
              show GW κ 1 0 0 (wX q d I A) 79 [(0, .ref (q 3))] [.int 1]
              refine g_if_eq (tgt := 86) (a := 1) hk dX5_tellAtHand_79 (by decide) rfl (fun z9 => absurd z9 (show ¬ ((1 : Int) = (0 : Int)) from by decide)) (fun _ => ?_)
              refine g_iconst (v := 3) hk dX5_tellAtHand_82 (by decide) ?_
              refine g_goto (tgt := 87) hk dX5_tellAtHand_83 (by decide) ?_
              exact g_iret hk hR rfl ⟨3, (by decide), (by decide), rfl, rfl⟩ dX5_tellAtHand_87
          · skip
            show GW κ 1 0 0 (wX q d I A) 65 [(0, .ref (q 3))] [.int 1]
            refine g_if_eq (tgt := 70) (a := 1) hk dX5_tellAtHand_65 (by decide) rfl (fun z9 => absurd z9 (show ¬ ((1 : Int) = (0 : Int)) from by decide)) (fun _ => ?_)
            refine g_iconst (v := 2) hk dX5_tellAtHand_68 (by decide) ?_
            exact g_iret hk hR rfl ⟨2, (by decide), (by decide), rfl, rfl⟩ dX5_tellAtHand_69
        · skip
          show GW κ 1 0 0 (wX q d I A) 51 [(0, .ref (q 3))] [.int 1]
          refine g_if_eq (tgt := 56) (a := 1) hk dX5_tellAtHand_51 (by decide) rfl (fun z9 => absurd z9 (show ¬ ((1 : Int) = (0 : Int)) from by decide)) (fun _ => ?_)
          refine g_iconst (v := 1) hk dX5_tellAtHand_54 (by decide) ?_
          exact g_iret hk hR rfl ⟨1, (by decide), (by decide), rfl, rfl⟩ dX5_tellAtHand_55
      · skip
        show GW κ 1 0 0 (wX q d I A) 37 [(0, .ref (q 3))] [.int 1]
        refine g_if_eq (tgt := 42) (a := 1) hk dX5_tellAtHand_37 (by decide) rfl (fun z9 => absurd z9 (show ¬ ((1 : Int) = (0 : Int)) from by decide)) (fun _ => ?_)
        refine g_iconst (v := 0) hk dX5_tellAtHand_40 (by decide) ?_
        exact g_iret hk hR rfl ⟨0, (by decide), (by decide), rfl, rfl⟩ dX5_tellAtHand_41
    · skip
      show GW κ 1 0 0 (wX q d I A) 23 [(0, .ref (q 3))] [.int 1]
      refine g_if_eq (tgt := 28) (a := 1) hk dX5_tellAtHand_23 (by decide) rfl (fun z9 => absurd z9 (show ¬ ((1 : Int) = (0 : Int)) from by decide)) (fun _ => ?_)
      refine g_iconst (v := 5) hk dX5_tellAtHand_26 (by decide) ?_
      exact g_iret hk hR rfl ⟨5, (by decide), (by decide), rfl, rfl⟩ dX5_tellAtHand_27
  · skip
    show GW κ 1 0 0 (wX q d I A) 9 [(0, .ref (q 3))] [.int 1]
    refine g_if_eq (tgt := 14) (a := 1) hk dX5_tellAtHand_9 (by decide) rfl (fun z9 => absurd z9 (show ¬ ((1 : Int) = (0 : Int)) from by decide)) (fun _ => ?_)
    refine g_iconst (v := 4) hk dX5_tellAtHand_12 (by decide) ?_
    exact g_iret hk hR rfl ⟨4, (by decide), (by decide), rfl, rfl⟩ dX5_tellAtHand_13
def wo_k144_X5_mayStandInRow : List Cond := [Cond.fieldLink RX5 42 "WarpDesk$Reader" "tape" "LWarpDesk$Tape;", Cond.fieldLink RX5 53 "WarpDesk$Tape" "kind" "I", Cond.fieldLink RX5 87 "WarpDesk$Reader" "isNegative" "Z"]
def wz_k144_X5_mayStandInRow : List Cond := .code yX5_mayStandInRow cX5_mayStandInRow 1 (some .boolean) :: (wo_k144_X5_mayStandInRow ++ (wsX50 ++ (wsX100 ++ ([] : List Cond))))
theorem zg_k144_X5_mayStandInRow : ∀ w ∈ wz_k144_X5_mayStandInRow, goodWord w = true := zg_cons rfl (zg_app (by decide +kernel) (zg_app zgU_wsX50 (zg_app zgU_wsX100 zg_nil)))
theorem zi_k144_X5_mayStandInRow : ∀ w ∈ wz_k144_X5_mayStandInRow, w ∈ lw_tbl := zi_cons zw_657 (zi_app (zi_cons zw_230 (zi_cons zw_138 (zi_cons zw_239 zi_nil))) (zi_app inX5 (zi_app inX10 zi_nil)))
set_option maxHeartbeats 4000000 in
set_option maxRecDepth 100000 in
theorem k144_X5_mayStandInRow (l : Launch) (D : va_G) (zt : Nat × Nat × Nat × (Nat → Nat) × (Nat → Nat)) (q : Nat → Nat) (d : Nat → ClassId) (I : Nat → Int32) (A : Nat → Nat → Int32) (hIv : IvX I A) : GM l D zt (tyX d) yX5_mayStandInRow wz_k144_X5_mayStandInRow ({ frames := 0, cells := 0, slots := 0, locals := 0 } : Room) [.ref (q 3)] (wX q d I A) (fun v _ w' => (v = some (.int 0) ∧ w' = wX q d I A) ∨ (v = some (.int 1) ∧ w' = wX q d I A)) 0 0 := by
  refine GM.of (cc := cX5_mayStandInRow) (maxL := 1) (ret := (some .boolean)) (own := RX5) (lv := [(0, .ref (q 3))]) (by decide) rfl rfl (Nat.le_of_ble_eq_true rfl) rfl (fun κ sz hk hR hN => ?_)
  have hin5 : ∀ w ∈ u_ws RX5 TX5 13, w ∈ wz_k144_X5_mayStandInRow := fun w h => (List.mem_cons_of_mem _ (List.mem_append_right _ (List.mem_append_left _ h)))
  have hin10 : ∀ w ∈ u_ws RX10 TX10 7, w ∈ wz_k144_X5_mayStandInRow := fun w h => (List.mem_cons_of_mem _ (List.mem_append_right _ (List.mem_append_right _ (List.mem_append_left _ h))))
  refine g_aload_n hk dX5_mayStandInRow_0 rfl ?_
  refine gX_r3_0 hk hin5 (List.mem_cons_of_mem _ (List.mem_append_left _ (List.mem_of_getElem? (i := 0) rfl))) dX5_mayStandInRow_1 ?_
  refine gX_i1 (v := (I 1)) hk hin10 (List.mem_cons_of_mem _ (List.mem_append_left _ (List.mem_of_getElem? (i := 1) rfl))) dX5_mayStandInRow_4 rfl ?_
  refine g_iconst (v := 2) hk dX5_mayStandInRow_7 (by decide) ?_
  have b822l := Int32.le_toInt (I 1)
  have b822h := Int32.toInt_lt (I 1)
  refine g_icmp_ne (tgt := 13) (a := (I 1).toInt) (b := 2) hk dX5_mayStandInRow_8 (by decide) rfl rfl (fun c823 => ?_) (fun c823 => ?_)
  · skip
    refine g_aload_n hk dX5_mayStandInRow_13 rfl ?_
    refine gX_i8 (v := (I 8)) hk hin5 (List.mem_cons_of_mem _ (List.mem_append_left _ (List.mem_of_getElem? (i := 2) rfl))) dX5_mayStandInRow_14 rfl ?_
    have b824l := Int32.le_toInt (I 8)
    have b824h := Int32.toInt_lt (I 8)
    refine g_if_ne (tgt := 46) (a := (I 8).toInt) hk dX5_mayStandInRow_17 (by decide) rfl (fun c825 => ?_) (fun c825 => ?_)
    · skip
      refine g_iconst (v := 0) hk dX5_mayStandInRow_46 (by decide) ?_
      exact g_iret hk hR rfl (Or.inl ⟨rfl, rfl⟩) dX5_mayStandInRow_47
    · skip
      refine g_aload_n hk dX5_mayStandInRow_20 rfl ?_
      refine gX_r3_0 hk hin5 (List.mem_cons_of_mem _ (List.mem_append_left _ (List.mem_of_getElem? (i := 0) rfl))) dX5_mayStandInRow_21 ?_
      refine gX_i1 (v := (I 1)) hk hin10 (List.mem_cons_of_mem _ (List.mem_append_left _ (List.mem_of_getElem? (i := 1) rfl))) dX5_mayStandInRow_24 rfl ?_
      refine g_iconst (v := 4) hk dX5_mayStandInRow_27 (by decide) ?_
      refine g_icmp_eq (tgt := 42) (a := (I 1).toInt) (b := 4) hk dX5_mayStandInRow_28 (by decide) rfl rfl (fun c826 => ?_) (fun c826 => ?_)
      · skip
        refine g_iconst (v := 1) hk dX5_mayStandInRow_42 (by decide) ?_
        refine g_goto (tgt := 47) hk dX5_mayStandInRow_43 (by decide) ?_
        exact g_iret hk hR rfl (Or.inr (⟨rfl, rfl⟩)) dX5_mayStandInRow_47
      · skip
        refine g_aload_n hk dX5_mayStandInRow_31 rfl ?_
        refine gX_r3_0 hk hin5 (List.mem_cons_of_mem _ (List.mem_append_left _ (List.mem_of_getElem? (i := 0) rfl))) dX5_mayStandInRow_32 ?_
        refine gX_i1 (v := (I 1)) hk hin10 (List.mem_cons_of_mem _ (List.mem_append_left _ (List.mem_of_getElem? (i := 1) rfl))) dX5_mayStandInRow_35 rfl ?_
        refine g_iconst (v := 3) hk dX5_mayStandInRow_38 (by decide) ?_
        refine g_icmp_ne (tgt := 46) (a := (I 1).toInt) (b := 3) hk dX5_mayStandInRow_39 (by decide) rfl rfl (fun c827 => ?_) (fun c827 => ?_)
        · skip
          refine g_iconst (v := 0) hk dX5_mayStandInRow_46 (by decide) ?_
          exact g_iret hk hR rfl (Or.inl ⟨rfl, rfl⟩) dX5_mayStandInRow_47
        · skip
          refine g_iconst (v := 1) hk dX5_mayStandInRow_42 (by decide) ?_
          refine g_goto (tgt := 47) hk dX5_mayStandInRow_43 (by decide) ?_
          exact g_iret hk hR rfl (Or.inr (⟨rfl, rfl⟩)) dX5_mayStandInRow_47
  · skip
    refine g_iconst (v := 1) hk dX5_mayStandInRow_11 (by decide) ?_
    exact g_iret hk hR rfl (Or.inr (⟨rfl, rfl⟩)) dX5_mayStandInRow_12
def wo_k146_X5_levelAtHand : List Cond := [Cond.fieldLink RX5 42 "WarpDesk$Reader" "tape" "LWarpDesk$Tape;", Cond.methodLink RX5 108 yX10_isWord, Cond.instanceMethod yX10_isWord, Cond.selects RX10 yX10_isWord yX10_isWord, Cond.initialized RX10]
def wz_k146_X5_levelAtHand : List Cond := .code yX5_levelAtHand cX5_levelAtHand 1 (some .int) :: (wo_k146_X5_levelAtHand ++ (wsX50 ++ (wz_k134_X10_isWord ++ ([] : List Cond))))
theorem zg_k146_X5_levelAtHand : ∀ w ∈ wz_k146_X5_levelAtHand, goodWord w = true := zg_cons rfl (zg_app (by decide +kernel) (zg_app zgU_wsX50 (zg_app zg_k134_X10_isWord zg_nil)))
theorem zi_k146_X5_levelAtHand : ∀ w ∈ wz_k146_X5_levelAtHand, w ∈ lw_tbl := zi_cons zw_666 (zi_app (zi_cons zw_230 (zi_cons zw_593 (zi_cons zw_594 (zi_cons zw_595 (zi_cons zw_104 zi_nil))))) (zi_app inX5 (zi_app zi_k134_X10_isWord zi_nil)))
set_option maxHeartbeats 4000000 in
set_option maxRecDepth 100000 in
theorem k146_X5_levelAtHand (l : Launch) (D : va_G) (zt : Nat × Nat × Nat × (Nat → Nat) × (Nat → Nat)) (q : Nat → Nat) (d : Nat → ClassId) (I : Nat → Int32) (A : Nat → Nat → Int32) (hIv : IvX I A) : GM l D zt (tyX d) yX5_levelAtHand wz_k146_X5_levelAtHand ({ frames := 5, cells := 0, slots := 0, locals := 107 } : Room) [.ref (q 3)] (wX q d I A) (fun v _ w' => ∃ y0 : Int32, ((-1) ≤ y0.toInt) ∧ (y0.toInt ≤ 3) ∧ v = some (.int y0) ∧ w' = wX q d I A) 0 0 := by
  refine GM.of (cc := cX5_levelAtHand) (maxL := 1) (ret := (some .int)) (own := RX5) (lv := [(0, .ref (q 3))]) (by decide) rfl rfl (Nat.le_of_ble_eq_true rfl) rfl (fun κ sz hk hR hN => ?_)
  have hin5 : ∀ w ∈ u_ws RX5 TX5 13, w ∈ wz_k146_X5_levelAtHand := fun w h => (List.mem_cons_of_mem _ (List.mem_append_right _ (List.mem_append_left _ h)))
  refine g_aload_n hk dX5_levelAtHand_0 rfl ?_
  refine gX_r3_0 hk hin5 (List.mem_cons_of_mem _ (List.mem_append_left _ (List.mem_of_getElem? (i := 0) rfl))) dX5_levelAtHand_1 ?_
  refine g_ldcS hk 7 (by decide) rfl dX5_levelAtHand_4 ?_
  refine g_callV (n := 1) hk (k134_X10_isWord l D zt 7 (by decide) q d I A  hIv) (SP.same _) (fun _ h => h) (gi_V (List.mem_cons_of_mem _ (List.mem_append_left _ (List.mem_of_getElem? (i := 1) rfl))) (List.mem_cons_of_mem _ (List.mem_append_left _ (List.mem_of_getElem? (i := 2) rfl))) (List.mem_cons_of_mem _ (List.mem_append_left _ (List.mem_of_getElem? (i := 3) rfl))) (List.mem_cons_of_mem _ (List.mem_append_left _ (List.mem_of_getElem? (i := 4) rfl))) (gi_sub (fun w h => (List.mem_cons_of_mem _ (List.mem_append_right _ (List.mem_append_right _ (List.mem_append_left _ h))))) zg_k134_X10_isWord)) rfl rfl rfl (by decide +kernel) ⟨Nat.le_of_ble_eq_true rfl, Nat.le_of_ble_eq_true rfl⟩ 1 rfl rfl rfl rfl (Nat.le_of_ble_eq_true rfl) ⟨Nat.le_of_ble_eq_true rfl, Nat.le_of_ble_eq_true rfl⟩ dX5_levelAtHand_6 (fun v ty' w' hp hk' => ?_)
  rcases hp with ⟨rfl, rfl⟩ | ⟨rfl, rfl⟩
  · skip
    show GW κ 1 0 0 (wX q d I A) 9 [(0, .ref (q 3))] [.int 0]
    refine g_if_eq (tgt := 14) (a := 0) hk dX5_levelAtHand_9 (by decide) rfl (fun _ => ?_) (fun z9 => absurd (show (0 : Int) = (0 : Int) from by decide) z9)
    refine g_aload_n hk dX5_levelAtHand_14 rfl ?_
    refine gX_r3_0 hk hin5 (List.mem_cons_of_mem _ (List.mem_append_left _ (List.mem_of_getElem? (i := 0) rfl))) dX5_levelAtHand_15 ?_
    refine g_ldcS hk 8 (by decide) rfl dX5_levelAtHand_18 ?_
    refine g_callV (n := 1) hk (k134_X10_isWord l D zt 8 (by decide) q d I A  hIv) (SP.same _) (fun _ h => h) (gi_V (List.mem_cons_of_mem _ (List.mem_append_left _ (List.mem_of_getElem? (i := 1) rfl))) (List.mem_cons_of_mem _ (List.mem_append_left _ (List.mem_of_getElem? (i := 2) rfl))) (List.mem_cons_of_mem _ (List.mem_append_left _ (List.mem_of_getElem? (i := 3) rfl))) (List.mem_cons_of_mem _ (List.mem_append_left _ (List.mem_of_getElem? (i := 4) rfl))) (gi_sub (fun w h => (List.mem_cons_of_mem _ (List.mem_append_right _ (List.mem_append_right _ (List.mem_append_left _ h))))) zg_k134_X10_isWord)) rfl rfl rfl (by decide +kernel) ⟨Nat.le_of_ble_eq_true rfl, Nat.le_of_ble_eq_true rfl⟩ 1 rfl rfl rfl rfl (Nat.le_of_ble_eq_true rfl) ⟨Nat.le_of_ble_eq_true rfl, Nat.le_of_ble_eq_true rfl⟩ dX5_levelAtHand_20 (fun v ty' w' hp hk' => ?_)
    rcases hp with ⟨rfl, rfl⟩ | ⟨rfl, rfl⟩
    · skip
      show GW κ 1 0 0 (wX q d I A) 23 [(0, .ref (q 3))] [.int 0]
      refine g_if_eq (tgt := 28) (a := 0) hk dX5_levelAtHand_23 (by decide) rfl (fun _ => ?_) (fun z9 => absurd (show (0 : Int) = (0 : Int) from by decide) z9)
      refine g_aload_n hk dX5_levelAtHand_28 rfl ?_
      refine gX_r3_0 hk hin5 (List.mem_cons_of_mem _ (List.mem_append_left _ (List.mem_of_getElem? (i := 0) rfl))) dX5_levelAtHand_29 ?_
      refine g_ldcS hk 9 (by decide) rfl dX5_levelAtHand_32 ?_
      refine g_callV (n := 1) hk (k134_X10_isWord l D zt 9 (by decide) q d I A  hIv) (SP.same _) (fun _ h => h) (gi_V (List.mem_cons_of_mem _ (List.mem_append_left _ (List.mem_of_getElem? (i := 1) rfl))) (List.mem_cons_of_mem _ (List.mem_append_left _ (List.mem_of_getElem? (i := 2) rfl))) (List.mem_cons_of_mem _ (List.mem_append_left _ (List.mem_of_getElem? (i := 3) rfl))) (List.mem_cons_of_mem _ (List.mem_append_left _ (List.mem_of_getElem? (i := 4) rfl))) (gi_sub (fun w h => (List.mem_cons_of_mem _ (List.mem_append_right _ (List.mem_append_right _ (List.mem_append_left _ h))))) zg_k134_X10_isWord)) rfl rfl rfl (by decide +kernel) ⟨Nat.le_of_ble_eq_true rfl, Nat.le_of_ble_eq_true rfl⟩ 1 rfl rfl rfl rfl (Nat.le_of_ble_eq_true rfl) ⟨Nat.le_of_ble_eq_true rfl, Nat.le_of_ble_eq_true rfl⟩ dX5_levelAtHand_34 (fun v ty' w' hp hk' => ?_)
      rcases hp with ⟨rfl, rfl⟩ | ⟨rfl, rfl⟩
      · skip
        show GW κ 1 0 0 (wX q d I A) 37 [(0, .ref (q 3))] [.int 0]
        refine g_if_eq (tgt := 42) (a := 0) hk dX5_levelAtHand_37 (by decide) rfl (fun _ => ?_) (fun z9 => absurd (show (0 : Int) = (0 : Int) from by decide) z9)
        refine g_aload_n hk dX5_levelAtHand_42 rfl ?_
        refine gX_r3_0 hk hin5 (List.mem_cons_of_mem _ (List.mem_append_left _ (List.mem_of_getElem? (i := 0) rfl))) dX5_levelAtHand_43 ?_
        refine g_ldcS hk 10 (by decide) rfl dX5_levelAtHand_46 ?_
        refine g_callV (n := 1) hk (k134_X10_isWord l D zt 10 (by decide) q d I A  hIv) (SP.same _) (fun _ h => h) (gi_V (List.mem_cons_of_mem _ (List.mem_append_left _ (List.mem_of_getElem? (i := 1) rfl))) (List.mem_cons_of_mem _ (List.mem_append_left _ (List.mem_of_getElem? (i := 2) rfl))) (List.mem_cons_of_mem _ (List.mem_append_left _ (List.mem_of_getElem? (i := 3) rfl))) (List.mem_cons_of_mem _ (List.mem_append_left _ (List.mem_of_getElem? (i := 4) rfl))) (gi_sub (fun w h => (List.mem_cons_of_mem _ (List.mem_append_right _ (List.mem_append_right _ (List.mem_append_left _ h))))) zg_k134_X10_isWord)) rfl rfl rfl (by decide +kernel) ⟨Nat.le_of_ble_eq_true rfl, Nat.le_of_ble_eq_true rfl⟩ 1 rfl rfl rfl rfl (Nat.le_of_ble_eq_true rfl) ⟨Nat.le_of_ble_eq_true rfl, Nat.le_of_ble_eq_true rfl⟩ dX5_levelAtHand_48 (fun v ty' w' hp hk' => ?_)
        rcases hp with ⟨rfl, rfl⟩ | ⟨rfl, rfl⟩
        · skip
          show GW κ 1 0 0 (wX q d I A) 51 [(0, .ref (q 3))] [.int 0]
          refine g_if_eq (tgt := 58) (a := 0) hk dX5_levelAtHand_51 (by decide) rfl (fun _ => ?_) (fun z9 => absurd (show (0 : Int) = (0 : Int) from by decide) z9)
          refine g_iconst (v := (-1)) hk dX5_levelAtHand_58 (by decide) ?_
          exact g_iret hk hR rfl ⟨(-1), (by decide), (by decide), rfl, rfl⟩ dX5_levelAtHand_59
        · skip
          show GW κ 1 0 0 (wX q d I A) 51 [(0, .ref (q 3))] [.int 1]
          refine g_if_eq (tgt := 58) (a := 1) hk dX5_levelAtHand_51 (by decide) rfl (fun z9 => absurd z9 (show ¬ ((1 : Int) = (0 : Int)) from by decide)) (fun _ => ?_)
          refine g_iconst (v := 3) hk dX5_levelAtHand_54 (by decide) ?_
          refine g_goto (tgt := 59) hk dX5_levelAtHand_55 (by decide) ?_
          exact g_iret hk hR rfl ⟨3, (by decide), (by decide), rfl, rfl⟩ dX5_levelAtHand_59
      · skip
        show GW κ 1 0 0 (wX q d I A) 37 [(0, .ref (q 3))] [.int 1]
        refine g_if_eq (tgt := 42) (a := 1) hk dX5_levelAtHand_37 (by decide) rfl (fun z9 => absurd z9 (show ¬ ((1 : Int) = (0 : Int)) from by decide)) (fun _ => ?_)
        refine g_iconst (v := 2) hk dX5_levelAtHand_40 (by decide) ?_
        exact g_iret hk hR rfl ⟨2, (by decide), (by decide), rfl, rfl⟩ dX5_levelAtHand_41
    · skip
      show GW κ 1 0 0 (wX q d I A) 23 [(0, .ref (q 3))] [.int 1]
      refine g_if_eq (tgt := 28) (a := 1) hk dX5_levelAtHand_23 (by decide) rfl (fun z9 => absurd z9 (show ¬ ((1 : Int) = (0 : Int)) from by decide)) (fun _ => ?_)
      refine g_iconst (v := 1) hk dX5_levelAtHand_26 (by decide) ?_
      exact g_iret hk hR rfl ⟨1, (by decide), (by decide), rfl, rfl⟩ dX5_levelAtHand_27
  · skip
    show GW κ 1 0 0 (wX q d I A) 9 [(0, .ref (q 3))] [.int 1]
    refine g_if_eq (tgt := 14) (a := 1) hk dX5_levelAtHand_9 (by decide) rfl (fun z9 => absurd z9 (show ¬ ((1 : Int) = (0 : Int)) from by decide)) (fun _ => ?_)
    refine g_iconst (v := 0) hk dX5_levelAtHand_12 (by decide) ?_
    exact g_iret hk hR rfl ⟨0, (by decide), (by decide), rfl, rfl⟩ dX5_levelAtHand_13
def wo_k147_X5_costAtHand : List Cond := [Cond.fieldLink RX5 42 "WarpDesk$Reader" "tape" "LWarpDesk$Tape;", Cond.methodLink RX5 108 yX10_isWord, Cond.instanceMethod yX10_isWord, Cond.selects RX10 yX10_isWord yX10_isWord, Cond.initialized RX10]
def wz_k147_X5_costAtHand : List Cond := .code yX5_costAtHand cX5_costAtHand 1 (some .int) :: (wo_k147_X5_costAtHand ++ (wsX50 ++ (wz_k134_X10_isWord ++ ([] : List Cond))))
theorem zg_k147_X5_costAtHand : ∀ w ∈ wz_k147_X5_costAtHand, goodWord w = true := zg_cons rfl (zg_app (by decide +kernel) (zg_app zgU_wsX50 (zg_app zg_k134_X10_isWord zg_nil)))
theorem zi_k147_X5_costAtHand : ∀ w ∈ wz_k147_X5_costAtHand, w ∈ lw_tbl := zi_cons zw_674 (zi_app (zi_cons zw_230 (zi_cons zw_593 (zi_cons zw_594 (zi_cons zw_595 (zi_cons zw_104 zi_nil))))) (zi_app inX5 (zi_app zi_k134_X10_isWord zi_nil)))
set_option maxHeartbeats 4000000 in
set_option maxRecDepth 100000 in
theorem k147_X5_costAtHand (l : Launch) (D : va_G) (zt : Nat × Nat × Nat × (Nat → Nat) × (Nat → Nat)) (q : Nat → Nat) (d : Nat → ClassId) (I : Nat → Int32) (A : Nat → Nat → Int32) (hIv : IvX I A) : GM l D zt (tyX d) yX5_costAtHand wz_k147_X5_costAtHand ({ frames := 5, cells := 0, slots := 0, locals := 107 } : Room) [.ref (q 3)] (wX q d I A) (fun v _ w' => (v = some (.int (-1)) ∧ w' = wX q d I A) ∨ (v = some (.int 0) ∧ w' = wX q d I A) ∨ (v = some (.int 1) ∧ w' = wX q d I A)) 0 0 := by
  refine GM.of (cc := cX5_costAtHand) (maxL := 1) (ret := (some .int)) (own := RX5) (lv := [(0, .ref (q 3))]) (by decide) rfl rfl (Nat.le_of_ble_eq_true rfl) rfl (fun κ sz hk hR hN => ?_)
  have hin5 : ∀ w ∈ u_ws RX5 TX5 13, w ∈ wz_k147_X5_costAtHand := fun w h => (List.mem_cons_of_mem _ (List.mem_append_right _ (List.mem_append_left _ h)))
  refine g_aload_n hk dX5_costAtHand_0 rfl ?_
  refine gX_r3_0 hk hin5 (List.mem_cons_of_mem _ (List.mem_append_left _ (List.mem_of_getElem? (i := 0) rfl))) dX5_costAtHand_1 ?_
  refine g_ldcS hk 11 (by decide) rfl dX5_costAtHand_4 ?_
  refine g_callV (n := 1) hk (k134_X10_isWord l D zt 11 (by decide) q d I A  hIv) (SP.same _) (fun _ h => h) (gi_V (List.mem_cons_of_mem _ (List.mem_append_left _ (List.mem_of_getElem? (i := 1) rfl))) (List.mem_cons_of_mem _ (List.mem_append_left _ (List.mem_of_getElem? (i := 2) rfl))) (List.mem_cons_of_mem _ (List.mem_append_left _ (List.mem_of_getElem? (i := 3) rfl))) (List.mem_cons_of_mem _ (List.mem_append_left _ (List.mem_of_getElem? (i := 4) rfl))) (gi_sub (fun w h => (List.mem_cons_of_mem _ (List.mem_append_right _ (List.mem_append_right _ (List.mem_append_left _ h))))) zg_k134_X10_isWord)) rfl rfl rfl (by decide +kernel) ⟨Nat.le_of_ble_eq_true rfl, Nat.le_of_ble_eq_true rfl⟩ 1 rfl rfl rfl rfl (Nat.le_of_ble_eq_true rfl) ⟨Nat.le_of_ble_eq_true rfl, Nat.le_of_ble_eq_true rfl⟩ dX5_costAtHand_6 (fun v ty' w' hp hk' => ?_)
  rcases hp with ⟨rfl, rfl⟩ | ⟨rfl, rfl⟩
  · skip
    show GW κ 1 0 0 (wX q d I A) 9 [(0, .ref (q 3))] [.int 0]
    refine g_if_eq (tgt := 14) (a := 0) hk dX5_costAtHand_9 (by decide) rfl (fun _ => ?_) (fun z9 => absurd (show (0 : Int) = (0 : Int) from by decide) z9)
    refine g_aload_n hk dX5_costAtHand_14 rfl ?_
    refine gX_r3_0 hk hin5 (List.mem_cons_of_mem _ (List.mem_append_left _ (List.mem_of_getElem? (i := 0) rfl))) dX5_costAtHand_15 ?_
    refine g_ldcS hk 12 (by decide) rfl dX5_costAtHand_18 ?_
    refine g_callV (n := 1) hk (k134_X10_isWord l D zt 12 (by decide) q d I A  hIv) (SP.same _) (fun _ h => h) (gi_V (List.mem_cons_of_mem _ (List.mem_append_left _ (List.mem_of_getElem? (i := 1) rfl))) (List.mem_cons_of_mem _ (List.mem_append_left _ (List.mem_of_getElem? (i := 2) rfl))) (List.mem_cons_of_mem _ (List.mem_append_left _ (List.mem_of_getElem? (i := 3) rfl))) (List.mem_cons_of_mem _ (List.mem_append_left _ (List.mem_of_getElem? (i := 4) rfl))) (gi_sub (fun w h => (List.mem_cons_of_mem _ (List.mem_append_right _ (List.mem_append_right _ (List.mem_append_left _ h))))) zg_k134_X10_isWord)) rfl rfl rfl (by decide +kernel) ⟨Nat.le_of_ble_eq_true rfl, Nat.le_of_ble_eq_true rfl⟩ 1 rfl rfl rfl rfl (Nat.le_of_ble_eq_true rfl) ⟨Nat.le_of_ble_eq_true rfl, Nat.le_of_ble_eq_true rfl⟩ dX5_costAtHand_20 (fun v ty' w' hp hk' => ?_)
    rcases hp with ⟨rfl, rfl⟩ | ⟨rfl, rfl⟩
    · skip
      show GW κ 1 0 0 (wX q d I A) 23 [(0, .ref (q 3))] [.int 0]
      refine g_if_eq (tgt := 30) (a := 0) hk dX5_costAtHand_23 (by decide) rfl (fun _ => ?_) (fun z9 => absurd (show (0 : Int) = (0 : Int) from by decide) z9)
      refine g_iconst (v := (-1)) hk dX5_costAtHand_30 (by decide) ?_
      exact g_iret hk hR rfl (Or.inl ⟨rfl, rfl⟩) dX5_costAtHand_31
    · skip
      show GW κ 1 0 0 (wX q d I A) 23 [(0, .ref (q 3))] [.int 1]
      refine g_if_eq (tgt := 30) (a := 1) hk dX5_costAtHand_23 (by decide) rfl (fun z9 => absurd z9 (show ¬ ((1 : Int) = (0 : Int)) from by decide)) (fun _ => ?_)
      refine g_iconst (v := 1) hk dX5_costAtHand_26 (by decide) ?_
      refine g_goto (tgt := 31) hk dX5_costAtHand_27 (by decide) ?_
      exact g_iret hk hR rfl (Or.inr (Or.inr (⟨rfl, rfl⟩))) dX5_costAtHand_31
  · skip
    show GW κ 1 0 0 (wX q d I A) 9 [(0, .ref (q 3))] [.int 1]
    refine g_if_eq (tgt := 14) (a := 1) hk dX5_costAtHand_9 (by decide) rfl (fun z9 => absurd z9 (show ¬ ((1 : Int) = (0 : Int)) from by decide)) (fun _ => ?_)
    refine g_iconst (v := 0) hk dX5_costAtHand_12 (by decide) ?_
    exact g_iret hk hR rfl (Or.inr (Or.inl ⟨rfl, rfl⟩)) dX5_costAtHand_13
def wo_k145_X5_isNameAtHand : List Cond := [Cond.methodLink RX5 99 yX5_tellAtHand, Cond.instanceMethod yX5_tellAtHand, Cond.selects RX5 yX5_tellAtHand yX5_tellAtHand, Cond.initialized RX5, Cond.fieldLink RX5 42 "WarpDesk$Reader" "tape" "LWarpDesk$Tape;", Cond.fieldLink RX5 53 "WarpDesk$Tape" "kind" "I", Cond.methodLink RX5 118 yX5_levelAtHand, Cond.instanceMethod yX5_levelAtHand, Cond.selects RX5 yX5_levelAtHand yX5_levelAtHand, Cond.methodLink RX5 121 yX5_costAtHand, Cond.instanceMethod yX5_costAtHand, Cond.selects RX5 yX5_costAtHand yX5_costAtHand, Cond.methodLink RX5 108 yX10_isWord, Cond.instanceMethod yX10_isWord, Cond.selects RX10 yX10_isWord yX10_isWord, Cond.initialized RX10]
def wz_k145_X5_isNameAtHand : List Cond := .code yX5_isNameAtHand cX5_isNameAtHand 2 (some .boolean) :: (wo_k145_X5_isNameAtHand ++ (wsX50 ++ (wsX100 ++ (wz_k133_X5_tellAtHand ++ (wz_k146_X5_levelAtHand ++ (wz_k147_X5_costAtHand ++ (wz_k134_X10_isWord ++ ([] : List Cond))))))))
theorem zg_k145_X5_isNameAtHand : ∀ w ∈ wz_k145_X5_isNameAtHand, goodWord w = true := zg_cons rfl (zg_app (by decide +kernel) (zg_app zgU_wsX50 (zg_app zgU_wsX100 (zg_app zg_k133_X5_tellAtHand (zg_app zg_k146_X5_levelAtHand (zg_app zg_k147_X5_costAtHand (zg_app zg_k134_X10_isWord zg_nil)))))))
theorem zi_k145_X5_isNameAtHand : ∀ w ∈ wz_k145_X5_isNameAtHand, w ∈ lw_tbl := zi_cons zw_662 (zi_app (zi_cons zw_588 (zi_cons zw_590 (zi_cons zw_6 (zi_cons zw_105 (zi_cons zw_230 (zi_cons zw_138 (zi_cons zw_663 (zi_cons zw_665 (zi_cons zw_9 (zi_cons zw_671 (zi_cons zw_673 (zi_cons zw_10 (zi_cons zw_593 (zi_cons zw_594 (zi_cons zw_595 (zi_cons zw_104 zi_nil)))))))))))))))) (zi_app inX5 (zi_app inX10 (zi_app zi_k133_X5_tellAtHand (zi_app zi_k146_X5_levelAtHand (zi_app zi_k147_X5_costAtHand (zi_app zi_k134_X10_isWord zi_nil)))))))
set_option maxHeartbeats 4000000 in
set_option maxRecDepth 100000 in
theorem k145_X5_isNameAtHand (l : Launch) (D : va_G) (zt : Nat × Nat × Nat × (Nat → Nat) × (Nat → Nat)) (q : Nat → Nat) (d : Nat → ClassId) (I : Nat → Int32) (A : Nat → Nat → Int32) (hIv : IvX I A) : GM l D zt (tyX d) yX5_isNameAtHand wz_k145_X5_isNameAtHand ({ frames := 6, cells := 0, slots := 0, locals := 127 } : Room) [.ref (q 3)] (wX q d I A) (fun v _ w' => (v = some (.int 0) ∧ w' = wX q d I A) ∨ (v = some (.int 1) ∧ w' = wX q d I A)) 0 0 := by
  refine GM.of (cc := cX5_isNameAtHand) (maxL := 2) (ret := (some .boolean)) (own := RX5) (lv := [(0, .ref (q 3))]) (by decide) rfl rfl (Nat.le_of_ble_eq_true rfl) rfl (fun κ sz hk hR hN => ?_)
  have hin5 : ∀ w ∈ u_ws RX5 TX5 13, w ∈ wz_k145_X5_isNameAtHand := fun w h => (List.mem_cons_of_mem _ (List.mem_append_right _ (List.mem_append_left _ h)))
  have hin10 : ∀ w ∈ u_ws RX10 TX10 7, w ∈ wz_k145_X5_isNameAtHand := fun w h => (List.mem_cons_of_mem _ (List.mem_append_right _ (List.mem_append_right _ (List.mem_append_left _ h))))
  refine g_aload_n hk dX5_isNameAtHand_0 rfl ?_
  refine g_callV (n := 0) hk (k133_X5_tellAtHand l D zt q d I A  hIv) (SP.same _) (fun _ h => h) (gi_V (List.mem_cons_of_mem _ (List.mem_append_left _ (List.mem_of_getElem? (i := 0) rfl))) (List.mem_cons_of_mem _ (List.mem_append_left _ (List.mem_of_getElem? (i := 1) rfl))) (List.mem_cons_of_mem _ (List.mem_append_left _ (List.mem_of_getElem? (i := 2) rfl))) (List.mem_cons_of_mem _ (List.mem_append_left _ (List.mem_of_getElem? (i := 3) rfl))) (gi_sub (fun w h => (List.mem_cons_of_mem _ (List.mem_append_right _ (List.mem_append_right _ (List.mem_append_right _ (List.mem_append_left _ h)))))) zg_k133_X5_tellAtHand)) rfl rfl rfl (by decide +kernel) ⟨Nat.le_of_ble_eq_true rfl, Nat.le_of_ble_eq_true rfl⟩ 3 rfl rfl rfl rfl (Nat.le_of_ble_eq_true rfl) ⟨Nat.le_of_ble_eq_true rfl, Nat.le_of_ble_eq_true rfl⟩ dX5_isNameAtHand_1 (fun v ty' w' hp hk' => ?_)
  obtain ⟨y835, c836, c837, rfl, rfl⟩ := hp
  show GW κ 2 0 0 (wX q d I A) 4 [(0, .ref (q 3))] [.int y835]
  refine g_if_ge (tgt := 33) (a := y835.toInt) hk dX5_isNameAtHand_4 (by decide) rfl (fun c838 => ?_) (fun c838 => ?_)
  · skip
    refine g_iconst (v := 1) hk dX5_isNameAtHand_33 (by decide) ?_
    refine g_goto (tgt := 38) hk dX5_isNameAtHand_34 (by decide) ?_
    refine g_istore_n (lv' := [(1, .int 1), (0, .ref (q 3))]) hk dX5_isNameAtHand_38 (by decide) rfl ?_
    refine g_aload_n hk dX5_isNameAtHand_39 rfl ?_
    refine gX_r3_0 hk hin5 (List.mem_cons_of_mem _ (List.mem_append_left _ (List.mem_of_getElem? (i := 4) rfl))) dX5_isNameAtHand_40 ?_
    refine gX_i1 (v := (I 1)) hk hin10 (List.mem_cons_of_mem _ (List.mem_append_left _ (List.mem_of_getElem? (i := 5) rfl))) dX5_isNameAtHand_43 rfl ?_
    refine g_iconst (v := 1) hk dX5_isNameAtHand_46 (by decide) ?_
    have b839l := Int32.le_toInt (I 1)
    have b839h := Int32.toInt_lt (I 1)
    refine g_icmp_ne (tgt := 58) (a := (I 1).toInt) (b := 1) hk dX5_isNameAtHand_47 (by decide) rfl rfl (fun c840 => ?_) (fun c840 => ?_)
    · skip
      refine g_iconst (v := 0) hk dX5_isNameAtHand_58 (by decide) ?_
      exact g_iret hk hR rfl (Or.inl ⟨rfl, rfl⟩) dX5_isNameAtHand_59
    · skip
      refine g_iload_n hk dX5_isNameAtHand_50 rfl ?_
      refine g_if_ne (tgt := 58) (a := 1) hk dX5_isNameAtHand_51 (by decide) rfl (fun _ => ?_) (fun z9 => absurd (show (1 : Int) ≠ (0 : Int) from by decide) z9)
      refine g_iconst (v := 0) hk dX5_isNameAtHand_58 (by decide) ?_
      exact g_iret hk hR rfl (Or.inl ⟨rfl, rfl⟩) dX5_isNameAtHand_59
  · skip
    refine g_aload_n hk dX5_isNameAtHand_7 rfl ?_
    refine g_callV (n := 0) hk (k146_X5_levelAtHand l D zt q d I A  hIv) (SP.same _) (fun _ h => h) (gi_V (List.mem_cons_of_mem _ (List.mem_append_left _ (List.mem_of_getElem? (i := 6) rfl))) (List.mem_cons_of_mem _ (List.mem_append_left _ (List.mem_of_getElem? (i := 7) rfl))) (List.mem_cons_of_mem _ (List.mem_append_left _ (List.mem_of_getElem? (i := 8) rfl))) (List.mem_cons_of_mem _ (List.mem_append_left _ (List.mem_of_getElem? (i := 3) rfl))) (gi_sub (fun w h => (List.mem_cons_of_mem _ (List.mem_append_right _ (List.mem_append_right _ (List.mem_append_right _ (List.mem_append_right _ (List.mem_append_left _ h))))))) zg_k146_X5_levelAtHand)) rfl rfl rfl (by decide +kernel) ⟨Nat.le_of_ble_eq_true rfl, Nat.le_of_ble_eq_true rfl⟩ 3 rfl rfl rfl rfl (Nat.le_of_ble_eq_true rfl) ⟨Nat.le_of_ble_eq_true rfl, Nat.le_of_ble_eq_true rfl⟩ dX5_isNameAtHand_8 (fun v ty' w' hp hk' => ?_)
    obtain ⟨y849, c850, c851, rfl, rfl⟩ := hp
    show GW κ 2 0 0 (wX q d I A) 11 [(0, .ref (q 3))] [.int y849]
    refine g_if_ge (tgt := 33) (a := y849.toInt) hk dX5_isNameAtHand_11 (by decide) rfl (fun c852 => ?_) (fun c852 => ?_)
    · skip
      refine g_iconst (v := 1) hk dX5_isNameAtHand_33 (by decide) ?_
      refine g_goto (tgt := 38) hk dX5_isNameAtHand_34 (by decide) ?_
      refine g_istore_n (lv' := [(1, .int 1), (0, .ref (q 3))]) hk dX5_isNameAtHand_38 (by decide) rfl ?_
      refine g_aload_n hk dX5_isNameAtHand_39 rfl ?_
      refine gX_r3_0 hk hin5 (List.mem_cons_of_mem _ (List.mem_append_left _ (List.mem_of_getElem? (i := 4) rfl))) dX5_isNameAtHand_40 ?_
      refine gX_i1 (v := (I 1)) hk hin10 (List.mem_cons_of_mem _ (List.mem_append_left _ (List.mem_of_getElem? (i := 5) rfl))) dX5_isNameAtHand_43 rfl ?_
      refine g_iconst (v := 1) hk dX5_isNameAtHand_46 (by decide) ?_
      have b853l := Int32.le_toInt (I 1)
      have b853h := Int32.toInt_lt (I 1)
      refine g_icmp_ne (tgt := 58) (a := (I 1).toInt) (b := 1) hk dX5_isNameAtHand_47 (by decide) rfl rfl (fun c854 => ?_) (fun c854 => ?_)
      · skip
        refine g_iconst (v := 0) hk dX5_isNameAtHand_58 (by decide) ?_
        exact g_iret hk hR rfl (Or.inl ⟨rfl, rfl⟩) dX5_isNameAtHand_59
      · skip
        refine g_iload_n hk dX5_isNameAtHand_50 rfl ?_
        refine g_if_ne (tgt := 58) (a := 1) hk dX5_isNameAtHand_51 (by decide) rfl (fun _ => ?_) (fun z9 => absurd (show (1 : Int) ≠ (0 : Int) from by decide) z9)
        refine g_iconst (v := 0) hk dX5_isNameAtHand_58 (by decide) ?_
        exact g_iret hk hR rfl (Or.inl ⟨rfl, rfl⟩) dX5_isNameAtHand_59
    · skip
      refine g_aload_n hk dX5_isNameAtHand_14 rfl ?_
      refine g_callV (n := 0) hk (k147_X5_costAtHand l D zt q d I A  hIv) (SP.same _) (fun _ h => h) (gi_V (List.mem_cons_of_mem _ (List.mem_append_left _ (List.mem_of_getElem? (i := 9) rfl))) (List.mem_cons_of_mem _ (List.mem_append_left _ (List.mem_of_getElem? (i := 10) rfl))) (List.mem_cons_of_mem _ (List.mem_append_left _ (List.mem_of_getElem? (i := 11) rfl))) (List.mem_cons_of_mem _ (List.mem_append_left _ (List.mem_of_getElem? (i := 3) rfl))) (gi_sub (fun w h => (List.mem_cons_of_mem _ (List.mem_append_right _ (List.mem_append_right _ (List.mem_append_right _ (List.mem_append_right _ (List.mem_append_right _ (List.mem_append_left _ h)))))))) zg_k147_X5_costAtHand)) rfl rfl rfl (by decide +kernel) ⟨Nat.le_of_ble_eq_true rfl, Nat.le_of_ble_eq_true rfl⟩ 3 rfl rfl rfl rfl (Nat.le_of_ble_eq_true rfl) ⟨Nat.le_of_ble_eq_true rfl, Nat.le_of_ble_eq_true rfl⟩ dX5_isNameAtHand_15 (fun v ty' w' hp hk' => ?_)
      rcases hp with ⟨rfl, rfl⟩ | ⟨rfl, rfl⟩ | ⟨rfl, rfl⟩
      · skip
        show GW κ 2 0 0 (wX q d I A) 18 [(0, .ref (q 3))] [.int (-1)]
        refine g_if_ge (tgt := 33) (a := (-1)) hk dX5_isNameAtHand_18 (by decide) rfl (fun z9 => absurd z9 (show ¬ ((0 : Int) ≤ ((-1) : Int)) from by decide)) (fun _ => ?_)
        refine g_aload_n hk dX5_isNameAtHand_21 rfl ?_
        refine gX_r3_0 hk hin5 (List.mem_cons_of_mem _ (List.mem_append_left _ (List.mem_of_getElem? (i := 4) rfl))) dX5_isNameAtHand_22 ?_
        refine g_ldcS hk 0 (by decide) rfl dX5_isNameAtHand_25 ?_
        refine g_callV (n := 1) hk (k134_X10_isWord l D zt 0 (by decide) q d I A  hIv) (SP.same _) (fun _ h => h) (gi_V (List.mem_cons_of_mem _ (List.mem_append_left _ (List.mem_of_getElem? (i := 12) rfl))) (List.mem_cons_of_mem _ (List.mem_append_left _ (List.mem_of_getElem? (i := 13) rfl))) (List.mem_cons_of_mem _ (List.mem_append_left _ (List.mem_of_getElem? (i := 14) rfl))) (List.mem_cons_of_mem _ (List.mem_append_left _ (List.mem_of_getElem? (i := 15) rfl))) (gi_sub (fun w h => (List.mem_cons_of_mem _ (List.mem_append_right _ (List.mem_append_right _ (List.mem_append_right _ (List.mem_append_right _ (List.mem_append_right _ (List.mem_append_right _ (List.mem_append_left _ h))))))))) zg_k134_X10_isWord)) rfl rfl rfl (by decide +kernel) ⟨Nat.le_of_ble_eq_true rfl, Nat.le_of_ble_eq_true rfl⟩ 1 rfl rfl rfl rfl (Nat.le_of_ble_eq_true rfl) ⟨Nat.le_of_ble_eq_true rfl, Nat.le_of_ble_eq_true rfl⟩ dX5_isNameAtHand_27 (fun v ty' w' hp hk' => ?_)
        rcases hp with ⟨rfl, rfl⟩ | ⟨rfl, rfl⟩
        · skip
          show GW κ 2 0 0 (wX q d I A) 30 [(0, .ref (q 3))] [.int 0]
          refine g_if_eq (tgt := 37) (a := 0) hk dX5_isNameAtHand_30 (by decide) rfl (fun _ => ?_) (fun z9 => absurd (show (0 : Int) = (0 : Int) from by decide) z9)
          refine g_iconst (v := 0) hk dX5_isNameAtHand_37 (by decide) ?_
          refine g_istore_n (lv' := [(1, .int 0), (0, .ref (q 3))]) hk dX5_isNameAtHand_38 (by decide) rfl ?_
          refine g_aload_n hk dX5_isNameAtHand_39 rfl ?_
          refine gX_r3_0 hk hin5 (List.mem_cons_of_mem _ (List.mem_append_left _ (List.mem_of_getElem? (i := 4) rfl))) dX5_isNameAtHand_40 ?_
          refine gX_i1 (v := (I 1)) hk hin10 (List.mem_cons_of_mem _ (List.mem_append_left _ (List.mem_of_getElem? (i := 5) rfl))) dX5_isNameAtHand_43 rfl ?_
          refine g_iconst (v := 1) hk dX5_isNameAtHand_46 (by decide) ?_
          have b864l := Int32.le_toInt (I 1)
          have b864h := Int32.toInt_lt (I 1)
          refine g_icmp_ne (tgt := 58) (a := (I 1).toInt) (b := 1) hk dX5_isNameAtHand_47 (by decide) rfl rfl (fun c865 => ?_) (fun c865 => ?_)
          · skip
            refine g_iconst (v := 0) hk dX5_isNameAtHand_58 (by decide) ?_
            exact g_iret hk hR rfl (Or.inl ⟨rfl, rfl⟩) dX5_isNameAtHand_59
          · skip
            refine g_iload_n hk dX5_isNameAtHand_50 rfl ?_
            refine g_if_ne (tgt := 58) (a := 0) hk dX5_isNameAtHand_51 (by decide) rfl (fun z9 => absurd z9 (show ¬ ((0 : Int) ≠ (0 : Int)) from by decide)) (fun _ => ?_)
            refine g_iconst (v := 1) hk dX5_isNameAtHand_54 (by decide) ?_
            refine g_goto (tgt := 59) hk dX5_isNameAtHand_55 (by decide) ?_
            exact g_iret hk hR rfl (Or.inr (⟨rfl, rfl⟩)) dX5_isNameAtHand_59
        · skip
          show GW κ 2 0 0 (wX q d I A) 30 [(0, .ref (q 3))] [.int 1]
          refine g_if_eq (tgt := 37) (a := 1) hk dX5_isNameAtHand_30 (by decide) rfl (fun z9 => absurd z9 (show ¬ ((1 : Int) = (0 : Int)) from by decide)) (fun _ => ?_)
          refine g_iconst (v := 1) hk dX5_isNameAtHand_33 (by decide) ?_
          refine g_goto (tgt := 38) hk dX5_isNameAtHand_34 (by decide) ?_
          refine g_istore_n (lv' := [(1, .int 1), (0, .ref (q 3))]) hk dX5_isNameAtHand_38 (by decide) rfl ?_
          refine g_aload_n hk dX5_isNameAtHand_39 rfl ?_
          refine gX_r3_0 hk hin5 (List.mem_cons_of_mem _ (List.mem_append_left _ (List.mem_of_getElem? (i := 4) rfl))) dX5_isNameAtHand_40 ?_
          refine gX_i1 (v := (I 1)) hk hin10 (List.mem_cons_of_mem _ (List.mem_append_left _ (List.mem_of_getElem? (i := 5) rfl))) dX5_isNameAtHand_43 rfl ?_
          refine g_iconst (v := 1) hk dX5_isNameAtHand_46 (by decide) ?_
          have b866l := Int32.le_toInt (I 1)
          have b866h := Int32.toInt_lt (I 1)
          refine g_icmp_ne (tgt := 58) (a := (I 1).toInt) (b := 1) hk dX5_isNameAtHand_47 (by decide) rfl rfl (fun c867 => ?_) (fun c867 => ?_)
          · skip
            refine g_iconst (v := 0) hk dX5_isNameAtHand_58 (by decide) ?_
            exact g_iret hk hR rfl (Or.inl ⟨rfl, rfl⟩) dX5_isNameAtHand_59
          · skip
            refine g_iload_n hk dX5_isNameAtHand_50 rfl ?_
            refine g_if_ne (tgt := 58) (a := 1) hk dX5_isNameAtHand_51 (by decide) rfl (fun _ => ?_) (fun z9 => absurd (show (1 : Int) ≠ (0 : Int) from by decide) z9)
            refine g_iconst (v := 0) hk dX5_isNameAtHand_58 (by decide) ?_
            exact g_iret hk hR rfl (Or.inl ⟨rfl, rfl⟩) dX5_isNameAtHand_59
      · skip
        show GW κ 2 0 0 (wX q d I A) 18 [(0, .ref (q 3))] [.int 0]
        refine g_if_ge (tgt := 33) (a := 0) hk dX5_isNameAtHand_18 (by decide) rfl (fun _ => ?_) (fun z9 => absurd (show (0 : Int) ≤ (0 : Int) from by decide) z9)
        refine g_iconst (v := 1) hk dX5_isNameAtHand_33 (by decide) ?_
        refine g_goto (tgt := 38) hk dX5_isNameAtHand_34 (by decide) ?_
        refine g_istore_n (lv' := [(1, .int 1), (0, .ref (q 3))]) hk dX5_isNameAtHand_38 (by decide) rfl ?_
        refine g_aload_n hk dX5_isNameAtHand_39 rfl ?_
        refine gX_r3_0 hk hin5 (List.mem_cons_of_mem _ (List.mem_append_left _ (List.mem_of_getElem? (i := 4) rfl))) dX5_isNameAtHand_40 ?_
        refine gX_i1 (v := (I 1)) hk hin10 (List.mem_cons_of_mem _ (List.mem_append_left _ (List.mem_of_getElem? (i := 5) rfl))) dX5_isNameAtHand_43 rfl ?_
        refine g_iconst (v := 1) hk dX5_isNameAtHand_46 (by decide) ?_
        have b868l := Int32.le_toInt (I 1)
        have b868h := Int32.toInt_lt (I 1)
        refine g_icmp_ne (tgt := 58) (a := (I 1).toInt) (b := 1) hk dX5_isNameAtHand_47 (by decide) rfl rfl (fun c869 => ?_) (fun c869 => ?_)
        · skip
          refine g_iconst (v := 0) hk dX5_isNameAtHand_58 (by decide) ?_
          exact g_iret hk hR rfl (Or.inl ⟨rfl, rfl⟩) dX5_isNameAtHand_59
        · skip
          refine g_iload_n hk dX5_isNameAtHand_50 rfl ?_
          refine g_if_ne (tgt := 58) (a := 1) hk dX5_isNameAtHand_51 (by decide) rfl (fun _ => ?_) (fun z9 => absurd (show (1 : Int) ≠ (0 : Int) from by decide) z9)
          refine g_iconst (v := 0) hk dX5_isNameAtHand_58 (by decide) ?_
          exact g_iret hk hR rfl (Or.inl ⟨rfl, rfl⟩) dX5_isNameAtHand_59
      · skip
        show GW κ 2 0 0 (wX q d I A) 18 [(0, .ref (q 3))] [.int 1]
        refine g_if_ge (tgt := 33) (a := 1) hk dX5_isNameAtHand_18 (by decide) rfl (fun _ => ?_) (fun z9 => absurd (show (0 : Int) ≤ (1 : Int) from by decide) z9)
        refine g_iconst (v := 1) hk dX5_isNameAtHand_33 (by decide) ?_
        refine g_goto (tgt := 38) hk dX5_isNameAtHand_34 (by decide) ?_
        refine g_istore_n (lv' := [(1, .int 1), (0, .ref (q 3))]) hk dX5_isNameAtHand_38 (by decide) rfl ?_
        refine g_aload_n hk dX5_isNameAtHand_39 rfl ?_
        refine gX_r3_0 hk hin5 (List.mem_cons_of_mem _ (List.mem_append_left _ (List.mem_of_getElem? (i := 4) rfl))) dX5_isNameAtHand_40 ?_
        refine gX_i1 (v := (I 1)) hk hin10 (List.mem_cons_of_mem _ (List.mem_append_left _ (List.mem_of_getElem? (i := 5) rfl))) dX5_isNameAtHand_43 rfl ?_
        refine g_iconst (v := 1) hk dX5_isNameAtHand_46 (by decide) ?_
        have b870l := Int32.le_toInt (I 1)
        have b870h := Int32.toInt_lt (I 1)
        refine g_icmp_ne (tgt := 58) (a := (I 1).toInt) (b := 1) hk dX5_isNameAtHand_47 (by decide) rfl rfl (fun c871 => ?_) (fun c871 => ?_)
        · skip
          refine g_iconst (v := 0) hk dX5_isNameAtHand_58 (by decide) ?_
          exact g_iret hk hR rfl (Or.inl ⟨rfl, rfl⟩) dX5_isNameAtHand_59
        · skip
          refine g_iload_n hk dX5_isNameAtHand_50 rfl ?_
          refine g_if_ne (tgt := 58) (a := 1) hk dX5_isNameAtHand_51 (by decide) rfl (fun _ => ?_) (fun z9 => absurd (show (1 : Int) ≠ (0 : Int) from by decide) z9)
          refine g_iconst (v := 0) hk dX5_isNameAtHand_58 (by decide) ?_
          exact g_iret hk hR rfl (Or.inl ⟨rfl, rfl⟩) dX5_isNameAtHand_59
def wo_k148_X5_choiceAtHand : List Cond := [Cond.fieldLink RX5 141 "WarpDesk$Reader" "tell" "I", Cond.methodLink RX5 121 yX5_costAtHand, Cond.instanceMethod yX5_costAtHand, Cond.selects RX5 yX5_costAtHand yX5_costAtHand, Cond.initialized RX5, Cond.methodLink RX5 118 yX5_levelAtHand, Cond.instanceMethod yX5_levelAtHand, Cond.selects RX5 yX5_levelAtHand yX5_levelAtHand]
def wz_k148_X5_choiceAtHand : List Cond := .code yX5_choiceAtHand cX5_choiceAtHand 1 (some .int) :: (wo_k148_X5_choiceAtHand ++ (wsX50 ++ (wz_k147_X5_costAtHand ++ (wz_k146_X5_levelAtHand ++ ([] : List Cond)))))
theorem zg_k148_X5_choiceAtHand : ∀ w ∈ wz_k148_X5_choiceAtHand, goodWord w = true := zg_cons rfl (zg_app (by decide +kernel) (zg_app zgU_wsX50 (zg_app zg_k147_X5_costAtHand (zg_app zg_k146_X5_levelAtHand zg_nil))))
theorem zi_k148_X5_choiceAtHand : ∀ w ∈ wz_k148_X5_choiceAtHand, w ∈ lw_tbl := zi_cons zw_680 (zi_app (zi_cons zw_238 (zi_cons zw_671 (zi_cons zw_673 (zi_cons zw_10 (zi_cons zw_105 (zi_cons zw_663 (zi_cons zw_665 (zi_cons zw_9 zi_nil)))))))) (zi_app inX5 (zi_app zi_k147_X5_costAtHand (zi_app zi_k146_X5_levelAtHand zi_nil))))
set_option maxHeartbeats 4000000 in
set_option maxRecDepth 100000 in
theorem k148_X5_choiceAtHand (l : Launch) (D : va_G) (zt : Nat × Nat × Nat × (Nat → Nat) × (Nat → Nat)) (q : Nat → Nat) (d : Nat → ClassId) (I : Nat → Int32) (A : Nat → Nat → Int32) (hIv : IvX I A) : GM l D zt (tyX d) yX5_choiceAtHand wz_k148_X5_choiceAtHand ({ frames := 6, cells := 0, slots := 0, locals := 127 } : Room) [.ref (q 3)] (wX q d I A) (fun v _ w' => ∃ y0 : Int32, ((-1) ≤ y0.toInt) ∧ (y0.toInt ≤ 3) ∧ v = some (.int y0) ∧ w' = wX q d I A) 0 0 := by
  refine GM.of (cc := cX5_choiceAtHand) (maxL := 1) (ret := (some .int)) (own := RX5) (lv := [(0, .ref (q 3))]) (by decide) rfl rfl (Nat.le_of_ble_eq_true rfl) rfl (fun κ sz hk hR hN => ?_)
  have hin5 : ∀ w ∈ u_ws RX5 TX5 13, w ∈ wz_k148_X5_choiceAtHand := fun w h => (List.mem_cons_of_mem _ (List.mem_append_right _ (List.mem_append_left _ h)))
  refine g_aload_n hk dX5_choiceAtHand_0 rfl ?_
  refine gX_i7 (v := (I 7)) hk hin5 (List.mem_cons_of_mem _ (List.mem_append_left _ (List.mem_of_getElem? (i := 0) rfl))) dX5_choiceAtHand_1 rfl ?_
  refine g_iconst (v := 1) hk dX5_choiceAtHand_4 (by decide) ?_
  have b881l := Int32.le_toInt (I 7)
  have b881h := Int32.toInt_lt (I 7)
  refine g_icmp_ne (tgt := 15) (a := (I 7).toInt) (b := 1) hk dX5_choiceAtHand_5 (by decide) rfl rfl (fun c882 => ?_) (fun c882 => ?_)
  · skip
    refine g_aload_n hk dX5_choiceAtHand_15 rfl ?_
    refine g_callV (n := 0) hk (k147_X5_costAtHand l D zt q d I A  hIv) (SP.same _) (fun _ h => h) (gi_V (List.mem_cons_of_mem _ (List.mem_append_left _ (List.mem_of_getElem? (i := 1) rfl))) (List.mem_cons_of_mem _ (List.mem_append_left _ (List.mem_of_getElem? (i := 2) rfl))) (List.mem_cons_of_mem _ (List.mem_append_left _ (List.mem_of_getElem? (i := 3) rfl))) (List.mem_cons_of_mem _ (List.mem_append_left _ (List.mem_of_getElem? (i := 4) rfl))) (gi_sub (fun w h => (List.mem_cons_of_mem _ (List.mem_append_right _ (List.mem_append_right _ (List.mem_append_left _ h))))) zg_k147_X5_costAtHand)) rfl rfl rfl (by decide +kernel) ⟨Nat.le_of_ble_eq_true rfl, Nat.le_of_ble_eq_true rfl⟩ 3 rfl rfl rfl rfl (Nat.le_of_ble_eq_true rfl) ⟨Nat.le_of_ble_eq_true rfl, Nat.le_of_ble_eq_true rfl⟩ dX5_choiceAtHand_16 (fun v ty' w' hp hk' => ?_)
    rcases hp with ⟨rfl, rfl⟩ | ⟨rfl, rfl⟩ | ⟨rfl, rfl⟩
    · skip
      show GW κ 1 0 0 (wX q d I A) 19 [(0, .ref (q 3))] [.int (-1)]
      exact g_iret hk hR rfl ⟨(-1), (by decide), (by decide), rfl, rfl⟩ dX5_choiceAtHand_19
    · skip
      show GW κ 1 0 0 (wX q d I A) 19 [(0, .ref (q 3))] [.int 0]
      exact g_iret hk hR rfl ⟨0, (by decide), (by decide), rfl, rfl⟩ dX5_choiceAtHand_19
    · skip
      show GW κ 1 0 0 (wX q d I A) 19 [(0, .ref (q 3))] [.int 1]
      exact g_iret hk hR rfl ⟨1, (by decide), (by decide), rfl, rfl⟩ dX5_choiceAtHand_19
  · skip
    refine g_aload_n hk dX5_choiceAtHand_8 rfl ?_
    refine g_callV (n := 0) hk (k146_X5_levelAtHand l D zt q d I A  hIv) (SP.same _) (fun _ h => h) (gi_V (List.mem_cons_of_mem _ (List.mem_append_left _ (List.mem_of_getElem? (i := 5) rfl))) (List.mem_cons_of_mem _ (List.mem_append_left _ (List.mem_of_getElem? (i := 6) rfl))) (List.mem_cons_of_mem _ (List.mem_append_left _ (List.mem_of_getElem? (i := 7) rfl))) (List.mem_cons_of_mem _ (List.mem_append_left _ (List.mem_of_getElem? (i := 4) rfl))) (gi_sub (fun w h => (List.mem_cons_of_mem _ (List.mem_append_right _ (List.mem_append_right _ (List.mem_append_right _ (List.mem_append_left _ h)))))) zg_k146_X5_levelAtHand)) rfl rfl rfl (by decide +kernel) ⟨Nat.le_of_ble_eq_true rfl, Nat.le_of_ble_eq_true rfl⟩ 3 rfl rfl rfl rfl (Nat.le_of_ble_eq_true rfl) ⟨Nat.le_of_ble_eq_true rfl, Nat.le_of_ble_eq_true rfl⟩ dX5_choiceAtHand_9 (fun v ty' w' hp hk' => ?_)
    obtain ⟨y886, c887, c888, rfl, rfl⟩ := hp
    show GW κ 1 0 0 (wX q d I A) 12 [(0, .ref (q 3))] [.int y886]
    refine g_goto (tgt := 19) hk dX5_choiceAtHand_12 (by decide) ?_
    exact g_iret hk hR rfl ⟨y886, (by omega), (by omega), rfl, rfl⟩ dX5_choiceAtHand_19
def wo_k132_X5_mayStand : List Cond := [Cond.fieldLink RX5 75 "WarpDesk$Reader" "state" "I", Cond.methodLink RX5 99 yX5_tellAtHand, Cond.instanceMethod yX5_tellAtHand, Cond.selects RX5 yX5_tellAtHand yX5_tellAtHand, Cond.initialized RX5, Cond.methodLink RX5 103 yX5_mayStandInRow, Cond.instanceMethod yX5_mayStandInRow, Cond.selects RX5 yX5_mayStandInRow yX5_mayStandInRow, Cond.fieldLink RX5 87 "WarpDesk$Reader" "isNegative" "Z", Cond.fieldLink RX5 42 "WarpDesk$Reader" "tape" "LWarpDesk$Tape;", Cond.methodLink RX5 108 yX10_isWord, Cond.instanceMethod yX10_isWord, Cond.selects RX10 yX10_isWord yX10_isWord, Cond.initialized RX10, Cond.methodLink RX5 112 yX5_isNameAtHand, Cond.instanceMethod yX5_isNameAtHand, Cond.selects RX5 yX5_isNameAtHand yX5_isNameAtHand, Cond.fieldLink RX5 53 "WarpDesk$Tape" "kind" "I", Cond.methodLink RX5 115 yX5_choiceAtHand, Cond.instanceMethod yX5_choiceAtHand, Cond.selects RX5 yX5_choiceAtHand yX5_choiceAtHand]
def wz_k132_X5_mayStand : List Cond := .code yX5_mayStand cX5_mayStand 1 (some .boolean) :: (wo_k132_X5_mayStand ++ (wsX50 ++ (wsX100 ++ (wz_k133_X5_tellAtHand ++ (wz_k144_X5_mayStandInRow ++ (wz_k134_X10_isWord ++ (wz_k145_X5_isNameAtHand ++ (wz_k148_X5_choiceAtHand ++ ([] : List Cond)))))))))
theorem zg_k132_X5_mayStand : ∀ w ∈ wz_k132_X5_mayStand, goodWord w = true := zg_cons rfl (zg_app (by decide +kernel) (zg_app zgU_wsX50 (zg_app zgU_wsX100 (zg_app zg_k133_X5_tellAtHand (zg_app zg_k144_X5_mayStandInRow (zg_app zg_k134_X10_isWord (zg_app zg_k145_X5_isNameAtHand (zg_app zg_k148_X5_choiceAtHand zg_nil))))))))
theorem zi_k132_X5_mayStand : ∀ w ∈ wz_k132_X5_mayStand, w ∈ lw_tbl := zi_cons zw_587 (zi_app (zi_cons zw_237 (zi_cons zw_588 (zi_cons zw_590 (zi_cons zw_6 (zi_cons zw_105 (zi_cons zw_654 (zi_cons zw_656 (zi_cons zw_7 (zi_cons zw_239 (zi_cons zw_230 (zi_cons zw_593 (zi_cons zw_594 (zi_cons zw_595 (zi_cons zw_104 (zi_cons zw_659 (zi_cons zw_661 (zi_cons zw_8 (zi_cons zw_138 (zi_cons zw_677 (zi_cons zw_679 (zi_cons zw_11 zi_nil))))))))))))))))))))) (zi_app inX5 (zi_app inX10 (zi_app zi_k133_X5_tellAtHand (zi_app zi_k144_X5_mayStandInRow (zi_app zi_k134_X10_isWord (zi_app zi_k145_X5_isNameAtHand (zi_app zi_k148_X5_choiceAtHand zi_nil))))))))
set_option maxHeartbeats 4000000 in
set_option maxRecDepth 100000 in
theorem k132_X5_mayStand (l : Launch) (D : va_G) (zt : Nat × Nat × Nat × (Nat → Nat) × (Nat → Nat)) (q : Nat → Nat) (d : Nat → ClassId) (I : Nat → Int32) (A : Nat → Nat → Int32) (hIv : IvX I A) : GM l D zt (tyX d) yX5_mayStand wz_k132_X5_mayStand ({ frames := 7, cells := 0, slots := 0, locals := 148 } : Room) [.ref (q 3)] (wX q d I A) (fun v _ w' => (v = some (.int 0) ∧ w' = wX q d I A) ∨ (v = some (.int 1) ∧ w' = wX q d I A)) 0 0 := by
  refine GM.of (cc := cX5_mayStand) (maxL := 1) (ret := (some .boolean)) (own := RX5) (lv := [(0, .ref (q 3))]) (by decide) rfl rfl (Nat.le_of_ble_eq_true rfl) rfl (fun κ sz hk hR hN => ?_)
  have hin5 : ∀ w ∈ u_ws RX5 TX5 13, w ∈ wz_k132_X5_mayStand := fun w h => (List.mem_cons_of_mem _ (List.mem_append_right _ (List.mem_append_left _ h)))
  have hin10 : ∀ w ∈ u_ws RX10 TX10 7, w ∈ wz_k132_X5_mayStand := fun w h => (List.mem_cons_of_mem _ (List.mem_append_right _ (List.mem_append_right _ (List.mem_append_left _ h))))
  refine g_aload_n hk dX5_mayStand_0 rfl ?_
  refine gX_i6 (v := (I 6)) hk hin5 (List.mem_cons_of_mem _ (List.mem_append_left _ (List.mem_of_getElem? (i := 0) rfl))) dX5_mayStand_1 rfl ?_
  by_cases c712 : (I 6).toInt = 0
  · refine g_tabIn (tgt := 44) (a := 0) hk dX5_mayStand_4 c712 (by decide) (by decide) rfl (by decide) ?_
    refine g_aload_n hk dX5_mayStand_44 rfl ?_
    refine g_callV (n := 0) hk (k133_X5_tellAtHand l D zt q d I A  hIv) (SP.same _) (fun _ h => h) (gi_V (List.mem_cons_of_mem _ (List.mem_append_left _ (List.mem_of_getElem? (i := 1) rfl))) (List.mem_cons_of_mem _ (List.mem_append_left _ (List.mem_of_getElem? (i := 2) rfl))) (List.mem_cons_of_mem _ (List.mem_append_left _ (List.mem_of_getElem? (i := 3) rfl))) (List.mem_cons_of_mem _ (List.mem_append_left _ (List.mem_of_getElem? (i := 4) rfl))) (gi_sub (fun w h => (List.mem_cons_of_mem _ (List.mem_append_right _ (List.mem_append_right _ (List.mem_append_right _ (List.mem_append_left _ h)))))) zg_k133_X5_tellAtHand)) rfl rfl rfl (by decide +kernel) ⟨Nat.le_of_ble_eq_true rfl, Nat.le_of_ble_eq_true rfl⟩ 3 rfl rfl rfl rfl (Nat.le_of_ble_eq_true rfl) ⟨Nat.le_of_ble_eq_true rfl, Nat.le_of_ble_eq_true rfl⟩ dX5_mayStand_45 (fun v ty' w' hp hk' => ?_)
    obtain ⟨y817, c818, c819, rfl, rfl⟩ := hp
    show GW κ 1 0 0 (wX q d I A) 48 [(0, .ref (q 3))] [.int y817]
    refine g_if_lt (tgt := 55) (a := y817.toInt) hk dX5_mayStand_48 (by decide) rfl (fun c820 => ?_) (fun c820 => ?_)
    · skip
      refine g_iconst (v := 0) hk dX5_mayStand_55 (by decide) ?_
      exact g_iret hk hR rfl (Or.inl ⟨rfl, rfl⟩) dX5_mayStand_56
    · skip
      refine g_iconst (v := 1) hk dX5_mayStand_51 (by decide) ?_
      refine g_goto (tgt := 56) hk dX5_mayStand_52 (by decide) ?_
      exact g_iret hk hR rfl (Or.inr (⟨rfl, rfl⟩)) dX5_mayStand_56
  by_cases c821 : (I 6).toInt = 1
  · refine g_tabIn (tgt := 57) (a := 1) hk dX5_mayStand_4 c821 (by decide) (by decide) rfl (by decide) ?_
    refine g_aload_n hk dX5_mayStand_57 rfl ?_
    refine g_callV (n := 0) hk (k144_X5_mayStandInRow l D zt q d I A  hIv) (SP.same _) (fun _ h => h) (gi_V (List.mem_cons_of_mem _ (List.mem_append_left _ (List.mem_of_getElem? (i := 5) rfl))) (List.mem_cons_of_mem _ (List.mem_append_left _ (List.mem_of_getElem? (i := 6) rfl))) (List.mem_cons_of_mem _ (List.mem_append_left _ (List.mem_of_getElem? (i := 7) rfl))) (List.mem_cons_of_mem _ (List.mem_append_left _ (List.mem_of_getElem? (i := 4) rfl))) (gi_sub (fun w h => (List.mem_cons_of_mem _ (List.mem_append_right _ (List.mem_append_right _ (List.mem_append_right _ (List.mem_append_right _ (List.mem_append_left _ h))))))) zg_k144_X5_mayStandInRow)) rfl rfl rfl (by decide +kernel) ⟨Nat.le_of_ble_eq_true rfl, Nat.le_of_ble_eq_true rfl⟩ 3 rfl rfl rfl rfl (Nat.le_of_ble_eq_true rfl) ⟨Nat.le_of_ble_eq_true rfl, Nat.le_of_ble_eq_true rfl⟩ dX5_mayStand_58 (fun v ty' w' hp hk' => ?_)
    rcases hp with ⟨rfl, rfl⟩ | ⟨rfl, rfl⟩
    · skip
      show GW κ 1 0 0 (wX q d I A) 61 [(0, .ref (q 3))] [.int 0]
      refine g_if_ne (tgt := 83) (a := 0) hk dX5_mayStand_61 (by decide) rfl (fun z9 => absurd z9 (show ¬ ((0 : Int) ≠ (0 : Int)) from by decide)) (fun _ => ?_)
      refine g_aload_n hk dX5_mayStand_64 rfl ?_
      refine gX_i8 (v := (I 8)) hk hin5 (List.mem_cons_of_mem _ (List.mem_append_left _ (List.mem_of_getElem? (i := 8) rfl))) dX5_mayStand_65 rfl ?_
      have b830l := Int32.le_toInt (I 8)
      have b830h := Int32.toInt_lt (I 8)
      refine g_if_ne (tgt := 87) (a := (I 8).toInt) hk dX5_mayStand_68 (by decide) rfl (fun c831 => ?_) (fun c831 => ?_)
      · skip
        refine g_iconst (v := 0) hk dX5_mayStand_87 (by decide) ?_
        exact g_iret hk hR rfl (Or.inl ⟨rfl, rfl⟩) dX5_mayStand_88
      · skip
        refine g_aload_n hk dX5_mayStand_71 rfl ?_
        refine gX_r3_0 hk hin5 (List.mem_cons_of_mem _ (List.mem_append_left _ (List.mem_of_getElem? (i := 9) rfl))) dX5_mayStand_72 ?_
        refine g_ldcS hk 0 (by decide) rfl dX5_mayStand_75 ?_
        refine g_callV (n := 1) hk (k134_X10_isWord l D zt 0 (by decide) q d I A  hIv) (SP.same _) (fun _ h => h) (gi_V (List.mem_cons_of_mem _ (List.mem_append_left _ (List.mem_of_getElem? (i := 10) rfl))) (List.mem_cons_of_mem _ (List.mem_append_left _ (List.mem_of_getElem? (i := 11) rfl))) (List.mem_cons_of_mem _ (List.mem_append_left _ (List.mem_of_getElem? (i := 12) rfl))) (List.mem_cons_of_mem _ (List.mem_append_left _ (List.mem_of_getElem? (i := 13) rfl))) (gi_sub (fun w h => (List.mem_cons_of_mem _ (List.mem_append_right _ (List.mem_append_right _ (List.mem_append_right _ (List.mem_append_right _ (List.mem_append_right _ (List.mem_append_left _ h)))))))) zg_k134_X10_isWord)) rfl rfl rfl (by decide +kernel) ⟨Nat.le_of_ble_eq_true rfl, Nat.le_of_ble_eq_true rfl⟩ 1 rfl rfl rfl rfl (Nat.le_of_ble_eq_true rfl) ⟨Nat.le_of_ble_eq_true rfl, Nat.le_of_ble_eq_true rfl⟩ dX5_mayStand_77 (fun v ty' w' hp hk' => ?_)
        rcases hp with ⟨rfl, rfl⟩ | ⟨rfl, rfl⟩
        · skip
          show GW κ 1 0 0 (wX q d I A) 80 [(0, .ref (q 3))] [.int 0]
          refine g_if_eq (tgt := 87) (a := 0) hk dX5_mayStand_80 (by decide) rfl (fun _ => ?_) (fun z9 => absurd (show (0 : Int) = (0 : Int) from by decide) z9)
          refine g_iconst (v := 0) hk dX5_mayStand_87 (by decide) ?_
          exact g_iret hk hR rfl (Or.inl ⟨rfl, rfl⟩) dX5_mayStand_88
        · skip
          show GW κ 1 0 0 (wX q d I A) 80 [(0, .ref (q 3))] [.int 1]
          refine g_if_eq (tgt := 87) (a := 1) hk dX5_mayStand_80 (by decide) rfl (fun z9 => absurd z9 (show ¬ ((1 : Int) = (0 : Int)) from by decide)) (fun _ => ?_)
          refine g_iconst (v := 1) hk dX5_mayStand_83 (by decide) ?_
          refine g_goto (tgt := 88) hk dX5_mayStand_84 (by decide) ?_
          exact g_iret hk hR rfl (Or.inr (⟨rfl, rfl⟩)) dX5_mayStand_88
    · skip
      show GW κ 1 0 0 (wX q d I A) 61 [(0, .ref (q 3))] [.int 1]
      refine g_if_ne (tgt := 83) (a := 1) hk dX5_mayStand_61 (by decide) rfl (fun _ => ?_) (fun z9 => absurd (show (1 : Int) ≠ (0 : Int) from by decide) z9)
      refine g_iconst (v := 1) hk dX5_mayStand_83 (by decide) ?_
      refine g_goto (tgt := 88) hk dX5_mayStand_84 (by decide) ?_
      exact g_iret hk hR rfl (Or.inr (⟨rfl, rfl⟩)) dX5_mayStand_88
  by_cases c834 : (I 6).toInt = 2
  · refine g_tabIn (tgt := 94) (a := 2) hk dX5_mayStand_4 c834 (by decide) (by decide) rfl (by decide) ?_
    refine g_aload_n hk dX5_mayStand_94 rfl ?_
    refine g_callV (n := 0) hk (k145_X5_isNameAtHand l D zt q d I A  hIv) (SP.same _) (fun _ h => h) (gi_V (List.mem_cons_of_mem _ (List.mem_append_left _ (List.mem_of_getElem? (i := 14) rfl))) (List.mem_cons_of_mem _ (List.mem_append_left _ (List.mem_of_getElem? (i := 15) rfl))) (List.mem_cons_of_mem _ (List.mem_append_left _ (List.mem_of_getElem? (i := 16) rfl))) (List.mem_cons_of_mem _ (List.mem_append_left _ (List.mem_of_getElem? (i := 4) rfl))) (gi_sub (fun w h => (List.mem_cons_of_mem _ (List.mem_append_right _ (List.mem_append_right _ (List.mem_append_right _ (List.mem_append_right _ (List.mem_append_right _ (List.mem_append_right _ (List.mem_append_left _ h))))))))) zg_k145_X5_isNameAtHand)) rfl rfl rfl (by decide +kernel) ⟨Nat.le_of_ble_eq_true rfl, Nat.le_of_ble_eq_true rfl⟩ 3 rfl rfl rfl rfl (Nat.le_of_ble_eq_true rfl) ⟨Nat.le_of_ble_eq_true rfl, Nat.le_of_ble_eq_true rfl⟩ dX5_mayStand_95 (fun v ty' w' hp hk' => ?_)
    rcases hp with ⟨rfl, rfl⟩ | ⟨rfl, rfl⟩
    · skip
      show GW κ 1 0 0 (wX q d I A) 98 [(0, .ref (q 3))] [.int 0]
      exact g_iret hk hR rfl (Or.inl ⟨rfl, rfl⟩) dX5_mayStand_98
    · skip
      show GW κ 1 0 0 (wX q d I A) 98 [(0, .ref (q 3))] [.int 1]
      exact g_iret hk hR rfl (Or.inr (⟨rfl, rfl⟩)) dX5_mayStand_98
  by_cases c874 : (I 6).toInt = 3
  · refine g_tabIn (tgt := 89) (a := 3) hk dX5_mayStand_4 c874 (by decide) (by decide) rfl (by decide) ?_
    refine g_aload_n hk dX5_mayStand_89 rfl ?_
    refine g_callV (n := 0) hk (k144_X5_mayStandInRow l D zt q d I A  hIv) (SP.same _) (fun _ h => h) (gi_V (List.mem_cons_of_mem _ (List.mem_append_left _ (List.mem_of_getElem? (i := 5) rfl))) (List.mem_cons_of_mem _ (List.mem_append_left _ (List.mem_of_getElem? (i := 6) rfl))) (List.mem_cons_of_mem _ (List.mem_append_left _ (List.mem_of_getElem? (i := 7) rfl))) (List.mem_cons_of_mem _ (List.mem_append_left _ (List.mem_of_getElem? (i := 4) rfl))) (gi_sub (fun w h => (List.mem_cons_of_mem _ (List.mem_append_right _ (List.mem_append_right _ (List.mem_append_right _ (List.mem_append_right _ (List.mem_append_left _ h))))))) zg_k144_X5_mayStandInRow)) rfl rfl rfl (by decide +kernel) ⟨Nat.le_of_ble_eq_true rfl, Nat.le_of_ble_eq_true rfl⟩ 3 rfl rfl rfl rfl (Nat.le_of_ble_eq_true rfl) ⟨Nat.le_of_ble_eq_true rfl, Nat.le_of_ble_eq_true rfl⟩ dX5_mayStand_90 (fun v ty' w' hp hk' => ?_)
    rcases hp with ⟨rfl, rfl⟩ | ⟨rfl, rfl⟩
    · skip
      show GW κ 1 0 0 (wX q d I A) 93 [(0, .ref (q 3))] [.int 0]
      exact g_iret hk hR rfl (Or.inl ⟨rfl, rfl⟩) dX5_mayStand_93
    · skip
      show GW κ 1 0 0 (wX q d I A) 93 [(0, .ref (q 3))] [.int 1]
      exact g_iret hk hR rfl (Or.inr (⟨rfl, rfl⟩)) dX5_mayStand_93
  by_cases c877 : (I 6).toInt = 4
  · refine g_tabIn (tgt := 99) (a := 4) hk dX5_mayStand_4 c877 (by decide) (by decide) rfl (by decide) ?_
    refine g_aload_n hk dX5_mayStand_99 rfl ?_
    refine gX_r3_0 hk hin5 (List.mem_cons_of_mem _ (List.mem_append_left _ (List.mem_of_getElem? (i := 9) rfl))) dX5_mayStand_100 ?_
    refine gX_i1 (v := (I 1)) hk hin10 (List.mem_cons_of_mem _ (List.mem_append_left _ (List.mem_of_getElem? (i := 17) rfl))) dX5_mayStand_103 rfl ?_
    refine g_iconst (v := 2) hk dX5_mayStand_106 (by decide) ?_
    have b878l := Int32.le_toInt (I 1)
    have b878h := Int32.toInt_lt (I 1)
    refine g_icmp_ne (tgt := 114) (a := (I 1).toInt) (b := 2) hk dX5_mayStand_107 (by decide) rfl rfl (fun c879 => ?_) (fun c879 => ?_)
    · skip
      refine g_iconst (v := 0) hk dX5_mayStand_114 (by decide) ?_
      exact g_iret hk hR rfl (Or.inl ⟨rfl, rfl⟩) dX5_mayStand_115
    · skip
      refine g_iconst (v := 1) hk dX5_mayStand_110 (by decide) ?_
      refine g_goto (tgt := 115) hk dX5_mayStand_111 (by decide) ?_
      exact g_iret hk hR rfl (Or.inr (⟨rfl, rfl⟩)) dX5_mayStand_115
  by_cases c880 : (I 6).toInt = 5
  · refine g_tabIn (tgt := 116) (a := 5) hk dX5_mayStand_4 c880 (by decide) (by decide) rfl (by decide) ?_
    refine g_aload_n hk dX5_mayStand_116 rfl ?_
    refine g_callV (n := 0) hk (k148_X5_choiceAtHand l D zt q d I A  hIv) (SP.same _) (fun _ h => h) (gi_V (List.mem_cons_of_mem _ (List.mem_append_left _ (List.mem_of_getElem? (i := 18) rfl))) (List.mem_cons_of_mem _ (List.mem_append_left _ (List.mem_of_getElem? (i := 19) rfl))) (List.mem_cons_of_mem _ (List.mem_append_left _ (List.mem_of_getElem? (i := 20) rfl))) (List.mem_cons_of_mem _ (List.mem_append_left _ (List.mem_of_getElem? (i := 4) rfl))) (gi_sub (fun w h => (List.mem_cons_of_mem _ (List.mem_append_right _ (List.mem_append_right _ (List.mem_append_right _ (List.mem_append_right _ (List.mem_append_right _ (List.mem_append_right _ (List.mem_append_right _ (List.mem_append_left _ h)))))))))) zg_k148_X5_choiceAtHand)) rfl rfl rfl (by decide +kernel) ⟨Nat.le_of_ble_eq_true rfl, Nat.le_of_ble_eq_true rfl⟩ 3 rfl rfl rfl rfl (Nat.le_of_ble_eq_true rfl) ⟨Nat.le_of_ble_eq_true rfl, Nat.le_of_ble_eq_true rfl⟩ dX5_mayStand_117 (fun v ty' w' hp hk' => ?_)
    obtain ⟨y889, c890, c891, rfl, rfl⟩ := hp
    show GW κ 1 0 0 (wX q d I A) 120 [(0, .ref (q 3))] [.int y889]
    refine g_if_lt (tgt := 127) (a := y889.toInt) hk dX5_mayStand_120 (by decide) rfl (fun c892 => ?_) (fun c892 => ?_)
    · skip
      refine g_iconst (v := 0) hk dX5_mayStand_127 (by decide) ?_
      exact g_iret hk hR rfl (Or.inl ⟨rfl, rfl⟩) dX5_mayStand_128
    · skip
      refine g_iconst (v := 1) hk dX5_mayStand_123 (by decide) ?_
      refine g_goto (tgt := 128) hk dX5_mayStand_124 (by decide) ?_
      exact g_iret hk hR rfl (Or.inr (⟨rfl, rfl⟩)) dX5_mayStand_128
  refine g_tabOut (tgt := 129) (a := (I 6).toInt) hk dX5_mayStand_4 rfl (by omega) (by decide) ?_
  refine g_aload_n hk dX5_mayStand_129 rfl ?_
  refine gX_r3_0 hk hin5 (List.mem_cons_of_mem _ (List.mem_append_left _ (List.mem_of_getElem? (i := 9) rfl))) dX5_mayStand_130 ?_
  refine gX_i1 (v := (I 1)) hk hin10 (List.mem_cons_of_mem _ (List.mem_append_left _ (List.mem_of_getElem? (i := 17) rfl))) dX5_mayStand_133 rfl ?_
  refine g_iconst (v := 3) hk dX5_mayStand_136 (by decide) ?_
  have b893l := Int32.le_toInt (I 1)
  have b893h := Int32.toInt_lt (I 1)
  refine g_icmp_ne (tgt := 144) (a := (I 1).toInt) (b := 3) hk dX5_mayStand_137 (by decide) rfl rfl (fun c894 => ?_) (fun c894 => ?_)
  · skip
    refine g_iconst (v := 0) hk dX5_mayStand_144 (by decide) ?_
    exact g_iret hk hR rfl (Or.inl ⟨rfl, rfl⟩) dX5_mayStand_145
  · skip
    refine g_iconst (v := 1) hk dX5_mayStand_140 (by decide) ?_
    refine g_goto (tgt := 145) hk dX5_mayStand_141 (by decide) ?_
    exact g_iret hk hR rfl (Or.inr (⟨rfl, rfl⟩)) dX5_mayStand_145
def wo_k149_X5_hasRoom : List Cond := [Cond.fieldLink RX5 42 "WarpDesk$Reader" "tape" "LWarpDesk$Tape;", Cond.fieldLink RX5 124 "WarpDesk$Tape" "number" "I", Cond.fieldLink RX5 75 "WarpDesk$Reader" "state" "I", Cond.methodLink RX5 99 yX5_tellAtHand, Cond.instanceMethod yX5_tellAtHand, Cond.selects RX5 yX5_tellAtHand yX5_tellAtHand, Cond.initialized RX5, Cond.fieldLink RX5 21 "WarpDesk$Reader" "queries" "LWarpDesk$Queries;", Cond.fieldLink RX5 84 "WarpDesk$Queries" "size" "I", Cond.fieldLink RX5 53 "WarpDesk$Tape" "kind" "I", Cond.fieldLink RX5 12 "WarpDesk$Reader" "draft" "LWarpDesk$Stand;", Cond.fieldLink RX5 127 "WarpDesk$Stand" "size" "I", Cond.fieldLink RX5 32 "WarpDesk$Reader" "told" "I"]
def wz_k149_X5_hasRoom : List Cond := .code yX5_hasRoom cX5_hasRoom 1 (some .boolean) :: (wo_k149_X5_hasRoom ++ (wsX40 ++ (wsX50 ++ (wsX80 ++ (wsX100 ++ (wz_k133_X5_tellAtHand ++ ([] : List Cond)))))))
theorem zg_k149_X5_hasRoom : ∀ w ∈ wz_k149_X5_hasRoom, goodWord w = true := zg_cons rfl (zg_app (by decide +kernel) (zg_app zgU_wsX40 (zg_app zgU_wsX50 (zg_app zgU_wsX80 (zg_app zgU_wsX100 (zg_app zg_k133_X5_tellAtHand zg_nil))))))
theorem zi_k149_X5_hasRoom : ∀ w ∈ wz_k149_X5_hasRoom, w ∈ lw_tbl := zi_cons zw_692 (zi_app (zi_cons zw_230 (zi_cons zw_145 (zi_cons zw_237 (zi_cons zw_588 (zi_cons zw_590 (zi_cons zw_6 (zi_cons zw_105 (zi_cons zw_233 (zi_cons zw_220 (zi_cons zw_138 (zi_cons zw_231 (zi_cons zw_197 (zi_cons zw_240 zi_nil))))))))))))) (zi_app inX4 (zi_app inX5 (zi_app inX8 (zi_app inX10 (zi_app zi_k133_X5_tellAtHand zi_nil))))))
set_option maxHeartbeats 4000000 in
set_option maxRecDepth 100000 in
theorem k149_X5_hasRoom (l : Launch) (D : va_G) (zt : Nat × Nat × Nat × (Nat → Nat) × (Nat → Nat)) (q : Nat → Nat) (d : Nat → ClassId) (I : Nat → Int32) (A : Nat → Nat → Int32) (hIv : IvX I A) : GM l D zt (tyX d) yX5_hasRoom wz_k149_X5_hasRoom ({ frames := 6, cells := 0, slots := 0, locals := 127 } : Room) [.ref (q 3)] (wX q d I A) (fun v _ w' => (v = some (.int 0) ∧ w' = wX q d I A) ∨ (v = some (.int 1) ∧ w' = wX q d I A)) 0 0 := by
  refine GM.of (cc := cX5_hasRoom) (maxL := 1) (ret := (some .boolean)) (own := RX5) (lv := [(0, .ref (q 3))]) (by decide) rfl rfl (Nat.le_of_ble_eq_true rfl) rfl (fun κ sz hk hR hN => ?_)
  have hin4 : ∀ w ∈ u_ws RX4 TX4 3, w ∈ wz_k149_X5_hasRoom := fun w h => (List.mem_cons_of_mem _ (List.mem_append_right _ (List.mem_append_left _ h)))
  have hin5 : ∀ w ∈ u_ws RX5 TX5 13, w ∈ wz_k149_X5_hasRoom := fun w h => (List.mem_cons_of_mem _ (List.mem_append_right _ (List.mem_append_right _ (List.mem_append_left _ h))))
  have hin8 : ∀ w ∈ u_ws RX8 TX8 4, w ∈ wz_k149_X5_hasRoom := fun w h => (List.mem_cons_of_mem _ (List.mem_append_right _ (List.mem_append_right _ (List.mem_append_right _ (List.mem_append_left _ h)))))
  have hin10 : ∀ w ∈ u_ws RX10 TX10 7, w ∈ wz_k149_X5_hasRoom := fun w h => (List.mem_cons_of_mem _ (List.mem_append_right _ (List.mem_append_right _ (List.mem_append_right _ (List.mem_append_right _ (List.mem_append_left _ h))))))
  refine g_aload_n hk dX5_hasRoom_0 rfl ?_
  refine gX_r3_0 hk hin5 (List.mem_cons_of_mem _ (List.mem_append_left _ (List.mem_of_getElem? (i := 0) rfl))) dX5_hasRoom_1 ?_
  refine gX_i4 (v := (I 4)) hk hin10 (List.mem_cons_of_mem _ (List.mem_append_left _ (List.mem_of_getElem? (i := 1) rfl))) dX5_hasRoom_4 rfl ?_
  refine g_sipush (v := 400) hk dX5_hasRoom_7 (by decide) ?_
  have b900l := Int32.le_toInt (I 4)
  have b900h := Int32.toInt_lt (I 4)
  refine g_icmp_le (tgt := 15) (a := (I 4).toInt) (b := 400) hk dX5_hasRoom_10 (by decide) rfl rfl (fun c901 => ?_) (fun c901 => ?_)
  · skip
    refine g_aload_n hk dX5_hasRoom_15 rfl ?_
    refine gX_i6 (v := (I 6)) hk hin5 (List.mem_cons_of_mem _ (List.mem_append_left _ (List.mem_of_getElem? (i := 2) rfl))) dX5_hasRoom_16 rfl ?_
    by_cases c902 : (I 6).toInt = 0
    · refine g_tabIn (tgt := 48) (a := 0) hk dX5_hasRoom_19 c902 (by decide) (by decide) rfl (by decide) ?_
      refine g_aload_n hk dX5_hasRoom_48 rfl ?_
      refine g_callV (n := 0) hk (k133_X5_tellAtHand l D zt q d I A  hIv) (SP.same _) (fun _ h => h) (gi_V (List.mem_cons_of_mem _ (List.mem_append_left _ (List.mem_of_getElem? (i := 3) rfl))) (List.mem_cons_of_mem _ (List.mem_append_left _ (List.mem_of_getElem? (i := 4) rfl))) (List.mem_cons_of_mem _ (List.mem_append_left _ (List.mem_of_getElem? (i := 5) rfl))) (List.mem_cons_of_mem _ (List.mem_append_left _ (List.mem_of_getElem? (i := 6) rfl))) (gi_sub (fun w h => (List.mem_cons_of_mem _ (List.mem_append_right _ (List.mem_append_right _ (List.mem_append_right _ (List.mem_append_right _ (List.mem_append_right _ (List.mem_append_left _ h)))))))) zg_k133_X5_tellAtHand)) rfl rfl rfl (by decide +kernel) ⟨Nat.le_of_ble_eq_true rfl, Nat.le_of_ble_eq_true rfl⟩ 3 rfl rfl rfl rfl (Nat.le_of_ble_eq_true rfl) ⟨Nat.le_of_ble_eq_true rfl, Nat.le_of_ble_eq_true rfl⟩ dX5_hasRoom_49 (fun v ty' w' hp hk' => ?_)
      obtain ⟨y903, c904, c905, rfl, rfl⟩ := hp
      show GW κ 1 0 0 (wX q d I A) 52 [(0, .ref (q 3))] [.int y903]
      refine g_iconst (v := 5) hk dX5_hasRoom_52 (by decide) ?_
      refine g_icmp_ne (tgt := 67) (a := y903.toInt) (b := 5) hk dX5_hasRoom_53 (by decide) rfl rfl (fun c906 => ?_) (fun c906 => ?_)
      · skip
        refine g_iconst (v := 1) hk dX5_hasRoom_67 (by decide) ?_
        refine g_goto (tgt := 72) hk dX5_hasRoom_68 (by decide) ?_
        exact g_iret hk hR rfl (Or.inr (⟨rfl, rfl⟩)) dX5_hasRoom_72
      · skip
        refine g_aload_n hk dX5_hasRoom_56 rfl ?_
        refine gX_r3_2 hk hin5 (List.mem_cons_of_mem _ (List.mem_append_left _ (List.mem_of_getElem? (i := 7) rfl))) dX5_hasRoom_57 ?_
        refine gX_i16 (v := (I 16)) hk hin4 (List.mem_cons_of_mem _ (List.mem_append_left _ (List.mem_of_getElem? (i := 8) rfl))) dX5_hasRoom_60 rfl ?_
        refine g_iconst (v := 5) hk dX5_hasRoom_63 (by decide) ?_
        have b907l := Int32.le_toInt (I 16)
        have b907h := Int32.toInt_lt (I 16)
        refine g_icmp_ge (tgt := 71) (a := (I 16).toInt) (b := 5) hk dX5_hasRoom_64 (by decide) rfl rfl (fun c908 => ?_) (fun c908 => ?_)
        · skip
          refine g_iconst (v := 0) hk dX5_hasRoom_71 (by decide) ?_
          exact g_iret hk hR rfl (Or.inl ⟨rfl, rfl⟩) dX5_hasRoom_72
        · skip
          refine g_iconst (v := 1) hk dX5_hasRoom_67 (by decide) ?_
          refine g_goto (tgt := 72) hk dX5_hasRoom_68 (by decide) ?_
          exact g_iret hk hR rfl (Or.inr (⟨rfl, rfl⟩)) dX5_hasRoom_72
    by_cases c909 : (I 6).toInt = 1
    · refine g_tabIn (tgt := 73) (a := 1) hk dX5_hasRoom_19 c909 (by decide) (by decide) rfl (by decide) ?_
      refine g_aload_n hk dX5_hasRoom_73 rfl ?_
      refine gX_r3_0 hk hin5 (List.mem_cons_of_mem _ (List.mem_append_left _ (List.mem_of_getElem? (i := 0) rfl))) dX5_hasRoom_74 ?_
      refine gX_i1 (v := (I 1)) hk hin10 (List.mem_cons_of_mem _ (List.mem_append_left _ (List.mem_of_getElem? (i := 9) rfl))) dX5_hasRoom_77 rfl ?_
      refine g_iconst (v := 3) hk dX5_hasRoom_80 (by decide) ?_
      have b910l := Int32.le_toInt (I 1)
      have b910h := Int32.toInt_lt (I 1)
      refine g_icmp_eq (tgt := 97) (a := (I 1).toInt) (b := 3) hk dX5_hasRoom_81 (by decide) rfl rfl (fun c911 => ?_) (fun c911 => ?_)
      · skip
        refine g_iconst (v := 1) hk dX5_hasRoom_97 (by decide) ?_
        refine g_goto (tgt := 102) hk dX5_hasRoom_98 (by decide) ?_
        exact g_iret hk hR rfl (Or.inr (⟨rfl, rfl⟩)) dX5_hasRoom_102
      · skip
        refine g_aload_n hk dX5_hasRoom_84 rfl ?_
        refine gX_r3_1 hk hin5 (List.mem_cons_of_mem _ (List.mem_append_left _ (List.mem_of_getElem? (i := 10) rfl))) dX5_hasRoom_85 ?_
        refine gX_i14 (v := (I 14)) hk hin8 (List.mem_cons_of_mem _ (List.mem_append_left _ (List.mem_of_getElem? (i := 11) rfl))) dX5_hasRoom_88 rfl ?_
        refine g_sipush (v := 160) hk dX5_hasRoom_91 (by decide) ?_
        have b912l := Int32.le_toInt (I 14)
        have b912h := Int32.toInt_lt (I 14)
        refine g_icmp_ge (tgt := 101) (a := (I 14).toInt) (b := 160) hk dX5_hasRoom_94 (by decide) rfl rfl (fun c913 => ?_) (fun c913 => ?_)
        · skip
          refine g_iconst (v := 0) hk dX5_hasRoom_101 (by decide) ?_
          exact g_iret hk hR rfl (Or.inl ⟨rfl, rfl⟩) dX5_hasRoom_102
        · skip
          refine g_iconst (v := 1) hk dX5_hasRoom_97 (by decide) ?_
          refine g_goto (tgt := 102) hk dX5_hasRoom_98 (by decide) ?_
          exact g_iret hk hR rfl (Or.inr (⟨rfl, rfl⟩)) dX5_hasRoom_102
    by_cases c914 : (I 6).toInt = 2
    · refine g_tabIn (tgt := 129) (a := 2) hk dX5_hasRoom_19 c914 (by decide) (by decide) rfl (by decide) ?_
      refine g_iconst (v := 1) hk dX5_hasRoom_129 (by decide) ?_
      exact g_iret hk hR rfl (Or.inr (⟨rfl, rfl⟩)) dX5_hasRoom_130
    by_cases c915 : (I 6).toInt = 3
    · refine g_tabIn (tgt := 103) (a := 3) hk dX5_hasRoom_19 c915 (by decide) (by decide) rfl (by decide) ?_
      refine g_aload_n hk dX5_hasRoom_103 rfl ?_
      refine gX_r3_0 hk hin5 (List.mem_cons_of_mem _ (List.mem_append_left _ (List.mem_of_getElem? (i := 0) rfl))) dX5_hasRoom_104 ?_
      refine gX_i1 (v := (I 1)) hk hin10 (List.mem_cons_of_mem _ (List.mem_append_left _ (List.mem_of_getElem? (i := 9) rfl))) dX5_hasRoom_107 rfl ?_
      refine g_iconst (v := 3) hk dX5_hasRoom_110 (by decide) ?_
      have b916l := Int32.le_toInt (I 1)
      have b916h := Int32.toInt_lt (I 1)
      refine g_icmp_eq (tgt := 123) (a := (I 1).toInt) (b := 3) hk dX5_hasRoom_111 (by decide) rfl rfl (fun c917 => ?_) (fun c917 => ?_)
      · skip
        refine g_iconst (v := 1) hk dX5_hasRoom_123 (by decide) ?_
        refine g_goto (tgt := 128) hk dX5_hasRoom_124 (by decide) ?_
        exact g_iret hk hR rfl (Or.inr (⟨rfl, rfl⟩)) dX5_hasRoom_128
      · skip
        refine g_aload_n hk dX5_hasRoom_114 rfl ?_
        refine gX_i9 (v := (I 9)) hk hin5 (List.mem_cons_of_mem _ (List.mem_append_left _ (List.mem_of_getElem? (i := 12) rfl))) dX5_hasRoom_115 rfl ?_
        refine g_bipush (v := 16) hk dX5_hasRoom_118 (by decide) ?_
        have b918l := Int32.le_toInt (I 9)
        have b918h := Int32.toInt_lt (I 9)
        refine g_icmp_ge (tgt := 127) (a := (I 9).toInt) (b := 16) hk dX5_hasRoom_120 (by decide) rfl rfl (fun c919 => ?_) (fun c919 => ?_)
        · skip
          refine g_iconst (v := 0) hk dX5_hasRoom_127 (by decide) ?_
          exact g_iret hk hR rfl (Or.inl ⟨rfl, rfl⟩) dX5_hasRoom_128
        · skip
          refine g_iconst (v := 1) hk dX5_hasRoom_123 (by decide) ?_
          refine g_goto (tgt := 128) hk dX5_hasRoom_124 (by decide) ?_
          exact g_iret hk hR rfl (Or.inr (⟨rfl, rfl⟩)) dX5_hasRoom_128
    refine g_tabOut (tgt := 129) (a := (I 6).toInt) hk dX5_hasRoom_19 rfl (by omega) (by decide) ?_
    refine g_iconst (v := 1) hk dX5_hasRoom_129 (by decide) ?_
    exact g_iret hk hR rfl (Or.inr (⟨rfl, rfl⟩)) dX5_hasRoom_130
  · skip
    refine g_iconst (v := 0) hk dX5_hasRoom_13 (by decide) ?_
    exact g_iret hk hR rfl (Or.inl ⟨rfl, rfl⟩) dX5_hasRoom_14
def wo_k151_X5_beginTell : List Cond := [Cond.methodLink RX5 99 yX5_tellAtHand, Cond.instanceMethod yX5_tellAtHand, Cond.selects RX5 yX5_tellAtHand yX5_tellAtHand, Cond.initialized RX5, Cond.fieldLink RX5 141 "WarpDesk$Reader" "tell" "I", Cond.fieldLink RX5 75 "WarpDesk$Reader" "state" "I", Cond.fieldLink RX5 32 "WarpDesk$Reader" "told" "I"]
def wz_k151_X5_beginTell : List Cond := .code yX5_beginTell cX5_beginTell 1 none :: (wo_k151_X5_beginTell ++ (wsX50 ++ (wz_k133_X5_tellAtHand ++ ([] : List Cond))))
theorem zg_k151_X5_beginTell : ∀ w ∈ wz_k151_X5_beginTell, goodWord w = true := zg_cons rfl (zg_app (by decide +kernel) (zg_app zgU_wsX50 (zg_app zg_k133_X5_tellAtHand zg_nil)))
theorem zi_k151_X5_beginTell : ∀ w ∈ wz_k151_X5_beginTell, w ∈ lw_tbl := zi_cons zw_700 (zi_app (zi_cons zw_588 (zi_cons zw_590 (zi_cons zw_6 (zi_cons zw_105 (zi_cons zw_238 (zi_cons zw_237 (zi_cons zw_240 zi_nil))))))) (zi_app inX5 (zi_app zi_k133_X5_tellAtHand zi_nil)))
set_option maxHeartbeats 4000000 in
set_option maxRecDepth 100000 in
theorem k151_X5_beginTell (l : Launch) (D : va_G) (zt : Nat × Nat × Nat × (Nat → Nat) × (Nat → Nat)) (q : Nat → Nat) (d : Nat → ClassId) (I : Nat → Int32) (A : Nat → Nat → Int32) (hIv : IvX I A) : GM l D zt (tyX d) yX5_beginTell wz_k151_X5_beginTell ({ frames := 6, cells := 0, slots := 0, locals := 127 } : Room) [.ref (q 3)] (wX q d I A) (fun v _ w' => ∃ (I' : Nat → Int32) (A' : Nat → Nat → Int32), Md [6, 7, 9] I I' ∧ Md [] A A' ∧ IvX I' A' ∧ v = none ∧ w' = wX q d I' A') 0 0 := by
  refine GM.of (cc := cX5_beginTell) (maxL := 1) (ret := none) (own := RX5) (lv := [(0, .ref (q 3))]) (by decide) rfl rfl (Nat.le_of_ble_eq_true rfl) rfl (fun κ sz hk hR hN => ?_)
  have hin5 : ∀ w ∈ u_ws RX5 TX5 13, w ∈ wz_k151_X5_beginTell := fun w h => (List.mem_cons_of_mem _ (List.mem_append_right _ (List.mem_append_left _ h)))
  refine g_aload_n hk dX5_beginTell_0 rfl ?_
  refine g_aload_n hk dX5_beginTell_1 rfl ?_
  refine g_callV (n := 0) hk (k133_X5_tellAtHand l D zt q d I A  hIv) (SP.same _) (fun _ h => h) (gi_V (List.mem_cons_of_mem _ (List.mem_append_left _ (List.mem_of_getElem? (i := 0) rfl))) (List.mem_cons_of_mem _ (List.mem_append_left _ (List.mem_of_getElem? (i := 1) rfl))) (List.mem_cons_of_mem _ (List.mem_append_left _ (List.mem_of_getElem? (i := 2) rfl))) (List.mem_cons_of_mem _ (List.mem_append_left _ (List.mem_of_getElem? (i := 3) rfl))) (gi_sub (fun w h => (List.mem_cons_of_mem _ (List.mem_append_right _ (List.mem_append_right _ (List.mem_append_left _ h))))) zg_k133_X5_tellAtHand)) rfl rfl rfl (by decide +kernel) ⟨Nat.le_of_ble_eq_true rfl, Nat.le_of_ble_eq_true rfl⟩ 3 rfl rfl rfl rfl (Nat.le_of_ble_eq_true rfl) ⟨Nat.le_of_ble_eq_true rfl, Nat.le_of_ble_eq_true rfl⟩ dX5_beginTell_2 (fun v ty' w' hp hk' => ?_)
  obtain ⟨y926, c927, c928, rfl, rfl⟩ := hp
  show GW κ 1 0 0 (wX q d I A) 5 [(0, .ref (q 3))] [.int y926, .ref (q 3)]
  refine pX_i7 hk hin5 (List.mem_cons_of_mem _ (List.mem_append_left _ (List.mem_of_getElem? (i := 4) rfl))) dX5_beginTell_5 ?_
  refine g_aload_n hk dX5_beginTell_8 rfl ?_
  refine gX_i7 (v := y926) hk hin5 (List.mem_cons_of_mem _ (List.mem_append_left _ (List.mem_of_getElem? (i := 4) rfl))) dX5_beginTell_9 rfl ?_
  by_cases c929 : y926.toInt = 0
  · refine g_tabIn (tgt := 78) (a := 0) hk dX5_beginTell_12 c929 (by decide) (by decide) rfl (by decide) ?_
    refine g_aload_n hk dX5_beginTell_78 rfl ?_
    refine g_iconst (v := 4) hk dX5_beginTell_79 (by decide) ?_
    refine pX_i6 hk hin5 (List.mem_cons_of_mem _ (List.mem_append_left _ (List.mem_of_getElem? (i := 5) rfl))) dX5_beginTell_80 ?_
    refine g_goto (tgt := 91) hk dX5_beginTell_83 (by decide) ?_
    exact g_vret hk hR ⟨(upd (upd I 7 y926) 6 4), A, (show Md [6, 7, 9] I (upd (upd I 7 y926) 6 4) from (Md.up (Md.up Md.rf rfl) rfl)), (show Md [] A A from Md.rf), ⟨(IvX_f0 (I := I) (A := A) hIv), (IvX_f18 (I := I) (A := A) hIv), (IvX_f30 (I := I) (A := A) hIv), (IvX_f31 (I := I) (A := A) hIv), (IvX_a4 (I := I) (A := A) hIv), (IvX_a9 (I := I) (A := A) hIv), trivial⟩, rfl, rfl⟩ dX5_beginTell_91
  by_cases c930 : y926.toInt = 1
  · refine g_tabIn (tgt := 86) (a := 1) hk dX5_beginTell_12 c930 (by decide) (by decide) rfl (by decide) ?_
    refine g_aload_n hk dX5_beginTell_86 rfl ?_
    refine g_iconst (v := 5) hk dX5_beginTell_87 (by decide) ?_
    refine pX_i6 hk hin5 (List.mem_cons_of_mem _ (List.mem_append_left _ (List.mem_of_getElem? (i := 5) rfl))) dX5_beginTell_88 ?_
    exact g_vret hk hR ⟨(upd (upd I 7 y926) 6 5), A, (show Md [6, 7, 9] I (upd (upd I 7 y926) 6 5) from (Md.up (Md.up Md.rf rfl) rfl)), (show Md [] A A from Md.rf), ⟨(IvX_f0 (I := I) (A := A) hIv), (IvX_f18 (I := I) (A := A) hIv), (IvX_f30 (I := I) (A := A) hIv), (IvX_f31 (I := I) (A := A) hIv), (IvX_a4 (I := I) (A := A) hIv), (IvX_a9 (I := I) (A := A) hIv), trivial⟩, rfl, rfl⟩ dX5_beginTell_91
  by_cases c931 : y926.toInt = 2
  · refine g_tabIn (tgt := 86) (a := 2) hk dX5_beginTell_12 c931 (by decide) (by decide) rfl (by decide) ?_
    refine g_aload_n hk dX5_beginTell_86 rfl ?_
    refine g_iconst (v := 5) hk dX5_beginTell_87 (by decide) ?_
    refine pX_i6 hk hin5 (List.mem_cons_of_mem _ (List.mem_append_left _ (List.mem_of_getElem? (i := 5) rfl))) dX5_beginTell_88 ?_
    exact g_vret hk hR ⟨(upd (upd I 7 y926) 6 5), A, (show Md [6, 7, 9] I (upd (upd I 7 y926) 6 5) from (Md.up (Md.up Md.rf rfl) rfl)), (show Md [] A A from Md.rf), ⟨(IvX_f0 (I := I) (A := A) hIv), (IvX_f18 (I := I) (A := A) hIv), (IvX_f30 (I := I) (A := A) hIv), (IvX_f31 (I := I) (A := A) hIv), (IvX_a4 (I := I) (A := A) hIv), (IvX_a9 (I := I) (A := A) hIv), trivial⟩, rfl, rfl⟩ dX5_beginTell_91
  by_cases c932 : y926.toInt = 3
  · refine g_tabIn (tgt := 78) (a := 3) hk dX5_beginTell_12 c932 (by decide) (by decide) rfl (by decide) ?_
    refine g_aload_n hk dX5_beginTell_78 rfl ?_
    refine g_iconst (v := 4) hk dX5_beginTell_79 (by decide) ?_
    refine pX_i6 hk hin5 (List.mem_cons_of_mem _ (List.mem_append_left _ (List.mem_of_getElem? (i := 5) rfl))) dX5_beginTell_80 ?_
    refine g_goto (tgt := 91) hk dX5_beginTell_83 (by decide) ?_
    exact g_vret hk hR ⟨(upd (upd I 7 y926) 6 4), A, (show Md [6, 7, 9] I (upd (upd I 7 y926) 6 4) from (Md.up (Md.up Md.rf rfl) rfl)), (show Md [] A A from Md.rf), ⟨(IvX_f0 (I := I) (A := A) hIv), (IvX_f18 (I := I) (A := A) hIv), (IvX_f30 (I := I) (A := A) hIv), (IvX_f31 (I := I) (A := A) hIv), (IvX_a4 (I := I) (A := A) hIv), (IvX_a9 (I := I) (A := A) hIv), trivial⟩, rfl, rfl⟩ dX5_beginTell_91
  by_cases c933 : y926.toInt = 4
  · refine g_tabIn (tgt := 52) (a := 4) hk dX5_beginTell_12 c933 (by decide) (by decide) rfl (by decide) ?_
    refine g_aload_n hk dX5_beginTell_52 rfl ?_
    refine g_iconst (v := 1) hk dX5_beginTell_53 (by decide) ?_
    refine pX_i6 hk hin5 (List.mem_cons_of_mem _ (List.mem_append_left _ (List.mem_of_getElem? (i := 5) rfl))) dX5_beginTell_54 ?_
    refine g_aload_n hk dX5_beginTell_57 rfl ?_
    refine g_iconst (v := 0) hk dX5_beginTell_58 (by decide) ?_
    refine pX_i9 hk hin5 (List.mem_cons_of_mem _ (List.mem_append_left _ (List.mem_of_getElem? (i := 6) rfl))) dX5_beginTell_59 ?_
    refine g_goto (tgt := 91) hk dX5_beginTell_62 (by decide) ?_
    exact g_vret hk hR ⟨(upd (upd (upd I 7 y926) 6 1) 9 0), A, (show Md [6, 7, 9] I (upd (upd (upd I 7 y926) 6 1) 9 0) from (Md.up (Md.up (Md.up Md.rf rfl) rfl) rfl)), (show Md [] A A from Md.rf), ⟨(IvX_f0 (I := I) (A := A) hIv), (IvX_f18 (I := I) (A := A) hIv), (IvX_f30 (I := I) (A := A) hIv), (IvX_f31 (I := I) (A := A) hIv), (IvX_a4 (I := I) (A := A) hIv), (IvX_a9 (I := I) (A := A) hIv), trivial⟩, rfl, rfl⟩ dX5_beginTell_91
  by_cases c934 : y926.toInt = 5
  · refine g_tabIn (tgt := 65) (a := 5) hk dX5_beginTell_12 c934 (by decide) (by decide) rfl (by decide) ?_
    refine g_aload_n hk dX5_beginTell_65 rfl ?_
    refine g_iconst (v := 2) hk dX5_beginTell_66 (by decide) ?_
    refine pX_i6 hk hin5 (List.mem_cons_of_mem _ (List.mem_append_left _ (List.mem_of_getElem? (i := 5) rfl))) dX5_beginTell_67 ?_
    refine g_aload_n hk dX5_beginTell_70 rfl ?_
    refine g_iconst (v := 0) hk dX5_beginTell_71 (by decide) ?_
    refine pX_i9 hk hin5 (List.mem_cons_of_mem _ (List.mem_append_left _ (List.mem_of_getElem? (i := 6) rfl))) dX5_beginTell_72 ?_
    refine g_goto (tgt := 91) hk dX5_beginTell_75 (by decide) ?_
    exact g_vret hk hR ⟨(upd (upd (upd I 7 y926) 6 2) 9 0), A, (show Md [6, 7, 9] I (upd (upd (upd I 7 y926) 6 2) 9 0) from (Md.up (Md.up (Md.up Md.rf rfl) rfl) rfl)), (show Md [] A A from Md.rf), ⟨(IvX_f0 (I := I) (A := A) hIv), (IvX_f18 (I := I) (A := A) hIv), (IvX_f30 (I := I) (A := A) hIv), (IvX_f31 (I := I) (A := A) hIv), (IvX_a4 (I := I) (A := A) hIv), (IvX_a9 (I := I) (A := A) hIv), trivial⟩, rfl, rfl⟩ dX5_beginTell_91
  refine g_tabOut (tgt := 86) (a := y926.toInt) hk dX5_beginTell_12 rfl (by omega) (by decide) ?_
  refine g_aload_n hk dX5_beginTell_86 rfl ?_
  refine g_iconst (v := 5) hk dX5_beginTell_87 (by decide) ?_
  refine pX_i6 hk hin5 (List.mem_cons_of_mem _ (List.mem_append_left _ (List.mem_of_getElem? (i := 5) rfl))) dX5_beginTell_88 ?_
  exact g_vret hk hR ⟨(upd (upd I 7 y926) 6 5), A, (show Md [6, 7, 9] I (upd (upd I 7 y926) 6 5) from (Md.up (Md.up Md.rf rfl) rfl)), (show Md [] A A from Md.rf), ⟨(IvX_f0 (I := I) (A := A) hIv), (IvX_f18 (I := I) (A := A) hIv), (IvX_f30 (I := I) (A := A) hIv), (IvX_f31 (I := I) (A := A) hIv), (IvX_a4 (I := I) (A := A) hIv), (IvX_a9 (I := I) (A := A) hIv), trivial⟩, rfl, rfl⟩ dX5_beginTell_91
def wo_k155_X4_has : List Cond := [Cond.fieldLink RX4 18 "WarpDesk$Queries" "size" "I"]
def wz_k155_X4_has : List Cond := .code yX4_has cX4_has 2 (some .boolean) :: (wo_k155_X4_has ++ (wsX40 ++ ([] : List Cond)))
theorem zg_k155_X4_has : ∀ w ∈ wz_k155_X4_has, goodWord w = true := zg_cons rfl (zg_app (by decide +kernel) (zg_app zgU_wsX40 zg_nil))
theorem zi_k155_X4_has : ∀ w ∈ wz_k155_X4_has, w ∈ lw_tbl := zi_cons zw_749 (zi_app (zi_cons zw_219 zi_nil) (zi_app inX4 zi_nil))
set_option maxHeartbeats 4000000 in
set_option maxRecDepth 100000 in
theorem k155_X4_has (l : Launch) (D : va_G) (zt : Nat × Nat × Nat × (Nat → Nat) × (Nat → Nat)) (q : Nat → Nat) (d : Nat → ClassId) (I : Nat → Int32) (A : Nat → Nat → Int32) (z1 : Int32) (hIv : IvX I A) : GM l D zt (tyX d) yX4_has wz_k155_X4_has ({ frames := 0, cells := 0, slots := 0, locals := 0 } : Room) [.ref (q 8), .int z1] (wX q d I A) (fun v _ w' => (v = some (.int 0) ∧ w' = wX q d I A) ∨ ((¬ (z1.toInt < 0)) ∧ (¬ (5 ≤ z1.toInt)) ∧ (0 ≤ z1.toInt) ∧ (z1.toInt ≤ 4) ∧ v = some (.int 1) ∧ w' = wX q d I A)) 0 0 := by
  refine GM.of (cc := cX4_has) (maxL := 2) (ret := (some .boolean)) (own := RX4) (lv := [(0, .ref (q 8)), (1, .int z1)]) (by decide) rfl rfl (Nat.le_of_ble_eq_true rfl) rfl (fun κ sz hk hR hN => ?_)
  have hin4 : ∀ w ∈ u_ws RX4 TX4 3, w ∈ wz_k155_X4_has := fun w h => (List.mem_cons_of_mem _ (List.mem_append_right _ (List.mem_append_left _ h)))
  refine g_iload_n hk dX4_has_0 rfl ?_
  have b946l := Int32.le_toInt z1
  have b946h := Int32.toInt_lt z1
  refine g_if_lt (tgt := 21) (a := z1.toInt) hk dX4_has_1 (by decide) rfl (fun c947 => ?_) (fun c947 => ?_)
  · skip
    refine g_iconst (v := 0) hk dX4_has_21 (by decide) ?_
    exact g_iret hk hR rfl (Or.inl ⟨rfl, rfl⟩) dX4_has_22
  · skip
    refine g_iload_n hk dX4_has_4 rfl ?_
    refine g_aload_n hk dX4_has_5 rfl ?_
    refine gX_i16 (v := (I 16)) hk hin4 (List.mem_cons_of_mem _ (List.mem_append_left _ (List.mem_of_getElem? (i := 0) rfl))) dX4_has_6 rfl ?_
    have b948l := Int32.le_toInt (I 16)
    have b948h := Int32.toInt_lt (I 16)
    refine g_icmp_ge (tgt := 21) (a := z1.toInt) (b := (I 16).toInt) hk dX4_has_9 (by decide) rfl rfl (fun c949 => ?_) (fun c949 => ?_)
    · skip
      refine g_iconst (v := 0) hk dX4_has_21 (by decide) ?_
      exact g_iret hk hR rfl (Or.inl ⟨rfl, rfl⟩) dX4_has_22
    · skip
      refine g_iload_n hk dX4_has_12 rfl ?_
      refine g_iconst (v := 5) hk dX4_has_13 (by decide) ?_
      refine g_icmp_ge (tgt := 21) (a := z1.toInt) (b := 5) hk dX4_has_14 (by decide) rfl rfl (fun c950 => ?_) (fun c950 => ?_)
      · skip
        refine g_iconst (v := 0) hk dX4_has_21 (by decide) ?_
        exact g_iret hk hR rfl (Or.inl ⟨rfl, rfl⟩) dX4_has_22
      · skip
        refine g_iconst (v := 1) hk dX4_has_17 (by decide) ?_
        refine g_goto (tgt := 22) hk dX4_has_18 (by decide) ?_
        exact g_iret hk hR rfl (Or.inr (⟨c947, c950, (by omega), (by omega), rfl, rfl⟩)) dX4_has_22
