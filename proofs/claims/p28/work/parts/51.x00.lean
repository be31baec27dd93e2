noncomputable def bX10_addFour_3 (z1 : Int32) : (Int32 → (Nat → Int32) → (Nat → Nat → Int32) → (Int32 × (Nat → Int32) × (Nat → Nat → Int32))) → Int32 → (Nat → Int32) → (Nat → Nat → Int32) → (Int32 × (Nat → Int32) × (Nat → Nat → Int32)) := fun kk291 x248 I251 A251 => if x248.toInt < 0 then (0, I251, A251) else if 2000 ≤ (I251 0).toInt then f_lt (x248 + Int32.ofInt (-8)) fun y298 => kk291 y298 I251 A251 else f_lt ((z1.toUInt32 >>> (x248.toUInt32 &&& Int32.toUInt32 31)).toInt32) fun y299 => f_lt (y299 &&& (255 : Int32)) fun y301 => f_lt ((I251 0) + (1 : Int32)) fun y302 => f_lt (x248 + Int32.ofInt (-8)) fun y303 => kk291 y303 (upd I251 0 y302) (up3 A251 0 ((I251 0).toNatClampNeg) y301)
noncomputable def fX10_addFour (I : Nat → Int32) (A : Nat → Nat → Int32) (z1 : Int32) : Int32 × (Nat → Int32) × (Nat → Nat → Int32) := itr_iIA dfX (bX10_addFour_3 z1) FU 24 I A
def wo_k114_X10_addFour : List Cond := [Cond.fieldLink RX10 15 "WarpDesk$Tape" "size" "I", Cond.fieldLink RX10 9 "WarpDesk$Tape" "bytes" "[I"]
def wz_k114_X10_addFour : List Cond := .code yX10_addFour cX10_addFour 3 none :: (wo_k114_X10_addFour ++ (wsX100 ++ ([] : List Cond)))
theorem zg_k114_X10_addFour : ∀ w ∈ wz_k114_X10_addFour, goodWord w = true := zg_cons rfl (zg_app (by decide +kernel) (zg_app zgU_wsX100 zg_nil))
theorem zi_k114_X10_addFour : ∀ w ∈ wz_k114_X10_addFour, w ∈ lw_tbl := zi_cons zw_525 (zi_app (zi_cons zw_137 (zi_cons zw_135 zi_nil)) (zi_app inX10 zi_nil))
set_option maxHeartbeats 4000000 in
set_option maxRecDepth 100000 in
theorem k114_X10_addFour (l : Launch) (D : va_G) (zt : Nat × Nat × Nat × (Nat → Nat) × (Nat → Nat)) (q : Nat → Nat) (d : Nat → ClassId) (I : Nat → Int32) (A : Nat → Nat → Int32) (z1 : Int32) (hIv : IvX I A) (hp0 : (I 0).toInt ≤ 1996) : GM l D zt (tyX d) yX10_addFour wz_k114_X10_addFour ({ frames := 0, cells := 0, slots := 0, locals := 0 } : Room) [.ref (q 1), .int z1] (wX q d I A) (fun v _ w' => ∃ (I' : Nat → Int32) (A' : Nat → Nat → Int32), Md [0] I I' ∧ Md [0] A A' ∧ IvX I' A' ∧ ((I' 0).toInt = (I 0).toInt + 4) ∧ FE (fX10_addFour I A z1) (0, I', A') ∧ v = none ∧ w' = wX q d I' A') 0 0 := by
  refine GM.of (cc := cX10_addFour) (maxL := 3) (ret := none) (own := RX10) (lv := [(0, .ref (q 1)), (1, .int z1)]) (by decide) rfl rfl (Nat.le_of_ble_eq_true rfl) rfl (fun κ sz hk hR hN => ?_)
  have hin10 : ∀ w ∈ u_ws RX10 TX10 7, w ∈ wz_k114_X10_addFour := fun w h => (List.mem_cons_of_mem _ (List.mem_append_right _ (List.mem_append_left _ h)))
  have hF : FE (fX10_addFour I A z1) (fX10_addFour I A z1) := FE.rf
  refine g_bipush (v := 24) hk dX10_addFour_0 (by decide) ?_
  refine g_istore_n (lv' := [(2, .int 24), (0, .ref (q 1)), (1, .int z1)]) hk dX10_addFour_2 (by decide) rfl ?_
  have lp288 : ∀ (n289 : Nat) (x248 : Int32) (I251 : Nat → Int32) (A251 : Nat → Nat → Int32), (Md [0] I I251) → (Md [0] A A251) → (IvX I251 A251) → ((-8) ≤ x248.toInt) → (x248.toInt ≤ 24) → (8 * (I251 0).toInt - 8 * (I 0).toInt = 24 - x248.toInt) → (x248.toInt + 1 - 0 < (n289 : Int)) → (0 < n289) → (FE (fX10_addFour I A z1) (itr_iIA dfX (bX10_addFour_3 z1) n289 x248 I251 A251)) → GW κ 3 0 0 (wX q d I251 A251) 3 [(2, .int x248), (0, .ref (q 1)), (1, .int z1)] [] := by
    intro n289
    induction n289 with
    | zero =>
      intro x248 I251 A251 hI251 hA251 hV251 h285 h286 h287 m290 m290z hF
      exact absurd m290z (Nat.lt_irrefl 0)
    | succ n289 ih292 =>
      intro x248 I251 A251 hI251 hA251 hV251 h285 h286 h287 m290 m290z hF
      replace hF := FE.itr_iIA hF
      refine g_iload_n hk dX10_addFour_3 rfl ?_
      refine g_if_lt (tgt := 58) (a := x248.toInt) hk dX10_addFour_4 (by decide) rfl (fun c293 => ?_) (fun c293 => ?_)
      · skip
        replace hF := FE.pos hF c293
        have f294 := IvX_f0 hV251
        have f295 := IvX_f0 hIv
        exact g_vret hk hR ⟨I251, A251, (show Md [0] I I251 from (Md.tr Md.rf hI251 rfl)), (show Md [0] A A251 from (Md.tr Md.rf hA251 rfl)), hV251, (show ((I251 0)).toInt = (I 0).toInt + 4 from by omega), hF, rfl, rfl⟩ dX10_addFour_58
      · skip
        replace hF := FE.neg hF c293
        refine g_aload_n hk dX10_addFour_7 rfl ?_
        refine gX_i0 (v := (I251 0)) hk hin10 (List.mem_cons_of_mem _ (List.mem_append_left _ (List.mem_of_getElem? (i := 0) rfl))) dX10_addFour_8 rfl ?_
        have f296 := IvX_f0 hV251
        refine g_if_lt (tgt := 52) (a := (I251 0).toInt) hk dX10_addFour_11 (by decide) rfl (fun z9 => absurd z9 (show ¬ ((I251 0).toInt < 0) from by omega)) (fun _ => ?_)
        refine g_aload_n hk dX10_addFour_14 rfl ?_
        refine gX_i0 (v := (I251 0)) hk hin10 (List.mem_cons_of_mem _ (List.mem_append_left _ (List.mem_of_getElem? (i := 0) rfl))) dX10_addFour_15 rfl ?_
        refine g_aload_n hk dX10_addFour_18 rfl ?_
        refine gX_r1_0 hk hin10 (List.mem_cons_of_mem _ (List.mem_append_left _ (List.mem_of_getElem? (i := 1) rfl))) dX10_addFour_19 ?_
        refine nX_0 hk dX10_addFour_22 ?_
        refine g_icmp_ge (tgt := 52) (a := (I251 0).toInt) (b := 2000) hk dX10_addFour_23 (by decide) rfl rfl (fun c297 => ?_) (fun c297 => ?_)
        · skip
          replace hF := FE.pos hF c297
          obtain ⟨y298, ey298⟩ : ∃ y : Int32, y = x248 + Int32.ofInt (-8) := ⟨_, rfl⟩
          replace hF := FE.lt hF ey298
          have hy298 : y298.toInt = x248.toInt + (-8) := i32_add ey298 rfl (by decide) (by omega) (by omega)
          refine g_iinc (v := y298) (lv' := [(2, .int y298), (0, .ref (q 1)), (1, .int z1)]) hk 0 dX10_addFour_52 rfl ey298.symm (by decide) rfl ?_
          refine g_goto (tgt := 3) hk dX10_addFour_55 (by decide) ?_
          exact g_lv (List.forall_mem_cons.mpr ⟨List.mem_of_getElem? (i := 0) rfl, (List.forall_mem_cons.mpr ⟨List.mem_of_getElem? (i := 1) rfl, (List.forall_mem_cons.mpr ⟨List.mem_of_getElem? (i := 2) rfl, (fun _ h => absurd h List.not_mem_nil)⟩)⟩)⟩) (ih292 y298 I251 A251 (show Md [0] I I251 from Md.tr hI251 (show Md [0] I251 I251 from Md.rf) rfl) (show Md [0] A A251 from Md.tr hA251 (show Md [0] A251 A251 from Md.rf) rfl) hV251 (by omega) (by omega) (show 8 * (I251 0).toInt - 8 * (I 0).toInt = 24 - y298.toInt from by omega) (by omega) (by omega) hF)
        · skip
          replace hF := FE.neg hF c297
          refine g_aload_n hk dX10_addFour_26 rfl ?_
          refine gX_r1_0 hk hin10 (List.mem_cons_of_mem _ (List.mem_append_left _ (List.mem_of_getElem? (i := 1) rfl))) dX10_addFour_27 ?_
          refine g_aload_n hk dX10_addFour_30 rfl ?_
          refine gX_i0 (v := (I251 0)) hk hin10 (List.mem_cons_of_mem _ (List.mem_append_left _ (List.mem_of_getElem? (i := 0) rfl))) dX10_addFour_31 rfl ?_
          refine g_iload_n hk dX10_addFour_34 rfl ?_
          refine g_iload_n hk dX10_addFour_35 rfl ?_
          refine g_iushr hk dX10_addFour_36 rfl ?_
          refine g_topi (fun y299 ey299 => ?_)
          replace hF := FE.lt hF ey299
          refine g_sipush (v := 255) hk dX10_addFour_37 (by decide) ?_
          have b300l := Int32.le_toInt y299
          have b300h := Int32.toInt_lt y299
          refine g_iand hk dX10_addFour_40 ?_
          refine g_topi (fun y301 ey301 => ?_)
          replace hF := FE.lt hF ey301
          have hy301 : 0 ≤ y301.toInt ∧ y301.toInt ≤ 255 := i32_mask 8 ey301 (by decide) (by decide)
          refine sX_0 (j := (I251 0).toNatClampNeg) hk (vp_in_iff.mpr ⟨by omega, by omega⟩) rfl dX10_addFour_41 ?_
          refine g_aload_n hk dX10_addFour_42 rfl ?_
          refine g_dup hk dX10_addFour_43 rfl ?_
          refine gX_i0 (v := (I251 0)) hk hin10 (List.mem_cons_of_mem _ (List.mem_append_left _ (List.mem_of_getElem? (i := 0) rfl))) dX10_addFour_44 rfl ?_
          refine g_iconst (v := 1) hk dX10_addFour_47 (by decide) ?_
          refine g_iadd hk dX10_addFour_48 ?_
          refine g_topi (fun y302 ey302 => ?_)
          replace hF := FE.lt hF ey302
          have hy302 : y302.toInt = (I251 0).toInt + 1 := i32_add ey302 rfl rfl (by omega) (by omega)
          refine pX_i0 hk hin10 (List.mem_cons_of_mem _ (List.mem_append_left _ (List.mem_of_getElem? (i := 0) rfl))) dX10_addFour_49 ?_
          obtain ⟨y303, ey303⟩ : ∃ y : Int32, y = x248 + Int32.ofInt (-8) := ⟨_, rfl⟩
          replace hF := FE.lt hF ey303
          have hy303 : y303.toInt = x248.toInt + (-8) := i32_add ey303 rfl (by decide) (by omega) (by omega)
          refine g_iinc (v := y303) (lv' := [(2, .int y303), (0, .ref (q 1)), (1, .int z1)]) hk 0 dX10_addFour_52 rfl ey303.symm (by decide) rfl ?_
          refine g_goto (tgt := 3) hk dX10_addFour_55 (by decide) ?_
          exact g_lv (List.forall_mem_cons.mpr ⟨List.mem_of_getElem? (i := 0) rfl, (List.forall_mem_cons.mpr ⟨List.mem_of_getElem? (i := 1) rfl, (List.forall_mem_cons.mpr ⟨List.mem_of_getElem? (i := 2) rfl, (fun _ h => absurd h List.not_mem_nil)⟩)⟩)⟩) (ih292 y303 (upd I251 0 y302) (up3 A251 0 ((I251 0).toNatClampNeg) y301) (show Md [0] I (upd I251 0 y302) from Md.tr hI251 (show Md [0] I251 (upd I251 0 y302) from (Md.up Md.rf rfl)) rfl) (show Md [0] A (up3 A251 0 ((I251 0).toNatClampNeg) y301) from Md.tr hA251 (show Md [0] A251 (up3 A251 0 ((I251 0).toNatClampNeg) y301) from (Md.up3 Md.rf rfl)) rfl) ⟨(show 0 ≤ y302.toInt ∧ y302.toInt ≤ 2000 from ⟨by omega, by omega⟩), (IvX_f18 (I := I251) (A := A251) hV251), (IvX_f30 (I := I251) (A := A251) hV251), (IvX_f31 (I := I251) (A := A251) hV251), (IvX_a4 (I := I251) (A := A251) hV251), (IvX_a9 (I := I251) (A := A251) hV251), trivial⟩ (by omega) (by omega) (show 8 * y302.toInt - 8 * (I 0).toInt = 24 - y303.toInt from by omega) (by omega) (by omega) hF)
  have k305 : (24 : Int32).toInt = 24 := rfl
  have n304a : 24 + 1 - 0 < (FU : Int) := by have := FU_eq; omega
  have n304b : 0 < FU := by have := FU_eq; omega
  exact lp288 FU 24 I A Md.rf Md.rf hIv (by omega) (by omega) (show 8 * (I 0).toInt - 8 * (I 0).toInt = 24 - 24 from by omega) n304a n304b hF
noncomputable def fX11_feed (I : Nat → Int32) (A : Nat → Nat → Int32) (z1 : Int32) (z2 : Int32) (z3 : Int32) (z4 : Int32) (z5 : Int32) : Int32 × (Nat → Int32) × (Nat → Nat → Int32) := if (I 0).toInt ≤ 1980 then f_bdX (fX10_addFour I A z1) fun _ I307 A307 => f_bdX (fX10_addFour I307 A307 z2) fun _ I311 A311 => f_bdX (fX10_addFour I311 A311 z3) fun _ I315 A315 => f_bdX (fX10_addFour I315 A315 z4) fun _ I319 A319 => f_bdX (fX10_addFour I319 A319 z5) fun _ I323 A323 => ((I323 0), I323, A323) else ((-1), I, A)
def wo_k113_X11_feed : List Cond := [Cond.fieldLink RX11 10 "WarpDesk" "tape" "LWarpDesk$Tape;", Cond.fieldLink RX11 85 "WarpDesk$Tape" "size" "I", Cond.methodLink RX11 89 yX10_addFour, Cond.instanceMethod yX10_addFour, Cond.selects RX10 yX10_addFour yX10_addFour, Cond.initialized RX10]
def wz_k113_X11_feed : List Cond := .code yX11_feed cX11_feed 6 (some .int) :: (wo_k113_X11_feed ++ (wsX100 ++ (wsX110 ++ (wz_k114_X10_addFour ++ ([] : List Cond)))))
theorem zg_k113_X11_feed : ∀ w ∈ wz_k113_X11_feed, goodWord w = true := zg_cons rfl (zg_app (by decide +kernel) (zg_app zgU_wsX100 (zg_app zgU_wsX110 (zg_app zg_k114_X10_addFour zg_nil))))
theorem zi_k113_X11_feed : ∀ w ∈ wz_k113_X11_feed, w ∈ lw_tbl := zi_cons zw_521 (zi_app (zi_cons zw_487 (zi_cons zw_136 (zi_cons zw_522 (zi_cons zw_523 (zi_cons zw_524 (zi_cons zw_104 zi_nil)))))) (zi_app inX10 (zi_app inX11 (zi_app zi_k114_X10_addFour zi_nil))))
set_option maxHeartbeats 4000000 in
set_option maxRecDepth 100000 in
theorem k113_X11_feed (l : Launch) (D : va_G) (zt : Nat × Nat × Nat × (Nat → Nat) × (Nat → Nat)) (q : Nat → Nat) (d : Nat → ClassId) (I : Nat → Int32) (A : Nat → Nat → Int32) (z1 : Int32) (z2 : Int32) (z3 : Int32) (z4 : Int32) (z5 : Int32) (hIv : IvX I A) : GM l D zt (tyX d) yX11_feed wz_k113_X11_feed ({ frames := 1, cells := 0, slots := 0, locals := 22 } : Room) [.ref (q 0), .int z1, .int z2, .int z3, .int z4, .int z5] (wX q d I A) (fun v _ w' => ∃ (I' : Nat → Int32) (A' : Nat → Nat → Int32), Md [0] I I' ∧ Md [0] A A' ∧ IvX I' A' ∧ ∃ y0 : Int32, ((1980 < (I 0).toInt ∧ y0.toInt = -1 ∧ (I' 0).toInt = (I 0).toInt) ∨ ((I 0).toInt ≤ 1980 ∧ y0.toInt = (I 0).toInt + 20 ∧ (I' 0).toInt = (I 0).toInt + 20)) ∧ ((-1) ≤ y0.toInt) ∧ (y0.toInt ≤ 2000) ∧ FE (fX11_feed I A z1 z2 z3 z4 z5) (y0, I', A') ∧ v = some (.int y0) ∧ w' = wX q d I' A') 0 0 := by
  refine GM.of (cc := cX11_feed) (maxL := 6) (ret := (some .int)) (own := RX11) (lv := [(0, .ref (q 0)), (1, .int z1), (2, .int z2), (3, .int z3), (4, .int z4), (5, .int z5)]) (by decide) rfl rfl (Nat.le_of_ble_eq_true rfl) rfl (fun κ sz hk hR hN => ?_)
  have hin10 : ∀ w ∈ u_ws RX10 TX10 7, w ∈ wz_k113_X11_feed := fun w h => (List.mem_cons_of_mem _ (List.mem_append_right _ (List.mem_append_left _ h)))
  have hin11 : ∀ w ∈ u_ws RX11 TX11 10, w ∈ wz_k113_X11_feed := fun w h => (List.mem_cons_of_mem _ (List.mem_append_right _ (List.mem_append_right _ (List.mem_append_left _ h))))
  have hF : FE (fX11_feed I A z1 z2 z3 z4 z5) (fX11_feed I A z1 z2 z3 z4 z5) := FE.rf
  refine g_aload_n hk dX11_feed_0 rfl ?_
  refine gX_r0_0 hk hin11 (List.mem_cons_of_mem _ (List.mem_append_left _ (List.mem_of_getElem? (i := 0) rfl))) dX11_feed_1 ?_
  refine gX_i0 (v := (I 0)) hk hin10 (List.mem_cons_of_mem _ (List.mem_append_left _ (List.mem_of_getElem? (i := 1) rfl))) dX11_feed_4 rfl ?_
  have f246 := IvX_f0 hIv
  refine g_sipush (v := 1980) hk dX11_feed_7 (by decide) ?_
  refine g_icmp_le (tgt := 15) (a := (I 0).toInt) (b := 1980) hk dX11_feed_10 (by decide) rfl rfl (fun c247 => ?_) (fun c247 => ?_)
  · skip
    replace hF := FE.pos hF c247
    refine g_aload_n hk dX11_feed_15 rfl ?_
    refine gX_r0_0 hk hin11 (List.mem_cons_of_mem _ (List.mem_append_left _ (List.mem_of_getElem? (i := 0) rfl))) dX11_feed_16 ?_
    refine g_iload_n hk dX11_feed_19 rfl ?_
    refine g_callV (n := 1) hk (k114_X10_addFour l D zt q d I A z1 hIv (show (I 0).toInt ≤ 1996 from by omega)) (SP.same _) (fun _ h => h) (gi_V (List.mem_cons_of_mem _ (List.mem_append_left _ (List.mem_of_getElem? (i := 2) rfl))) (List.mem_cons_of_mem _ (List.mem_append_left _ (List.mem_of_getElem? (i := 3) rfl))) (List.mem_cons_of_mem _ (List.mem_append_left _ (List.mem_of_getElem? (i := 4) rfl))) (List.mem_cons_of_mem _ (List.mem_append_left _ (List.mem_of_getElem? (i := 5) rfl))) (gi_sub (fun w h => (List.mem_cons_of_mem _ (List.mem_append_right _ (List.mem_append_right _ (List.mem_append_right _ (List.mem_append_left _ h)))))) zg_k114_X10_addFour)) rfl rfl rfl (by decide +kernel) ⟨Nat.le_of_ble_eq_true rfl, Nat.le_of_ble_eq_true rfl⟩ 1 rfl rfl rfl rfl (Nat.le_of_ble_eq_true rfl) ⟨Nat.le_of_ble_eq_true rfl, Nat.le_of_ble_eq_true rfl⟩ dX11_feed_20 (fun v ty' w' hp hk' => ?_)
    obtain ⟨I307, A307, hI307, hA307, hV307, r308, hC, rfl, rfl⟩ := hp
    replace hF := FE.bdX hF hC
    have f309 := IvX_f0 hV307
    have r308 : (I307 0).toInt = (I 0).toInt + 4 := r308
    show GW κ 6 0 0 (wX q d I307 A307) 23 [(0, .ref (q 0)), (1, .int z1), (2, .int z2), (3, .int z3), (4, .int z4), (5, .int z5)] []
    refine g_aload_n hk dX11_feed_23 rfl ?_
    refine gX_r0_0 hk hin11 (List.mem_cons_of_mem _ (List.mem_append_left _ (List.mem_of_getElem? (i := 0) rfl))) dX11_feed_24 ?_
    refine g_iload_n hk dX11_feed_27 rfl ?_
    refine g_callV (n := 1) hk (k114_X10_addFour l D zt q d I307 A307 z2 hV307 (show (I307 0).toInt ≤ 1996 from by omega)) (SP.same _) (fun _ h => h) (gi_V (List.mem_cons_of_mem _ (List.mem_append_left _ (List.mem_of_getElem? (i := 2) rfl))) (List.mem_cons_of_mem _ (List.mem_append_left _ (List.mem_of_getElem? (i := 3) rfl))) (List.mem_cons_of_mem _ (List.mem_append_left _ (List.mem_of_getElem? (i := 4) rfl))) (List.mem_cons_of_mem _ (List.mem_append_left _ (List.mem_of_getElem? (i := 5) rfl))) (gi_sub (fun w h => (List.mem_cons_of_mem _ (List.mem_append_right _ (List.mem_append_right _ (List.mem_append_right _ (List.mem_append_left _ h)))))) zg_k114_X10_addFour)) rfl rfl rfl (by decide +kernel) ⟨Nat.le_of_ble_eq_true rfl, Nat.le_of_ble_eq_true rfl⟩ 1 rfl rfl rfl rfl (Nat.le_of_ble_eq_true rfl) ⟨Nat.le_of_ble_eq_true rfl, Nat.le_of_ble_eq_true rfl⟩ dX11_feed_28 (fun v ty' w' hp hk' => ?_)
    obtain ⟨I311, A311, hI311, hA311, hV311, r312, hC, rfl, rfl⟩ := hp
    replace hF := FE.bdX hF hC
    have f313 := IvX_f0 hV311
    have r312 : (I311 0).toInt = (I307 0).toInt + 4 := r312
    show GW κ 6 0 0 (wX q d I311 A311) 31 [(0, .ref (q 0)), (1, .int z1), (2, .int z2), (3, .int z3), (4, .int z4), (5, .int z5)] []
    refine g_aload_n hk dX11_feed_31 rfl ?_
    refine gX_r0_0 hk hin11 (List.mem_cons_of_mem _ (List.mem_append_left _ (List.mem_of_getElem? (i := 0) rfl))) dX11_feed_32 ?_
    refine g_iload_n hk dX11_feed_35 rfl ?_
    refine g_callV (n := 1) hk (k114_X10_addFour l D zt q d I311 A311 z3 hV311 (show (I311 0).toInt ≤ 1996 from by omega)) (SP.same _) (fun _ h => h) (gi_V (List.mem_cons_of_mem _ (List.mem_append_left _ (List.mem_of_getElem? (i := 2) rfl))) (List.mem_cons_of_mem _ (List.mem_append_left _ (List.mem_of_getElem? (i := 3) rfl))) (List.mem_cons_of_mem _ (List.mem_append_left _ (List.mem_of_getElem? (i := 4) rfl))) (List.mem_cons_of_mem _ (List.mem_append_left _ (List.mem_of_getElem? (i := 5) rfl))) (gi_sub (fun w h => (List.mem_cons_of_mem _ (List.mem_append_right _ (List.mem_append_right _ (List.mem_append_right _ (List.mem_append_left _ h)))))) zg_k114_X10_addFour)) rfl rfl rfl (by decide +kernel) ⟨Nat.le_of_ble_eq_true rfl, Nat.le_of_ble_eq_true rfl⟩ 1 rfl rfl rfl rfl (Nat.le_of_ble_eq_true rfl) ⟨Nat.le_of_ble_eq_true rfl, Nat.le_of_ble_eq_true rfl⟩ dX11_feed_36 (fun v ty' w' hp hk' => ?_)
    obtain ⟨I315, A315, hI315, hA315, hV315, r316, hC, rfl, rfl⟩ := hp
    replace hF := FE.bdX hF hC
    have f317 := IvX_f0 hV315
    have r316 : (I315 0).toInt = (I311 0).toInt + 4 := r316
    show GW κ 6 0 0 (wX q d I315 A315) 39 [(0, .ref (q 0)), (1, .int z1), (2, .int z2), (3, .int z3), (4, .int z4), (5, .int z5)] []
    refine g_aload_n hk dX11_feed_39 rfl ?_
    refine gX_r0_0 hk hin11 (List.mem_cons_of_mem _ (List.mem_append_left _ (List.mem_of_getElem? (i := 0) rfl))) dX11_feed_40 ?_
    refine g_iload hk dX11_feed_43 rfl ?_
    refine g_callV (n := 1) hk (k114_X10_addFour l D zt q d I315 A315 z4 hV315 (show (I315 0).toInt ≤ 1996 from by omega)) (SP.same _) (fun _ h => h) (gi_V (List.mem_cons_of_mem _ (List.mem_append_left _ (List.mem_of_getElem? (i := 2) rfl))) (List.mem_cons_of_mem _ (List.mem_append_left _ (List.mem_of_getElem? (i := 3) rfl))) (List.mem_cons_of_mem _ (List.mem_append_left _ (List.mem_of_getElem? (i := 4) rfl))) (List.mem_cons_of_mem _ (List.mem_append_left _ (List.mem_of_getElem? (i := 5) rfl))) (gi_sub (fun w h => (List.mem_cons_of_mem _ (List.mem_append_right _ (List.mem_append_right _ (List.mem_append_right _ (List.mem_append_left _ h)))))) zg_k114_X10_addFour)) rfl rfl rfl (by decide +kernel) ⟨Nat.le_of_ble_eq_true rfl, Nat.le_of_ble_eq_true rfl⟩ 1 rfl rfl rfl rfl (Nat.le_of_ble_eq_true rfl) ⟨Nat.le_of_ble_eq_true rfl, Nat.le_of_ble_eq_true rfl⟩ dX11_feed_45 (fun v ty' w' hp hk' => ?_)
    obtain ⟨I319, A319, hI319, hA319, hV319, r320, hC, rfl, rfl⟩ := hp
    replace hF := FE.bdX hF hC
    have f321 := IvX_f0 hV319
    have r320 : (I319 0).toInt = (I315 0).toInt + 4 := r320
    show GW κ 6 0 0 (wX q d I319 A319) 48 [(0, .ref (q 0)), (1, .int z1), (2, .int z2), (3, .int z3), (4, .int z4), (5, .int z5)] []
    refine g_aload_n hk dX11_feed_48 rfl ?_
    refine gX_r0_0 hk hin11 (List.mem_cons_of_mem _ (List.mem_append_left _ (List.mem_of_getElem? (i := 0) rfl))) dX11_feed_49 ?_
    refine g_iload hk dX11_feed_52 rfl ?_
    refine g_callV (n := 1) hk (k114_X10_addFour l D zt q d I319 A319 z5 hV319 (show (I319 0).toInt ≤ 1996 from by omega)) (SP.same _) (fun _ h => h) (gi_V (List.mem_cons_of_mem _ (List.mem_append_left _ (List.mem_of_getElem? (i := 2) rfl))) (List.mem_cons_of_mem _ (List.mem_append_left _ (List.mem_of_getElem? (i := 3) rfl))) (List.mem_cons_of_mem _ (List.mem_append_left _ (List.mem_of_getElem? (i := 4) rfl))) (List.mem_cons_of_mem _ (List.mem_append_left _ (List.mem_of_getElem? (i := 5) rfl))) (gi_sub (fun w h => (List.mem_cons_of_mem _ (List.mem_append_right _ (List.mem_append_right _ (List.mem_append_right _ (List.mem_append_left _ h)))))) zg_k114_X10_addFour)) rfl rfl rfl (by decide +kernel) ⟨Nat.le_of_ble_eq_true rfl, Nat.le_of_ble_eq_true rfl⟩ 1 rfl rfl rfl rfl (Nat.le_of_ble_eq_true rfl) ⟨Nat.le_of_ble_eq_true rfl, Nat.le_of_ble_eq_true rfl⟩ dX11_feed_54 (fun v ty' w' hp hk' => ?_)
    obtain ⟨I323, A323, hI323, hA323, hV323, r324, hC, rfl, rfl⟩ := hp
    replace hF := FE.bdX hF hC
    have f325 := IvX_f0 hV323
    have r324 : (I323 0).toInt = (I319 0).toInt + 4 := r324
    show GW κ 6 0 0 (wX q d I323 A323) 57 [(0, .ref (q 0)), (1, .int z1), (2, .int z2), (3, .int z3), (4, .int z4), (5, .int z5)] []
    refine g_aload_n hk dX11_feed_57 rfl ?_
    refine gX_r0_0 hk hin11 (List.mem_cons_of_mem _ (List.mem_append_left _ (List.mem_of_getElem? (i := 0) rfl))) dX11_feed_58 ?_
    refine gX_i0 (v := (I323 0)) hk hin10 (List.mem_cons_of_mem _ (List.mem_append_left _ (List.mem_of_getElem? (i := 1) rfl))) dX11_feed_61 rfl ?_
    exact g_iret hk hR rfl ⟨I323, A323, (show Md [0] I I323 from (Md.tr (Md.tr (Md.tr (Md.tr (Md.tr Md.rf hI307 rfl) hI311 rfl) hI315 rfl) hI319 rfl) hI323 rfl)), (show Md [0] A A323 from (Md.tr (Md.tr (Md.tr (Md.tr (Md.tr Md.rf hA307 rfl) hA311 rfl) hA315 rfl) hA319 rfl) hA323 rfl)), hV323, (I323 0), (show (1980 < (I 0).toInt ∧ (I323 0).toInt = -1 ∧ ((I323 0)).toInt = (I 0).toInt) ∨ ((I 0).toInt ≤ 1980 ∧ (I323 0).toInt = (I 0).toInt + 20 ∧ ((I323 0)).toInt = (I 0).toInt + 20) from by omega), (by omega), (by omega), hF, rfl, rfl⟩ dX11_feed_64
  · skip
    replace hF := FE.neg hF c247
    refine g_iconst (v := (-1)) hk dX11_feed_13 (by decide) ?_
    have k326 : ((-1) : Int32).toInt = (-1) := rfl
    exact g_iret hk hR rfl ⟨I, A, (show Md [0] I I from Md.rf), (show Md [0] A A from Md.rf), hIv, (-1), (show (1980 < (I 0).toInt ∧ ((-1) : Int32).toInt = -1 ∧ ((I 0)).toInt = (I 0).toInt) ∨ ((I 0).toInt ≤ 1980 ∧ ((-1) : Int32).toInt = (I 0).toInt + 20 ∧ ((I 0)).toInt = (I 0).toInt + 20) from by omega), (by decide), (by decide), hF, rfl, rfl⟩ dX11_feed_14
noncomputable def fX11_back (I : Nat → Int32) (A : Nat → Nat → Int32) (z1 : Int32) : Int32 × (Nat → Int32) × (Nat → Nat → Int32) := if z1.toInt < 0 then ((-1), I, A) else if z1.toInt ≤ (I 0).toInt then f_lt ((I 0) - z1) fun y333 => (y333, (upd I 0 y333), A) else ((-1), I, A)
def wo_k115_X11_back : List Cond := [Cond.fieldLink RX11 10 "WarpDesk" "tape" "LWarpDesk$Tape;", Cond.fieldLink RX11 85 "WarpDesk$Tape" "size" "I"]
def wz_k115_X11_back : List Cond := .code yX11_back cX11_back 2 (some .int) :: (wo_k115_X11_back ++ (wsX100 ++ (wsX110 ++ ([] : List Cond))))
theorem zg_k115_X11_back : ∀ w ∈ wz_k115_X11_back, goodWord w = true := zg_cons rfl (zg_app (by decide +kernel) (zg_app zgU_wsX100 (zg_app zgU_wsX110 zg_nil)))
theorem zi_k115_X11_back : ∀ w ∈ wz_k115_X11_back, w ∈ lw_tbl := zi_cons zw_529 (zi_app (zi_cons zw_487 (zi_cons zw_136 zi_nil)) (zi_app inX10 (zi_app inX11 zi_nil)))
set_option maxHeartbeats 4000000 in
set_option maxRecDepth 100000 in
theorem k115_X11_back (l : Launch) (D : va_G) (zt : Nat × Nat × Nat × (Nat → Nat) × (Nat → Nat)) (q : Nat → Nat) (d : Nat → ClassId) (I : Nat → Int32) (A : Nat → Nat → Int32) (z1 : Int32) (hIv : IvX I A) : GM l D zt (tyX d) yX11_back wz_k115_X11_back ({ frames := 0, cells := 0, slots := 0, locals := 0 } : Room) [.ref (q 0), .int z1] (wX q d I A) (fun v _ w' => ∃ (I' : Nat → Int32) (A' : Nat → Nat → Int32), Md [0] I I' ∧ Md [] A A' ∧ IvX I' A' ∧ ∃ y0 : Int32, (((z1.toInt < 0 ∨ (I 0).toInt < z1.toInt) ∧ y0.toInt = -1 ∧ (I' 0).toInt = (I 0).toInt) ∨ (0 ≤ z1.toInt ∧ z1.toInt ≤ (I 0).toInt ∧ y0.toInt = (I 0).toInt - z1.toInt ∧ (I' 0).toInt = (I 0).toInt - z1.toInt)) ∧ ((-2000) ≤ y0.toInt) ∧ (y0.toInt ≤ 2000) ∧ FE (fX11_back I A z1) (y0, I', A') ∧ v = some (.int y0) ∧ w' = wX q d I' A') 0 0 := by
  refine GM.of (cc := cX11_back) (maxL := 2) (ret := (some .int)) (own := RX11) (lv := [(0, .ref (q 0)), (1, .int z1)]) (by decide) rfl rfl (Nat.le_of_ble_eq_true rfl) rfl (fun κ sz hk hR hN => ?_)
  have hin10 : ∀ w ∈ u_ws RX10 TX10 7, w ∈ wz_k115_X11_back := fun w h => (List.mem_cons_of_mem _ (List.mem_append_right _ (List.mem_append_left _ h)))
  have hin11 : ∀ w ∈ u_ws RX11 TX11 10, w ∈ wz_k115_X11_back := fun w h => (List.mem_cons_of_mem _ (List.mem_append_right _ (List.mem_append_right _ (List.mem_append_left _ h))))
  have hF : FE (fX11_back I A z1) (fX11_back I A z1) := FE.rf
  refine g_iload_n hk dX11_back_0 rfl ?_
  have b327l := Int32.le_toInt z1
  have b327h := Int32.toInt_lt z1
  refine g_if_lt (tgt := 15) (a := z1.toInt) hk dX11_back_1 (by decide) rfl (fun c328 => ?_) (fun c328 => ?_)
  · skip
    replace hF := FE.pos hF c328
    refine g_iconst (v := (-1)) hk dX11_back_15 (by decide) ?_
    have f329 := IvX_f0 hIv
    have k330 : ((-1) : Int32).toInt = (-1) := rfl
    exact g_iret hk hR rfl ⟨I, A, (show Md [0] I I from Md.rf), (show Md [] A A from Md.rf), hIv, (-1), (show ((z1.toInt < 0 ∨ (I 0).toInt < z1.toInt) ∧ ((-1) : Int32).toInt = -1 ∧ ((I 0)).toInt = (I 0).toInt) ∨ (0 ≤ z1.toInt ∧ z1.toInt ≤ (I 0).toInt ∧ ((-1) : Int32).toInt = (I 0).toInt - z1.toInt ∧ ((I 0)).toInt = (I 0).toInt - z1.toInt) from by omega), (by decide), (by decide), hF, rfl, rfl⟩ dX11_back_16
  · skip
    replace hF := FE.neg hF c328
    refine g_iload_n hk dX11_back_4 rfl ?_
    refine g_aload_n hk dX11_back_5 rfl ?_
    refine gX_r0_0 hk hin11 (List.mem_cons_of_mem _ (List.mem_append_left _ (List.mem_of_getElem? (i := 0) rfl))) dX11_back_6 ?_
    refine gX_i0 (v := (I 0)) hk hin10 (List.mem_cons_of_mem _ (List.mem_append_left _ (List.mem_of_getElem? (i := 1) rfl))) dX11_back_9 rfl ?_
    have f331 := IvX_f0 hIv
    refine g_icmp_le (tgt := 17) (a := z1.toInt) (b := (I 0).toInt) hk dX11_back_12 (by decide) rfl rfl (fun c332 => ?_) (fun c332 => ?_)
    · skip
      replace hF := FE.pos hF c332
      refine g_aload_n hk dX11_back_17 rfl ?_
      refine gX_r0_0 hk hin11 (List.mem_cons_of_mem _ (List.mem_append_left _ (List.mem_of_getElem? (i := 0) rfl))) dX11_back_18 ?_
      refine g_dup hk dX11_back_21 rfl ?_
      refine gX_i0 (v := (I 0)) hk hin10 (List.mem_cons_of_mem _ (List.mem_append_left _ (List.mem_of_getElem? (i := 1) rfl))) dX11_back_22 rfl ?_
      refine g_iload_n hk dX11_back_25 rfl ?_
      refine g_isub hk dX11_back_26 ?_
      refine g_topi (fun y333 ey333 => ?_)
      replace hF := FE.lt hF ey333
      have hy333 : y333.toInt = (I 0).toInt - z1.toInt := i32_sub ey333 rfl rfl (by omega) (by omega)
      refine pX_i0 hk hin10 (List.mem_cons_of_mem _ (List.mem_append_left _ (List.mem_of_getElem? (i := 1) rfl))) dX11_back_27 ?_
      refine g_aload_n hk dX11_back_30 rfl ?_
      refine gX_r0_0 hk hin11 (List.mem_cons_of_mem _ (List.mem_append_left _ (List.mem_of_getElem? (i := 0) rfl))) dX11_back_31 ?_
      refine gX_i0 (v := y333) hk hin10 (List.mem_cons_of_mem _ (List.mem_append_left _ (List.mem_of_getElem? (i := 1) rfl))) dX11_back_34 rfl ?_
      exact g_iret hk hR rfl ⟨(upd I 0 y333), A, (show Md [0] I (upd I 0 y333) from (Md.up Md.rf rfl)), (show Md [] A A from Md.rf), ⟨(show 0 ≤ y333.toInt ∧ y333.toInt ≤ 2000 from ⟨by omega, by omega⟩), (IvX_f18 (I := I) (A := A) hIv), (IvX_f30 (I := I) (A := A) hIv), (IvX_f31 (I := I) (A := A) hIv), (IvX_a4 (I := I) (A := A) hIv), (IvX_a9 (I := I) (A := A) hIv), trivial⟩, y333, (show ((z1.toInt < 0 ∨ (I 0).toInt < z1.toInt) ∧ y333.toInt = -1 ∧ (y333).toInt = (I 0).toInt) ∨ (0 ≤ z1.toInt ∧ z1.toInt ≤ (I 0).toInt ∧ y333.toInt = (I 0).toInt - z1.toInt ∧ (y333).toInt = (I 0).toInt - z1.toInt) from by omega), (by omega), (by omega), hF, rfl, rfl⟩ dX11_back_37
    · skip
      replace hF := FE.neg hF c332
      refine g_iconst (v := (-1)) hk dX11_back_15 (by decide) ?_
      have k334 : ((-1) : Int32).toInt = (-1) := rfl
      exact g_iret hk hR rfl ⟨I, A, (show Md [0] I I from Md.rf), (show Md [] A A from Md.rf), hIv, (-1), (show ((z1.toInt < 0 ∨ (I 0).toInt < z1.toInt) ∧ ((-1) : Int32).toInt = -1 ∧ ((I 0)).toInt = (I 0).toInt) ∨ (0 ≤ z1.toInt ∧ z1.toInt ≤ (I 0).toInt ∧ ((-1) : Int32).toInt = (I 0).toInt - z1.toInt ∧ ((I 0)).toInt = (I 0).toInt - z1.toInt) from by omega), (by decide), (by decide), hF, rfl, rfl⟩ dX11_back_16
noncomputable def fX7_put (I : Nat → Int32) (A : Nat → Nat → Int32) (z1 : Int32) (z2 : Int32) : Int32 × (Nat → Int32) × (Nat → Nat → Int32) := if z1.toInt < 0 then (0, I, A) else if 4 ≤ z1.toInt then (0, I, A) else (0, I, (up3 A 2 (z1.toNatClampNeg) z2))
def wo_k121_X7_put : List Cond := [Cond.fieldLink RX7 20 "WarpDesk$Settings" "values" "[I"]
def wz_k121_X7_put : List Cond := .code yX7_put cX7_put 3 none :: (wo_k121_X7_put ++ (wsX70 ++ ([] : List Cond)))
theorem zg_k121_X7_put : ∀ w ∈ wz_k121_X7_put, goodWord w = true := zg_cons rfl (zg_app (by decide +kernel) (zg_app zgU_wsX70 zg_nil))
theorem zi_k121_X7_put : ∀ w ∈ wz_k121_X7_put, w ∈ lw_tbl := zi_cons zw_553 (zi_app (zi_cons zw_190 zi_nil) (zi_app inX7 zi_nil))
set_option maxHeartbeats 4000000 in
set_option maxRecDepth 100000 in
theorem k121_X7_put (l : Launch) (D : va_G) (zt : Nat × Nat × Nat × (Nat → Nat) × (Nat → Nat)) (q : Nat → Nat) (d : Nat → ClassId) (I : Nat → Int32) (A : Nat → Nat → Int32) (z1 : Int32) (z2 : Int32) (hIv : IvX I A) : GM l D zt (tyX d) yX7_put wz_k121_X7_put ({ frames := 0, cells := 0, slots := 0, locals := 0 } : Room) [.ref (q 6), .int z1, .int z2] (wX q d I A) (fun v _ w' => ∃ (I' : Nat → Int32) (A' : Nat → Nat → Int32), Md [] I I' ∧ Md [2] A A' ∧ IvX I' A' ∧ FE (fX7_put I A z1 z2) (0, I', A') ∧ v = none ∧ w' = wX q d I' A') 0 0 := by
  refine GM.of (cc := cX7_put) (maxL := 3) (ret := none) (own := RX7) (lv := [(0, .ref (q 6)), (1, .int z1), (2, .int z2)]) (by decide) rfl rfl (Nat.le_of_ble_eq_true rfl) rfl (fun κ sz hk hR hN => ?_)
  have hin7 : ∀ w ∈ u_ws RX7 TX7 1, w ∈ wz_k121_X7_put := fun w h => (List.mem_cons_of_mem _ (List.mem_append_right _ (List.mem_append_left _ h)))
  have hF : FE (fX7_put I A z1 z2) (fX7_put I A z1 z2) := FE.rf
  refine g_iload_n hk dX7_put_0 rfl ?_
  have b338l := Int32.le_toInt z1
  have b338h := Int32.toInt_lt z1
  refine g_if_lt (tgt := 20) (a := z1.toInt) hk dX7_put_1 (by decide) rfl (fun c339 => ?_) (fun c339 => ?_)
  · skip
    replace hF := FE.pos hF c339
    exact g_vret hk hR ⟨I, A, (show Md [] I I from Md.rf), (show Md [2] A A from Md.rf), hIv, hF, rfl, rfl⟩ dX7_put_20
  · skip
    replace hF := FE.neg hF c339
    refine g_iload_n hk dX7_put_4 rfl ?_
    refine g_aload_n hk dX7_put_5 rfl ?_
    refine gX_r6_0 hk hin7 (List.mem_cons_of_mem _ (List.mem_append_left _ (List.mem_of_getElem? (i := 0) rfl))) dX7_put_6 ?_
    refine nX_2 hk dX7_put_9 ?_
    refine g_icmp_ge (tgt := 20) (a := z1.toInt) (b := 4) hk dX7_put_10 (by decide) rfl rfl (fun c340 => ?_) (fun c340 => ?_)
    · skip
      replace hF := FE.pos hF c340
      exact g_vret hk hR ⟨I, A, (show Md [] I I from Md.rf), (show Md [2] A A from Md.rf), hIv, hF, rfl, rfl⟩ dX7_put_20
    · skip
      replace hF := FE.neg hF c340
      refine g_aload_n hk dX7_put_13 rfl ?_
      refine gX_r6_0 hk hin7 (List.mem_cons_of_mem _ (List.mem_append_left _ (List.mem_of_getElem? (i := 0) rfl))) dX7_put_14 ?_
      refine g_iload_n hk dX7_put_17 rfl ?_
      refine g_iload_n hk dX7_put_18 rfl ?_
      refine sX_2 (j := z1.toNatClampNeg) hk (vp_in_iff.mpr ⟨by omega, by omega⟩) rfl dX7_put_19 ?_
      exact g_vret hk hR ⟨I, (up3 A 2 (z1.toNatClampNeg) z2), (show Md [] I I from Md.rf), (show Md [2] A (up3 A 2 (z1.toNatClampNeg) z2) from (Md.up3 Md.rf rfl)), ⟨(IvX_f0 (I := I) (A := A) hIv), (IvX_f18 (I := I) (A := A) hIv), (IvX_f30 (I := I) (A := A) hIv), (IvX_f31 (I := I) (A := A) hIv), (IvX_a4 (I := I) (A := A) hIv), (IvX_a9 (I := I) (A := A) hIv), trivial⟩, hF, rfl, rfl⟩ dX7_put_20
noncomputable def bX7_clear_2 : (Int32 → (Nat → Int32) → (Nat → Nat → Int32) → (Int32 × (Nat → Int32) × (Nat → Nat → Int32))) → Int32 → (Nat → Int32) → (Nat → Nat → Int32) → (Int32 × (Nat → Int32) × (Nat → Nat → Int32)) := fun kk416 x335 I337 A337 => if 4 ≤ x335.toInt then (0, I337, A337) else if x335.toInt = 0 then f_bdX (fX7_put I337 A337 0 2) fun _ I423 A423 => kk416 1 I423 A423 else if x335.toInt = 1 then f_bdX (fX7_put I337 A337 1 0) fun _ I429 A429 => kk416 2 I429 A429 else if x335.toInt = 2 then f_bdX (fX7_put I337 A337 2 0) fun _ I435 A435 => kk416 3 I435 A435 else if x335.toInt = 3 then f_bdX (fX7_put I337 A337 3 8) fun _ I441 A441 => kk416 4 I441 A441 else dfX
noncomputable def fX7_clear (I : Nat → Int32) (A : Nat → Nat → Int32) : Int32 × (Nat → Int32) × (Nat → Nat → Int32) := itr_iIA dfX (bX7_clear_2) FU 0 I A
def wo_k120_X7_clear : List Cond := [Cond.fieldLink RX7 9 "WarpDesk$Settings" "UNTOLD" "[I", Cond.methodLink RX7 29 yX7_put, Cond.instanceMethod yX7_put, Cond.selects RX7 yX7_put yX7_put, Cond.initialized RX7]
def wz_k120_X7_clear : List Cond := .code yX7_clear cX7_clear 2 none :: (wo_k120_X7_clear ++ (wz_k121_X7_put ++ ([] : List Cond)))
theorem zg_k120_X7_clear : ∀ w ∈ wz_k120_X7_clear, goodWord w = true := zg_cons rfl (zg_app (by decide +kernel) (zg_app zg_k121_X7_put zg_nil))
theorem zi_k120_X7_clear : ∀ w ∈ wz_k120_X7_clear, w ∈ lw_tbl := zi_cons zw_549 (zi_app (zi_cons zw_181 (zi_cons zw_550 (zi_cons zw_551 (zi_cons zw_552 (zi_cons zw_107 zi_nil))))) (zi_app zi_k121_X7_put zi_nil))
set_option maxHeartbeats 4000000 in
set_option maxRecDepth 100000 in
theorem k120_X7_clear (l : Launch) (D : va_G) (zt : Nat × Nat × Nat × (Nat → Nat) × (Nat → Nat)) (q : Nat → Nat) (d : Nat → ClassId) (I : Nat → Int32) (A : Nat → Nat → Int32) (hIv : IvX I A) : GM l D zt (tyX d) yX7_clear wz_k120_X7_clear ({ frames := 1, cells := 0, slots := 0, locals := 22 } : Room) [.ref (q 6)] (wX q d I A) (fun v _ w' => ∃ (I' : Nat → Int32) (A' : Nat → Nat → Int32), Md [] I I' ∧ Md [2] A A' ∧ IvX I' A' ∧ FE (fX7_clear I A) (0, I', A') ∧ v = none ∧ w' = wX q d I' A') 0 0 := by
  refine GM.of (cc := cX7_clear) (maxL := 2) (ret := none) (own := RX7) (lv := [(0, .ref (q 6))]) (by decide) rfl rfl (Nat.le_of_ble_eq_true rfl) rfl (fun κ sz hk hR hN => ?_)
  have hF : FE (fX7_clear I A) (fX7_clear I A) := FE.rf
  refine g_iconst (v := 0) hk dX7_clear_0 (by decide) ?_
  refine g_istore_n (lv' := [(1, .int 0), (0, .ref (q 6))]) hk dX7_clear_1 (by decide) rfl ?_
  have lp413 : ∀ (n414 : Nat) (x335 : Int32) (I337 : Nat → Int32) (A337 : Nat → Nat → Int32), (Md [] I I337) → (Md [2] A A337) → (IvX I337 A337) → (0 ≤ x335.toInt) → (x335.toInt ≤ 4) → (4 - x335.toInt < (n414 : Int)) → (0 < n414) → (FE (fX7_clear I A) (itr_iIA dfX (bX7_clear_2) n414 x335 I337 A337)) → GW κ 2 0 0 (wX q d I337 A337) 2 [(1, .int x335), (0, .ref (q 6))] [] := by
    intro n414
    induction n414 with
    | zero =>
      intro x335 I337 A337 hI337 hA337 hV337 h411 h412 m415 m415z hF
      exact absurd m415z (Nat.lt_irrefl 0)
    | succ n414 ih417 =>
      intro x335 I337 A337 hI337 hA337 hV337 h411 h412 m415 m415z hF
      replace hF := FE.itr_iIA hF
      refine g_iload_n hk dX7_clear_2 rfl ?_
      refine g_getsU hk (List.mem_cons_of_mem _ (List.mem_append_left _ (List.mem_of_getElem? (i := 0) rfl))) dX7_clear_3 ?_
      refine g_lenU hk dX7_clear_6 ?_
      refine g_icmp_ge (tgt := 26) (a := x335.toInt) (b := 4) hk dX7_clear_7 (by decide) rfl rfl (fun c418 => ?_) (fun c418 => ?_)
      · skip
        replace hF := FE.pos hF c418
        exact g_vret hk hR ⟨I337, A337, (show Md [] I I337 from (Md.tr Md.rf hI337 rfl)), (show Md [2] A A337 from (Md.tr Md.rf hA337 rfl)), hV337, hF, rfl, rfl⟩ dX7_clear_26
      · skip
        replace hF := FE.neg hF c418
        refine g_aload_n hk dX7_clear_10 rfl ?_
        refine g_iload_n hk dX7_clear_11 rfl ?_
        refine g_getsU hk (List.mem_cons_of_mem _ (List.mem_append_left _ (List.mem_of_getElem? (i := 0) rfl))) dX7_clear_12 ?_
        refine g_iload_n hk dX7_clear_15 rfl ?_
        by_cases c419 : x335.toInt = 0
        · have ec419 : x335 = 0 := Int32.toInt_inj.mp c419
          replace hF := FE.pos hF c419
          rw [ec419]
          show GW κ 2 0 0 (wX q d I337 A337) 16 [(1, .int 0), (0, .ref (q 6))] [.int 0, .ref zt.2.2.1, .int 0, .ref (q 6)]
          refine g_sU (v := .int 2) hk (vp_in_iff.mpr ⟨by decide, by decide⟩) rfl dX7_clear_16 ?_
          have k420 : (0 : Int32).toInt = 0 := rfl
          have k421 : (2 : Int32).toInt = 2 := rfl
          refine g_callV (n := 2) hk (k121_X7_put l D zt q d I337 A337 0 2 hV337) (SP.same _) (fun _ h => h) (gi_V (List.mem_cons_of_mem _ (List.mem_append_left _ (List.mem_of_getElem? (i := 1) rfl))) (List.mem_cons_of_mem _ (List.mem_append_left _ (List.mem_of_getElem? (i := 2) rfl))) (List.mem_cons_of_mem _ (List.mem_append_left _ (List.mem_of_getElem? (i := 3) rfl))) (List.mem_cons_of_mem _ (List.mem_append_left _ (List.mem_of_getElem? (i := 4) rfl))) (gi_sub (fun w h => (List.mem_cons_of_mem _ (List.mem_append_right _ (List.mem_append_left _ h)))) zg_k121_X7_put)) rfl rfl rfl (by decide +kernel) ⟨Nat.le_of_ble_eq_true rfl, Nat.le_of_ble_eq_true rfl⟩ 6 rfl rfl rfl rfl (Nat.le_of_ble_eq_true rfl) ⟨Nat.le_of_ble_eq_true rfl, Nat.le_of_ble_eq_true rfl⟩ dX7_clear_17 (fun v ty' w' hp hk' => ?_)
          obtain ⟨I423, A423, hI423, hA423, hV423, hC, rfl, rfl⟩ := hp
          replace hF := FE.bdX hF hC
          show GW κ 2 0 0 (wX q d I423 A423) 20 [(1, .int 0), (0, .ref (q 6))] []
          refine g_iinc (v := 1) (lv' := [(1, .int 1), (0, .ref (q 6))]) hk 0 dX7_clear_20 rfl (by decide) (by decide) rfl ?_
          refine g_goto (tgt := 2) hk dX7_clear_23 (by decide) ?_
          have k424 : (1 : Int32).toInt = 1 := rfl
          exact g_lv (List.forall_mem_cons.mpr ⟨List.mem_of_getElem? (i := 0) rfl, (List.forall_mem_cons.mpr ⟨List.mem_of_getElem? (i := 1) rfl, (fun _ h => absurd h List.not_mem_nil)⟩)⟩) (ih417 1 I423 A423 (show Md [] I I423 from Md.tr hI337 (show Md [] I337 I423 from (Md.tr Md.rf hI423 rfl)) rfl) (show Md [2] A A423 from Md.tr hA337 (show Md [2] A337 A423 from (Md.tr Md.rf hA423 rfl)) rfl) hV423 (by omega) (by omega) (by omega) (by omega) hF)
        replace hF := FE.neg hF c419
        by_cases c425 : x335.toInt = 1
        · have ec425 : x335 = 1 := Int32.toInt_inj.mp c425
          replace hF := FE.pos hF c425
          rw [ec425]
          show GW κ 2 0 0 (wX q d I337 A337) 16 [(1, .int 1), (0, .ref (q 6))] [.int 1, .ref zt.2.2.1, .int 1, .ref (q 6)]
          refine g_sU (v := .int 0) hk (vp_in_iff.mpr ⟨by decide, by decide⟩) rfl dX7_clear_16 ?_
          have k426 : (1 : Int32).toInt = 1 := rfl
          have k427 : (0 : Int32).toInt = 0 := rfl
          refine g_callV (n := 2) hk (k121_X7_put l D zt q d I337 A337 1 0 hV337) (SP.same _) (fun _ h => h) (gi_V (List.mem_cons_of_mem _ (List.mem_append_left _ (List.mem_of_getElem? (i := 1) rfl))) (List.mem_cons_of_mem _ (List.mem_append_left _ (List.mem_of_getElem? (i := 2) rfl))) (List.mem_cons_of_mem _ (List.mem_append_left _ (List.mem_of_getElem? (i := 3) rfl))) (List.mem_cons_of_mem _ (List.mem_append_left _ (List.mem_of_getElem? (i := 4) rfl))) (gi_sub (fun w h => (List.mem_cons_of_mem _ (List.mem_append_right _ (List.mem_append_left _ h)))) zg_k121_X7_put)) rfl rfl rfl (by decide +kernel) ⟨Nat.le_of_ble_eq_true rfl, Nat.le_of_ble_eq_true rfl⟩ 6 rfl rfl rfl rfl (Nat.le_of_ble_eq_true rfl) ⟨Nat.le_of_ble_eq_true rfl, Nat.le_of_ble_eq_true rfl⟩ dX7_clear_17 (fun v ty' w' hp hk' => ?_)
          obtain ⟨I429, A429, hI429, hA429, hV429, hC, rfl, rfl⟩ := hp
          replace hF := FE.bdX hF hC
          show GW κ 2 0 0 (wX q d I429 A429) 20 [(1, .int 1), (0, .ref (q 6))] []
          refine g_iinc (v := 2) (lv' := [(1, .int 2), (0, .ref (q 6))]) hk 0 dX7_clear_20 rfl (by decide) (by decide) rfl ?_
          refine g_goto (tgt := 2) hk dX7_clear_23 (by decide) ?_
          have k430 : (2 : Int32).toInt = 2 := rfl
          exact g_lv (List.forall_mem_cons.mpr ⟨List.mem_of_getElem? (i := 0) rfl, (List.forall_mem_cons.mpr ⟨List.mem_of_getElem? (i := 1) rfl, (fun _ h => absurd h List.not_mem_nil)⟩)⟩) (ih417 2 I429 A429 (show Md [] I I429 from Md.tr hI337 (show Md [] I337 I429 from (Md.tr Md.rf hI429 rfl)) rfl) (show Md [2] A A429 from Md.tr hA337 (show Md [2] A337 A429 from (Md.tr Md.rf hA429 rfl)) rfl) hV429 (by omega) (by omega) (by omega) (by omega) hF)
        replace hF := FE.neg hF c425
        by_cases c431 : x335.toInt = 2
        · have ec431 : x335 = 2 := Int32.toInt_inj.mp c431
          replace hF := FE.pos hF c431
          rw [ec431]
          show GW κ 2 0 0 (wX q d I337 A337) 16 [(1, .int 2), (0, .ref (q 6))] [.int 2, .ref zt.2.2.1, .int 2, .ref (q 6)]
          refine g_sU (v := .int 0) hk (vp_in_iff.mpr ⟨by decide, by decide⟩) rfl dX7_clear_16 ?_
          have k432 : (2 : Int32).toInt = 2 := rfl
          have k433 : (0 : Int32).toInt = 0 := rfl
          refine g_callV (n := 2) hk (k121_X7_put l D zt q d I337 A337 2 0 hV337) (SP.same _) (fun _ h => h) (gi_V (List.mem_cons_of_mem _ (List.mem_append_left _ (List.mem_of_getElem? (i := 1) rfl))) (List.mem_cons_of_mem _ (List.mem_append_left _ (List.mem_of_getElem? (i := 2) rfl))) (List.mem_cons_of_mem _ (List.mem_append_left _ (List.mem_of_getElem? (i := 3) rfl))) (List.mem_cons_of_mem _ (List.mem_append_left _ (List.mem_of_getElem? (i := 4) rfl))) (gi_sub (fun w h => (List.mem_cons_of_mem _ (List.mem_append_right _ (List.mem_append_left _ h)))) zg_k121_X7_put)) rfl rfl rfl (by decide +kernel) ⟨Nat.le_of_ble_eq_true rfl, Nat.le_of_ble_eq_true rfl⟩ 6 rfl rfl rfl rfl (Nat.le_of_ble_eq_true rfl) ⟨Nat.le_of_ble_eq_true rfl, Nat.le_of_ble_eq_true rfl⟩ dX7_clear_17 (fun v ty' w' hp hk' => ?_)
          obtain ⟨I435, A435, hI435, hA435, hV435, hC, rfl, rfl⟩ := hp
          replace hF := FE.bdX hF hC
          show GW κ 2 0 0 (wX q d I435 A435) 20 [(1, .int 2), (0, .ref (q 6))] []
          refine g_iinc (v := 3) (lv' := [(1, .int 3), (0, .ref (q 6))]) hk 0 dX7_clear_20 rfl (by decide) (by decide) rfl ?_
          refine g_goto (tgt := 2) hk dX7_clear_23 (by decide) ?_
          have k436 : (3 : Int32).toInt = 3 := rfl
          exact g_lv (List.forall_mem_cons.mpr ⟨List.mem_of_getElem? (i := 0) rfl, (List.forall_mem_cons.mpr ⟨List.mem_of_getElem? (i := 1) rfl, (fun _ h => absurd h List.not_mem_nil)⟩)⟩) (ih417 3 I435 A435 (show Md [] I I435 from Md.tr hI337 (show Md [] I337 I435 from (Md.tr Md.rf hI435 rfl)) rfl) (show Md [2] A A435 from Md.tr hA337 (show Md [2] A337 A435 from (Md.tr Md.rf hA435 rfl)) rfl) hV435 (by omega) (by omega) (by omega) (by omega) hF)
        replace hF := FE.neg hF c431
        by_cases c437 : x335.toInt = 3
        · have ec437 : x335 = 3 := Int32.toInt_inj.mp c437
          replace hF := FE.pos hF c437
          rw [ec437]
          show GW κ 2 0 0 (wX q d I337 A337) 16 [(1, .int 3), (0, .ref (q 6))] [.int 3, .ref zt.2.2.1, .int 3, .ref (q 6)]
          refine g_sU (v := .int 8) hk (vp_in_iff.mpr ⟨by decide, by decide⟩) rfl dX7_clear_16 ?_
          have k438 : (3 : Int32).toInt = 3 := rfl
          have k439 : (8 : Int32).toInt = 8 := rfl
          refine g_callV (n := 2) hk (k121_X7_put l D zt q d I337 A337 3 8 hV337) (SP.same _) (fun _ h => h) (gi_V (List.mem_cons_of_mem _ (List.mem_append_left _ (List.mem_of_getElem? (i := 1) rfl))) (List.mem_cons_of_mem _ (List.mem_append_left _ (List.mem_of_getElem? (i := 2) rfl))) (List.mem_cons_of_mem _ (List.mem_append_left _ (List.mem_of_getElem? (i := 3) rfl))) (List.mem_cons_of_mem _ (List.mem_append_left _ (List.mem_of_getElem? (i := 4) rfl))) (gi_sub (fun w h => (List.mem_cons_of_mem _ (List.mem_append_right _ (List.mem_append_left _ h)))) zg_k121_X7_put)) rfl rfl rfl (by decide +kernel) ⟨Nat.le_of_ble_eq_true rfl, Nat.le_of_ble_eq_true rfl⟩ 6 rfl rfl rfl rfl (Nat.le_of_ble_eq_true rfl) ⟨Nat.le_of_ble_eq_true rfl, Nat.le_of_ble_eq_true rfl⟩ dX7_clear_17 (fun v ty' w' hp hk' => ?_)
          obtain ⟨I441, A441, hI441, hA441, hV441, hC, rfl, rfl⟩ := hp
          replace hF := FE.bdX hF hC
          show GW κ 2 0 0 (wX q d I441 A441) 20 [(1, .int 3), (0, .ref (q 6))] []
          refine g_iinc (v := 4) (lv' := [(1, .int 4), (0, .ref (q 6))]) hk 0 dX7_clear_20 rfl (by decide) (by decide) rfl ?_
          refine g_goto (tgt := 2) hk dX7_clear_23 (by decide) ?_
          have k442 : (4 : Int32).toInt = 4 := rfl
          exact g_lv (List.forall_mem_cons.mpr ⟨List.mem_of_getElem? (i := 0) rfl, (List.forall_mem_cons.mpr ⟨List.mem_of_getElem? (i := 1) rfl, (fun _ h => absurd h List.not_mem_nil)⟩)⟩) (ih417 4 I441 A441 (show Md [] I I441 from Md.tr hI337 (show Md [] I337 I441 from (Md.tr Md.rf hI441 rfl)) rfl) (show Md [2] A A441 from Md.tr hA337 (show Md [2] A337 A441 from (Md.tr Md.rf hA441 rfl)) rfl) hV441 (by omega) (by omega) (by omega) (by omega) hF)
        replace hF := FE.neg hF c437
        exfalso; omega
  have k444 : (0 : Int32).toInt = 0 := rfl
  have n443a : 4 - 0 < (FU : Int) := by have := FU_eq; omega
  have n443b : 0 < FU := by have := FU_eq; omega
  exact lp413 FU 0 I A Md.rf Md.rf hIv (by omega) (by omega) n443a n443b hF
noncomputable def fX8_clear (I : Nat → Int32) (A : Nat → Nat → Int32) : Int32 × (Nat → Int32) × (Nat → Nat → Int32) := f_bdX (fX7_clear (upd I 14 0) A) fun _ I446 A446 => (0, I446, A446)
def wo_k119_X8_clear : List Cond := [Cond.fieldLink RX8 22 "WarpDesk$Stand" "size" "I", Cond.fieldLink RX8 18 "WarpDesk$Stand" "settings" "LWarpDesk$Settings;", Cond.methodLink RX8 26 yX7_clear, Cond.instanceMethod yX7_clear, Cond.selects RX7 yX7_clear yX7_clear, Cond.initialized RX7]
def wz_k119_X8_clear : List Cond := .code yX8_clear cX8_clear 1 none :: (wo_k119_X8_clear ++ (wsX80 ++ (wz_k120_X7_clear ++ ([] : List Cond))))
theorem zg_k119_X8_clear : ∀ w ∈ wz_k119_X8_clear, goodWord w = true := zg_cons rfl (zg_app (by decide +kernel) (zg_app zgU_wsX80 (zg_app zg_k120_X7_clear zg_nil)))
theorem zi_k119_X8_clear : ∀ w ∈ wz_k119_X8_clear, w ∈ lw_tbl := zi_cons zw_545 (zi_app (zi_cons zw_195 (zi_cons zw_198 (zi_cons zw_546 (zi_cons zw_547 (zi_cons zw_548 (zi_cons zw_107 zi_nil)))))) (zi_app inX8 (zi_app zi_k120_X7_clear zi_nil)))
set_option maxHeartbeats 4000000 in
set_option maxRecDepth 100000 in
theorem k119_X8_clear (l : Launch) (D : va_G) (zt : Nat × Nat × Nat × (Nat → Nat) × (Nat → Nat)) (q : Nat → Nat) (d : Nat → ClassId) (I : Nat → Int32) (A : Nat → Nat → Int32) (hIv : IvX I A) : GM l D zt (tyX d) yX8_clear wz_k119_X8_clear ({ frames := 2, cells := 0, slots := 0, locals := 43 } : Room) [.ref (q 4)] (wX q d I A) (fun v _ w' => ∃ (I' : Nat → Int32) (A' : Nat → Nat → Int32), Md [14] I I' ∧ Md [2] A A' ∧ IvX I' A' ∧ FE (fX8_clear I A) (0, I', A') ∧ v = none ∧ w' = wX q d I' A') 0 0 := by
  refine GM.of (cc := cX8_clear) (maxL := 1) (ret := none) (own := RX8) (lv := [(0, .ref (q 4))]) (by decide) rfl rfl (Nat.le_of_ble_eq_true rfl) rfl (fun κ sz hk hR hN => ?_)
  have hin8 : ∀ w ∈ u_ws RX8 TX8 4, w ∈ wz_k119_X8_clear := fun w h => (List.mem_cons_of_mem _ (List.mem_append_right _ (List.mem_append_left _ h)))
  have hF : FE (fX8_clear I A) (fX8_clear I A) := FE.rf
  refine g_aload_n hk dX8_clear_0 rfl ?_
  refine g_iconst (v := 0) hk dX8_clear_1 (by decide) ?_
  refine pX_i14 hk hin8 (List.mem_cons_of_mem _ (List.mem_append_left _ (List.mem_of_getElem? (i := 0) rfl))) dX8_clear_2 ?_
  refine g_aload_n hk dX8_clear_5 rfl ?_
  refine gX_r4_2 hk hin8 (List.mem_cons_of_mem _ (List.mem_append_left _ (List.mem_of_getElem? (i := 1) rfl))) dX8_clear_6 ?_
  refine g_callV (n := 0) hk (k120_X7_clear l D zt q d (upd I 14 0) A  ⟨(IvX_f0 (I := I) (A := A) hIv), (IvX_f18 (I := I) (A := A) hIv), (IvX_f30 (I := I) (A := A) hIv), (IvX_f31 (I := I) (A := A) hIv), (IvX_a4 (I := I) (A := A) hIv), (IvX_a9 (I := I) (A := A) hIv), trivial⟩) (SP.same _) (fun _ h => h) (gi_V (List.mem_cons_of_mem _ (List.mem_append_left _ (List.mem_of_getElem? (i := 2) rfl))) (List.mem_cons_of_mem _ (List.mem_append_left _ (List.mem_of_getElem? (i := 3) rfl))) (List.mem_cons_of_mem _ (List.mem_append_left _ (List.mem_of_getElem? (i := 4) rfl))) (List.mem_cons_of_mem _ (List.mem_append_left _ (List.mem_of_getElem? (i := 5) rfl))) (gi_sub (fun w h => (List.mem_cons_of_mem _ (List.mem_append_right _ (List.mem_append_right _ (List.mem_append_left _ h))))) zg_k120_X7_clear)) rfl rfl rfl (by decide +kernel) ⟨Nat.le_of_ble_eq_true rfl, Nat.le_of_ble_eq_true rfl⟩ 6 rfl rfl rfl rfl (Nat.le_of_ble_eq_true rfl) ⟨Nat.le_of_ble_eq_true rfl, Nat.le_of_ble_eq_true rfl⟩ dX8_clear_9 (fun v ty' w' hp hk' => ?_)
  obtain ⟨I446, A446, hI446, hA446, hV446, hC, rfl, rfl⟩ := hp
  replace hF := FE.bdX hF hC
  show GW κ 1 0 0 (wX q d I446 A446) 12 [(0, .ref (q 4))] []
  exact g_vret hk hR ⟨I446, A446, (show Md [14] I I446 from (Md.tr (Md.up Md.rf rfl) hI446 rfl)), (show Md [2] A A446 from (Md.tr Md.rf hA446 rfl)), hV446, hF, rfl, rfl⟩ dX8_clear_12
noncomputable def fX10_byteAt (I : Nat → Int32) (A : Nat → Nat → Int32) (z1 : Int32) : Int32 := if z1.toInt < 0 then (-1) else if (I 0).toInt ≤ z1.toInt then (-1) else (A 0 z1.toNatClampNeg)
def wz_k125_X10_byteAt : List Cond := .code yX10_byteAt cX10_byteAt 2 (some .int) :: (wo_k114_X10_addFour ++ (wsX100 ++ ([] : List Cond)))
theorem zg_k125_X10_byteAt : ∀ w ∈ wz_k125_X10_byteAt, goodWord w = true := zg_cons rfl (zg_app (by decide +kernel) (zg_app zgU_wsX100 zg_nil))
theorem zi_k125_X10_byteAt : ∀ w ∈ wz_k125_X10_byteAt, w ∈ lw_tbl := zi_cons zw_569 (zi_app (zi_cons zw_137 (zi_cons zw_135 zi_nil)) (zi_app inX10 zi_nil))
set_option maxHeartbeats 4000000 in
set_option maxRecDepth 100000 in
theorem k125_X10_byteAt (l : Launch) (D : va_G) (zt : Nat × Nat × Nat × (Nat → Nat) × (Nat → Nat)) (q : Nat → Nat) (d : Nat → ClassId) (I : Nat → Int32) (A : Nat → Nat → Int32) (z1 : Int32) (hIv : IvX I A) : GM l D zt (tyX d) yX10_byteAt wz_k125_X10_byteAt ({ frames := 0, cells := 0, slots := 0, locals := 0 } : Room) [.ref (q 1), .int z1] (wX q d I A) (fun v _ w' => ∃ y0 : Int32, FE (fX10_byteAt I A z1) y0 ∧ v = some (.int y0) ∧ w' = wX q d I A) 0 0 := by
  refine GM.of (cc := cX10_byteAt) (maxL := 2) (ret := (some .int)) (own := RX10) (lv := [(0, .ref (q 1)), (1, .int z1)]) (by decide) rfl rfl (Nat.le_of_ble_eq_true rfl) rfl (fun κ sz hk hR hN => ?_)
  have hin10 : ∀ w ∈ u_ws RX10 TX10 7, w ∈ wz_k125_X10_byteAt := fun w h => (List.mem_cons_of_mem _ (List.mem_append_right _ (List.mem_append_left _ h)))
  have hF : FE (fX10_byteAt I A z1) (fX10_byteAt I A z1) := FE.rf
  refine g_iload_n hk dX10_byteAt_0 rfl ?_
  have b456l := Int32.le_toInt z1
  have b456h := Int32.toInt_lt z1
  refine g_if_lt (tgt := 30) (a := z1.toInt) hk dX10_byteAt_1 (by decide) rfl (fun c457 => ?_) (fun c457 => ?_)
  · skip
    replace hF := FE.pos hF c457
    refine g_iconst (v := (-1)) hk dX10_byteAt_30 (by decide) ?_
    exact g_iret hk hR rfl ⟨(-1), hF, rfl, rfl⟩ dX10_byteAt_31
  · skip
    replace hF := FE.neg hF c457
    refine g_iload_n hk dX10_byteAt_4 rfl ?_
    refine g_aload_n hk dX10_byteAt_5 rfl ?_
    refine gX_i0 (v := (I 0)) hk hin10 (List.mem_cons_of_mem _ (List.mem_append_left _ (List.mem_of_getElem? (i := 0) rfl))) dX10_byteAt_6 rfl ?_
    have f458 := IvX_f0 hIv
    refine g_icmp_ge (tgt := 30) (a := z1.toInt) (b := (I 0).toInt) hk dX10_byteAt_9 (by decide) rfl rfl (fun c459 => ?_) (fun c459 => ?_)
    · skip
      replace hF := FE.pos hF c459
      refine g_iconst (v := (-1)) hk dX10_byteAt_30 (by decide) ?_
      exact g_iret hk hR rfl ⟨(-1), hF, rfl, rfl⟩ dX10_byteAt_31
    · skip
      replace hF := FE.neg hF c459
      refine g_iload_n hk dX10_byteAt_12 rfl ?_
      refine g_aload_n hk dX10_byteAt_13 rfl ?_
      refine gX_r1_0 hk hin10 (List.mem_cons_of_mem _ (List.mem_append_left _ (List.mem_of_getElem? (i := 1) rfl))) dX10_byteAt_14 ?_
      refine nX_0 hk dX10_byteAt_17 ?_
      refine g_icmp_ge (tgt := 30) (a := z1.toInt) (b := 2000) hk dX10_byteAt_18 (by decide) rfl rfl (fun z9 => absurd z9 (show ¬ (2000 ≤ z1.toInt) from by omega)) (fun _ => ?_)
      refine g_aload_n hk dX10_byteAt_21 rfl ?_
      refine gX_r1_0 hk hin10 (List.mem_cons_of_mem _ (List.mem_append_left _ (List.mem_of_getElem? (i := 1) rfl))) dX10_byteAt_22 ?_
      refine g_iload_n hk dX10_byteAt_25 rfl ?_
      refine lX_0 (v := (A 0 z1.toNatClampNeg)) hk (vp_in_iff.mpr ⟨by omega, by omega⟩) rfl dX10_byteAt_26 ?_
      refine g_goto (tgt := 31) hk dX10_byteAt_27 (by decide) ?_
      have b460l := Int32.le_toInt (A 0 z1.toNatClampNeg)
      have b460h := Int32.toInt_lt (A 0 z1.toNatClampNeg)
      exact g_iret hk hR rfl ⟨(A 0 z1.toNatClampNeg), hF, rfl, rfl⟩ dX10_byteAt_31
noncomputable def bX10_behindBlanks_2 (I : Nat → Int32) (A : Nat → Nat → Int32) : (Int32 → (Int32)) → Int32 → (Int32) := fun kk487 x449 => if (I 0).toInt ≤ x449.toInt then (I 0) else f_lt (fX10_byteAt I A x449) fun y492 => if y492.toInt = 9 then f_lt (x449 + Int32.ofInt 1) fun y495 => kk487 y495 else if y492.toInt = 10 then f_lt (x449 + Int32.ofInt 1) fun y497 => kk487 y497 else if y492.toInt = 13 then f_lt (x449 + Int32.ofInt 1) fun y499 => kk487 y499 else if y492.toInt = 32 then f_lt (x449 + Int32.ofInt 1) fun y501 => kk487 y501 else x449
noncomputable def fX10_behindBlanks (I : Nat → Int32) (A : Nat → Nat → Int32) (z1 : Int32) : Int32 := itr_i (0 : Int32) (bX10_behindBlanks_2 I A) FU z1
def wo_k124_X10_behindBlanks : List Cond := [Cond.fieldLink RX10 15 "WarpDesk$Tape" "size" "I", Cond.methodLink RX10 38 yX10_byteAt, Cond.instanceMethod yX10_byteAt, Cond.selects RX10 yX10_byteAt yX10_byteAt, Cond.initialized RX10]
def wz_k124_X10_behindBlanks : List Cond := .code yX10_behindBlanks cX10_behindBlanks 4 (some .int) :: (wo_k124_X10_behindBlanks ++ (wsX100 ++ (wz_k125_X10_byteAt ++ ([] : List Cond))))
theorem zg_k124_X10_behindBlanks : ∀ w ∈ wz_k124_X10_behindBlanks, goodWord w = true := zg_cons rfl (zg_app (by decide +kernel) (zg_app zgU_wsX100 (zg_app zg_k125_X10_byteAt zg_nil)))
theorem zi_k124_X10_behindBlanks : ∀ w ∈ wz_k124_X10_behindBlanks, w ∈ lw_tbl := zi_cons zw_565 (zi_app (zi_cons zw_137 (zi_cons zw_566 (zi_cons zw_568 (zi_cons zw_2 (zi_cons zw_104 zi_nil))))) (zi_app inX10 (zi_app zi_k125_X10_byteAt zi_nil)))
set_option maxHeartbeats 4000000 in
set_option maxRecDepth 100000 in
theorem k124_X10_behindBlanks (l : Launch) (D : va_G) (zt : Nat × Nat × Nat × (Nat → Nat) × (Nat → Nat)) (q : Nat → Nat) (d : Nat → ClassId) (I : Nat → Int32) (A : Nat → Nat → Int32) (z1 : Int32) (hIv : IvX I A) : GM l D zt (tyX d) yX10_behindBlanks wz_k124_X10_behindBlanks ({ frames := 1, cells := 0, slots := 0, locals := 21 } : Room) [.ref (q 1), .int z1] (wX q d I A) (fun v _ w' => ∃ y0 : Int32, (y0.toInt ≤ 2000) ∧ FE (fX10_behindBlanks I A z1) y0 ∧ v = some (.int y0) ∧ w' = wX q d I A) 0 0 := by
  refine GM.of (cc := cX10_behindBlanks) (maxL := 4) (ret := (some .int)) (own := RX10) (lv := [(0, .ref (q 1)), (1, .int z1)]) (by decide) rfl rfl (Nat.le_of_ble_eq_true rfl) rfl (fun κ sz hk hR hN => ?_)
  have hin10 : ∀ w ∈ u_ws RX10 TX10 7, w ∈ wz_k124_X10_behindBlanks := fun w h => (List.mem_cons_of_mem _ (List.mem_append_right _ (List.mem_append_left _ h)))
  have hF : FE (fX10_behindBlanks I A z1) (fX10_behindBlanks I A z1) := FE.rf
  refine g_iload_n hk dX10_behindBlanks_0 rfl ?_
  refine g_istore_n (lv' := [(2, .int z1), (0, .ref (q 1)), (1, .int z1)]) hk dX10_behindBlanks_1 (by decide) rfl ?_
  have lp484 : ∀ (n485 : Nat) (x449 : Int32), (2001 - x449.toInt < (n485 : Int)) → (0 < n485) → (FE (fX10_behindBlanks I A z1) (itr_i (0 : Int32) (bX10_behindBlanks_2 I A) n485 x449)) → GW κ 4 0 0 (wX q d I A) 2 [(2, .int x449), (0, .ref (q 1)), (1, .int z1)] [] := by
    intro n485
    induction n485 with
    | zero =>
      intro x449 m486 m486z hF
      exact absurd m486z (Nat.lt_irrefl 0)
    | succ n485 ih488 =>
      intro x449 m486 m486z hF
      replace hF := FE.itr_i hF
      refine g_iload_n hk dX10_behindBlanks_2 rfl ?_
      refine g_aload_n hk dX10_behindBlanks_3 rfl ?_
      refine gX_i0 (v := (I 0)) hk hin10 (List.mem_cons_of_mem _ (List.mem_append_left _ (List.mem_of_getElem? (i := 0) rfl))) dX10_behindBlanks_4 rfl ?_
      have f489 := IvX_f0 hIv
      have b490l := Int32.le_toInt x449
      have b490h := Int32.toInt_lt x449
      refine g_icmp_ge (tgt := 48) (a := x449.toInt) (b := (I 0).toInt) hk dX10_behindBlanks_7 (by decide) rfl rfl (fun c491 => ?_) (fun c491 => ?_)
      · skip
        replace hF := FE.pos hF c491
        refine g_aload_n hk dX10_behindBlanks_48 rfl ?_
        refine gX_i0 (v := (I 0)) hk hin10 (List.mem_cons_of_mem _ (List.mem_append_left _ (List.mem_of_getElem? (i := 0) rfl))) dX10_behindBlanks_49 rfl ?_
        exact g_iret hk hR rfl ⟨(I 0), (by omega), hF, rfl, rfl⟩ dX10_behindBlanks_52
      · skip
        replace hF := FE.neg hF c491
        refine g_aload_n hk dX10_behindBlanks_10 rfl ?_
        refine g_iload_n hk dX10_behindBlanks_11 rfl ?_
        refine g_callV (n := 1) hk (k125_X10_byteAt l D zt q d I A x449 hIv) (SP.same _) (fun _ h => h) (gi_V (List.mem_cons_of_mem _ (List.mem_append_left _ (List.mem_of_getElem? (i := 1) rfl))) (List.mem_cons_of_mem _ (List.mem_append_left _ (List.mem_of_getElem? (i := 2) rfl))) (List.mem_cons_of_mem _ (List.mem_append_left _ (List.mem_of_getElem? (i := 3) rfl))) (List.mem_cons_of_mem _ (List.mem_append_left _ (List.mem_of_getElem? (i := 4) rfl))) (gi_sub (fun w h => (List.mem_cons_of_mem _ (List.mem_append_right _ (List.mem_append_right _ (List.mem_append_left _ h))))) zg_k125_X10_byteAt)) rfl rfl rfl (by decide +kernel) ⟨Nat.le_of_ble_eq_true rfl, Nat.le_of_ble_eq_true rfl⟩ 1 rfl rfl rfl rfl (Nat.le_of_ble_eq_true rfl) ⟨Nat.le_of_ble_eq_true rfl, Nat.le_of_ble_eq_true rfl⟩ dX10_behindBlanks_12 (fun v ty' w' hp hk' => ?_)
        obtain ⟨y492, hC, rfl, rfl⟩ := hp
        replace hF := FE.lt hF (fe_s hC)
        show GW κ 4 0 0 (wX q d I A) 15 [(2, .int x449), (0, .ref (q 1)), (1, .int z1)] [.int y492]
        refine g_istore_n (lv' := [(3, .int y492), (2, .int x449), (0, .ref (q 1)), (1, .int z1)]) hk dX10_behindBlanks_15 (by decide) rfl ?_
        refine g_iload_n hk dX10_behindBlanks_16 rfl ?_
        refine g_bipush (v := 9) hk dX10_behindBlanks_17 (by decide) ?_
        have b493l := Int32.le_toInt y492
        have b493h := Int32.toInt_lt y492
        refine g_icmp_eq (tgt := 42) (a := y492.toInt) (b := 9) hk dX10_behindBlanks_19 (by decide) rfl rfl (fun c494 => ?_) (fun c494 => ?_)
        · skip
          replace hF := FE.pos hF c494
          obtain ⟨y495, ey495⟩ : ∃ y : Int32, y = x449 + Int32.ofInt 1 := ⟨_, rfl⟩
          replace hF := FE.lt hF ey495
          have hy495 : y495.toInt = x449.toInt + 1 := i32_add ey495 rfl (by decide) (by omega) (by omega)
          refine g_iinc (v := y495) (lv' := [(2, .int y495), (3, .int y492), (0, .ref (q 1)), (1, .int z1)]) hk 1 dX10_behindBlanks_42 rfl ey495.symm (by decide) rfl ?_
          refine g_goto (tgt := 2) hk dX10_behindBlanks_45 (by decide) ?_
          exact g_lv (List.forall_mem_cons.mpr ⟨List.mem_of_getElem? (i := 0) rfl, (List.forall_mem_cons.mpr ⟨List.mem_of_getElem? (i := 2) rfl, (List.forall_mem_cons.mpr ⟨List.mem_of_getElem? (i := 3) rfl, (fun _ h => absurd h List.not_mem_nil)⟩)⟩)⟩) (ih488 y495 (by omega) (by omega) hF)
        · skip
          replace hF := FE.neg hF c494
          refine g_iload_n hk dX10_behindBlanks_22 rfl ?_
          refine g_bipush (v := 10) hk dX10_behindBlanks_23 (by decide) ?_
          refine g_icmp_eq (tgt := 42) (a := y492.toInt) (b := 10) hk dX10_behindBlanks_25 (by decide) rfl rfl (fun c496 => ?_) (fun c496 => ?_)
          · skip
            replace hF := FE.pos hF c496
            obtain ⟨y497, ey497⟩ : ∃ y : Int32, y = x449 + Int32.ofInt 1 := ⟨_, rfl⟩
            replace hF := FE.lt hF ey497
            have hy497 : y497.toInt = x449.toInt + 1 := i32_add ey497 rfl (by decide) (by omega) (by omega)
            refine g_iinc (v := y497) (lv' := [(2, .int y497), (3, .int y492), (0, .ref (q 1)), (1, .int z1)]) hk 1 dX10_behindBlanks_42 rfl ey497.symm (by decide) rfl ?_
            refine g_goto (tgt := 2) hk dX10_behindBlanks_45 (by decide) ?_
            exact g_lv (List.forall_mem_cons.mpr ⟨List.mem_of_getElem? (i := 0) rfl, (List.forall_mem_cons.mpr ⟨List.mem_of_getElem? (i := 2) rfl, (List.forall_mem_cons.mpr ⟨List.mem_of_getElem? (i := 3) rfl, (fun _ h => absurd h List.not_mem_nil)⟩)⟩)⟩) (ih488 y497 (by omega) (by omega) hF)
          · skip
            replace hF := FE.neg hF c496
            refine g_iload_n hk dX10_behindBlanks_28 rfl ?_
            refine g_bipush (v := 13) hk dX10_behindBlanks_29 (by decide) ?_
            refine g_icmp_eq (tgt := 42) (a := y492.toInt) (b := 13) hk dX10_behindBlanks_31 (by decide) rfl rfl (fun c498 => ?_) (fun c498 => ?_)
            · skip
              replace hF := FE.pos hF c498
              obtain ⟨y499, ey499⟩ : ∃ y : Int32, y = x449 + Int32.ofInt 1 := ⟨_, rfl⟩
              replace hF := FE.lt hF ey499
              have hy499 : y499.toInt = x449.toInt + 1 := i32_add ey499 rfl (by decide) (by omega) (by omega)
              refine g_iinc (v := y499) (lv' := [(2, .int y499), (3, .int y492), (0, .ref (q 1)), (1, .int z1)]) hk 1 dX10_behindBlanks_42 rfl ey499.symm (by decide) rfl ?_
              refine g_goto (tgt := 2) hk dX10_behindBlanks_45 (by decide) ?_
              exact g_lv (List.forall_mem_cons.mpr ⟨List.mem_of_getElem? (i := 0) rfl, (List.forall_mem_cons.mpr ⟨List.mem_of_getElem? (i := 2) rfl, (List.forall_mem_cons.mpr ⟨List.mem_of_getElem? (i := 3) rfl, (fun _ h => absurd h List.not_mem_nil)⟩)⟩)⟩) (ih488 y499 (by omega) (by omega) hF)
            · skip
              replace hF := FE.neg hF c498
              refine g_iload_n hk dX10_behindBlanks_34 rfl ?_
              refine g_bipush (v := 32) hk dX10_behindBlanks_35 (by decide) ?_
              refine g_icmp_eq (tgt := 42) (a := y492.toInt) (b := 32) hk dX10_behindBlanks_37 (by decide) rfl rfl (fun c500 => ?_) (fun c500 => ?_)
              · skip
                replace hF := FE.pos hF c500
                obtain ⟨y501, ey501⟩ : ∃ y : Int32, y = x449 + Int32.ofInt 1 := ⟨_, rfl⟩
                replace hF := FE.lt hF ey501
                have hy501 : y501.toInt = x449.toInt + 1 := i32_add ey501 rfl (by decide) (by omega) (by omega)
                refine g_iinc (v := y501) (lv' := [(2, .int y501), (3, .int y492), (0, .ref (q 1)), (1, .int z1)]) hk 1 dX10_behindBlanks_42 rfl ey501.symm (by decide) rfl ?_
                refine g_goto (tgt := 2) hk dX10_behindBlanks_45 (by decide) ?_
                exact g_lv (List.forall_mem_cons.mpr ⟨List.mem_of_getElem? (i := 0) rfl, (List.forall_mem_cons.mpr ⟨List.mem_of_getElem? (i := 2) rfl, (List.forall_mem_cons.mpr ⟨List.mem_of_getElem? (i := 3) rfl, (fun _ h => absurd h List.not_mem_nil)⟩)⟩)⟩) (ih488 y501 (by omega) (by omega) hF)
              · skip
                replace hF := FE.neg hF c500
                refine g_iload_n hk dX10_behindBlanks_40 rfl ?_
                exact g_iret hk hR rfl ⟨x449, (by omega), hF, rfl, rfl⟩ dX10_behindBlanks_41
  have b503l := Int32.le_toInt z1
  have b503h := Int32.toInt_lt z1
  have b504 := Int32.le_toInt z1
  have b505 := Int32.toInt_lt z1
  have n502a : 2001 - z1.toInt < (FU : Int) := by have := FU_eq; omega
  have n502b : 0 < FU := by have := FU_eq; omega
  exact lp484 FU z1 n502a n502b hF
noncomputable def fX10_isLetter (I : Nat → Int32) (A : Nat → Nat → Int32) (z0 : Int32) : Int32 := if z0.toInt < 97 then 0 else if 122 < z0.toInt then 0 else 1
def wo_k126_X10_isLetter : List Cond := []
def wz_k126_X10_isLetter : List Cond := .code yX10_isLetter cX10_isLetter 1 (some .boolean) :: (wo_k126_X10_isLetter ++ ([] : List Cond))
theorem zg_k126_X10_isLetter : ∀ w ∈ wz_k126_X10_isLetter, goodWord w = true := zg_cons rfl (zg_app (by decide +kernel) zg_nil)
theorem zi_k126_X10_isLetter : ∀ w ∈ wz_k126_X10_isLetter, w ∈ lw_tbl := zi_cons zw_572 (zi_app zi_nil zi_nil)
set_option maxHeartbeats 4000000 in
set_option maxRecDepth 100000 in
theorem k126_X10_isLetter (l : Launch) (D : va_G) (zt : Nat × Nat × Nat × (Nat → Nat) × (Nat → Nat)) (q : Nat → Nat) (d : Nat → ClassId) (I : Nat → Int32) (A : Nat → Nat → Int32) (z0 : Int32) (hIv : IvX I A) : GM l D zt (tyX d) yX10_isLetter wz_k126_X10_isLetter ({ frames := 0, cells := 0, slots := 0, locals := 0 } : Room) [.int z0] (wX q d I A) (fun v _ w' => (FE (fX10_isLetter I A z0) (0) ∧ v = some (.int 0) ∧ w' = wX q d I A) ∨ ((¬ (z0.toInt < 97)) ∧ (¬ (122 < z0.toInt)) ∧ (97 ≤ z0.toInt) ∧ (z0.toInt ≤ 122) ∧ FE (fX10_isLetter I A z0) (1) ∧ v = some (.int 1) ∧ w' = wX q d I A)) 0 0 := by
  refine GM.of (cc := cX10_isLetter) (maxL := 1) (ret := (some .boolean)) (own := RX10) (lv := [(0, .int z0)]) (by decide) rfl rfl (Nat.le_of_ble_eq_true rfl) rfl (fun κ sz hk hR hN => ?_)
  have hF : FE (fX10_isLetter I A z0) (fX10_isLetter I A z0) := FE.rf
  refine g_iload_n hk dX10_isLetter_0 rfl ?_
  refine g_bipush (v := 97) hk dX10_isLetter_1 (by decide) ?_
  have b513l := Int32.le_toInt z0
  have b513h := Int32.toInt_lt z0
  refine g_icmp_lt (tgt := 16) (a := z0.toInt) (b := 97) hk dX10_isLetter_3 (by decide) rfl rfl (fun c514 => ?_) (fun c514 => ?_)
  · skip
    replace hF := FE.pos hF c514
    refine g_iconst (v := 0) hk dX10_isLetter_16 (by decide) ?_
    exact g_iret hk hR rfl (Or.inl ⟨hF, rfl, rfl⟩) dX10_isLetter_17
  · skip
    replace hF := FE.neg hF c514
    refine g_iload_n hk dX10_isLetter_6 rfl ?_
    refine g_bipush (v := 122) hk dX10_isLetter_7 (by decide) ?_
    refine g_icmp_gt (tgt := 16) (a := z0.toInt) (b := 122) hk dX10_isLetter_9 (by decide) rfl rfl (fun c515 => ?_) (fun c515 => ?_)
    · skip
      replace hF := FE.pos hF c515
      refine g_iconst (v := 0) hk dX10_isLetter_16 (by decide) ?_
      exact g_iret hk hR rfl (Or.inl ⟨hF, rfl, rfl⟩) dX10_isLetter_17
    · skip
      replace hF := FE.neg hF c515
      refine g_iconst (v := 1) hk dX10_isLetter_12 (by decide) ?_
      refine g_goto (tgt := 17) hk dX10_isLetter_13 (by decide) ?_
      exact g_iret hk hR rfl (Or.inr (⟨c514, c515, (by omega), (by omega), hF, rfl, rfl⟩)) dX10_isLetter_17
noncomputable def fX10_isDigit (I : Nat → Int32) (A : Nat → Nat → Int32) (z0 : Int32) : Int32 := if z0.toInt < 48 then 0 else if 57 < z0.toInt then 0 else 1
def wz_k127_X10_isDigit : List Cond := .code yX10_isDigit cX10_isDigit 1 (some .boolean) :: (wo_k126_X10_isLetter ++ ([] : List Cond))
theorem zg_k127_X10_isDigit : ∀ w ∈ wz_k127_X10_isDigit, goodWord w = true := zg_cons rfl (zg_app (by decide +kernel) zg_nil)
theorem zi_k127_X10_isDigit : ∀ w ∈ wz_k127_X10_isDigit, w ∈ lw_tbl := zi_cons zw_579 (zi_app zi_nil zi_nil)
set_option maxHeartbeats 4000000 in
set_option maxRecDepth 100000 in
theorem k127_X10_isDigit (l : Launch) (D : va_G) (zt : Nat × Nat × Nat × (Nat → Nat) × (Nat → Nat)) (q : Nat → Nat) (d : Nat → ClassId) (I : Nat → Int32) (A : Nat → Nat → Int32) (z0 : Int32) (hIv : IvX I A) : GM l D zt (tyX d) yX10_isDigit wz_k127_X10_isDigit ({ frames := 0, cells := 0, slots := 0, locals := 0 } : Room) [.int z0] (wX q d I A) (fun v _ w' => (FE (fX10_isDigit I A z0) (0) ∧ v = some (.int 0) ∧ w' = wX q d I A) ∨ ((¬ (z0.toInt < 48)) ∧ (¬ (57 < z0.toInt)) ∧ (48 ≤ z0.toInt) ∧ (z0.toInt ≤ 57) ∧ FE (fX10_isDigit I A z0) (1) ∧ v = some (.int 1) ∧ w' = wX q d I A)) 0 0 := by
  refine GM.of (cc := cX10_isDigit) (maxL := 1) (ret := (some .boolean)) (own := RX10) (lv := [(0, .int z0)]) (by decide) rfl rfl (Nat.le_of_ble_eq_true rfl) rfl (fun κ sz hk hR hN => ?_)
  have hF : FE (fX10_isDigit I A z0) (fX10_isDigit I A z0) := FE.rf
  refine g_iload_n hk dX10_isDigit_0 rfl ?_
  refine g_bipush (v := 48) hk dX10_isDigit_1 (by decide) ?_
  have b522l := Int32.le_toInt z0
  have b522h := Int32.toInt_lt z0
  refine g_icmp_lt (tgt := 16) (a := z0.toInt) (b := 48) hk dX10_isDigit_3 (by decide) rfl rfl (fun c523 => ?_) (fun c523 => ?_)
  · skip
    replace hF := FE.pos hF c523
    refine g_iconst (v := 0) hk dX10_isDigit_16 (by decide) ?_
    exact g_iret hk hR rfl (Or.inl ⟨hF, rfl, rfl⟩) dX10_isDigit_17
  · skip
    replace hF := FE.neg hF c523
    refine g_iload_n hk dX10_isDigit_6 rfl ?_
    refine g_bipush (v := 57) hk dX10_isDigit_7 (by decide) ?_
    refine g_icmp_gt (tgt := 16) (a := z0.toInt) (b := 57) hk dX10_isDigit_9 (by decide) rfl rfl (fun c524 => ?_) (fun c524 => ?_)
    · skip
      replace hF := FE.pos hF c524
      refine g_iconst (v := 0) hk dX10_isDigit_16 (by decide) ?_
      exact g_iret hk hR rfl (Or.inl ⟨hF, rfl, rfl⟩) dX10_isDigit_17
    · skip
      replace hF := FE.neg hF c524
      refine g_iconst (v := 1) hk dX10_isDigit_12 (by decide) ?_
      refine g_goto (tgt := 17) hk dX10_isDigit_13 (by decide) ?_
      exact g_iret hk hR rfl (Or.inr (⟨c523, c524, (by omega), (by omega), hF, rfl, rfl⟩)) dX10_isDigit_17
noncomputable def bX10_takeDigits_5 (I : Nat → Int32) : (Int32 → (Nat → Int32) → (Nat → Nat → Int32) → (Int32 × (Nat → Int32) × (Nat → Nat → Int32))) → Int32 → (Nat → Int32) → (Nat → Nat → Int32) → (Int32 × (Nat → Int32) × (Nat → Nat → Int32)) := fun kk593 x535 I537 A537 => if (I 0).toInt ≤ x535.toInt then f_lt (x535 - (I 2)) fun y599 => if 4 < y599.toInt then (0, (upd (upd I537 5 x535) 1 5), A537) else (0, (upd (upd I537 5 x535) 1 2), A537) else f_lt (fX10_byteAt I537 A537 x535) fun y602 => if fX10_isDigit I537 A537 y602 = 0 then f_lt (x535 - (I 2)) fun y610 => if 4 < y610.toInt then (0, (upd (upd I537 5 x535) 1 5), A537) else (0, (upd (upd I537 5 x535) 1 2), A537) else f_lt ((I537 3) * (10 : Int32)) fun y614 => f_lt (fX10_byteAt I537 A537 x535) fun y615 => f_lt (y614 + y615) fun y618 => f_lt (y618 - (48 : Int32)) fun y620 => f_lt (x535 + Int32.ofInt 1) fun y621 => kk593 y621 (upd I537 3 y620) A537
noncomputable def fX10_takeDigits (I : Nat → Int32) (A : Nat → Nat → Int32) : Int32 × (Nat → Int32) × (Nat → Nat → Int32) := itr_iIA dfX (bX10_takeDigits_5 I) FU (I 2) I A
def wo_k128_X10_takeDigits : List Cond := [Cond.fieldLink RX10 32 "WarpDesk$Tape" "start" "I", Cond.fieldLink RX10 15 "WarpDesk$Tape" "size" "I", Cond.fieldLink RX10 19 "WarpDesk$Tape" "behind" "I", Cond.fieldLink RX10 41 "WarpDesk$Tape" "kind" "I", Cond.methodLink RX10 38 yX10_byteAt, Cond.instanceMethod yX10_byteAt, Cond.selects RX10 yX10_byteAt yX10_byteAt, Cond.initialized RX10, Cond.methodLink RX10 51 yX10_isDigit, Cond.static yX10_isDigit, Cond.fieldLink RX10 35 "WarpDesk$Tape" "value" "I"]
def wz_k128_X10_takeDigits : List Cond := .code yX10_takeDigits cX10_takeDigits 2 none :: (wo_k128_X10_takeDigits ++ (wsX100 ++ (wz_k125_X10_byteAt ++ (wz_k127_X10_isDigit ++ ([] : List Cond)))))
theorem zg_k128_X10_takeDigits : ∀ w ∈ wz_k128_X10_takeDigits, goodWord w = true := zg_cons rfl (zg_app (by decide +kernel) (zg_app zgU_wsX100 (zg_app zg_k125_X10_byteAt (zg_app zg_k127_X10_isDigit zg_nil))))
theorem zi_k128_X10_takeDigits : ∀ w ∈ wz_k128_X10_takeDigits, w ∈ lw_tbl := zi_cons zw_583 (zi_app (zi_cons zw_140 (zi_cons zw_137 (zi_cons zw_146 (zi_cons zw_139 (zi_cons zw_566 (zi_cons zw_568 (zi_cons zw_2 (zi_cons zw_104 (zi_cons zw_577 (zi_cons zw_578 (zi_cons zw_142 zi_nil))))))))))) (zi_app inX10 (zi_app zi_k125_X10_byteAt (zi_app zi_k127_X10_isDigit zi_nil))))
set_option maxHeartbeats 4000000 in
set_option maxRecDepth 100000 in
theorem k128_X10_takeDigits (l : Launch) (D : va_G) (zt : Nat × Nat × Nat × (Nat → Nat) × (Nat → Nat)) (q : Nat → Nat) (d : Nat → ClassId) (I : Nat → Int32) (A : Nat → Nat → Int32) (hIv : IvX I A) : GM l D zt (tyX d) yX10_takeDigits wz_k128_X10_takeDigits ({ frames := 1, cells := 0, slots := 0, locals := 21 } : Room) [.ref (q 1)] (wX q d I A) (fun v _ w' => ∃ (I' : Nat → Int32) (A' : Nat → Nat → Int32), Md [1, 3, 5] I I' ∧ Md [] A A' ∧ IvX I' A' ∧ FE (fX10_takeDigits I A) (0, I', A') ∧ v = none ∧ w' = wX q d I' A') 0 0 := by
  refine GM.of (cc := cX10_takeDigits) (maxL := 2) (ret := none) (own := RX10) (lv := [(0, .ref (q 1))]) (by decide) rfl rfl (Nat.le_of_ble_eq_true rfl) rfl (fun κ sz hk hR hN => ?_)
  have hin10 : ∀ w ∈ u_ws RX10 TX10 7, w ∈ wz_k128_X10_takeDigits := fun w h => (List.mem_cons_of_mem _ (List.mem_append_right _ (List.mem_append_left _ h)))
  have hF : FE (fX10_takeDigits I A) (fX10_takeDigits I A) := FE.rf
  refine g_aload_n hk dX10_takeDigits_0 rfl ?_
  refine gX_i2 (v := (I 2)) hk hin10 (List.mem_cons_of_mem _ (List.mem_append_left _ (List.mem_of_getElem? (i := 0) rfl))) dX10_takeDigits_1 rfl ?_
  refine g_istore_n (lv' := [(1, .int (I 2)), (0, .ref (q 1))]) hk dX10_takeDigits_4 (by decide) rfl ?_
  have lp590 : ∀ (n591 : Nat) (x535 : Int32) (I537 : Nat → Int32) (A537 : Nat → Nat → Int32), (Md [3] I I537) → (Md [] A A537) → (IvX I537 A537) → (2001 - x535.toInt < (n591 : Int)) → (0 < n591) → (FE (fX10_takeDigits I A) (itr_iIA dfX (bX10_takeDigits_5 I) n591 x535 I537 A537)) → GW κ 2 0 0 (wX q d I537 A537) 5 [(1, .int x535), (0, .ref (q 1))] [] := by
    intro n591
    induction n591 with
    | zero =>
      intro x535 I537 A537 hI537 hA537 hV537 m592 m592z hF
      exact absurd m592z (Nat.lt_irrefl 0)
    | succ n591 ih594 =>
      intro x535 I537 A537 hI537 hA537 hV537 m592 m592z hF
      replace hF := FE.itr_iIA hF
      refine g_iload_n hk dX10_takeDigits_5 rfl ?_
      refine g_aload_n hk dX10_takeDigits_6 rfl ?_
      refine gX_i0 (v := (I 0)) hk hin10 (List.mem_cons_of_mem _ (List.mem_append_left _ (List.mem_of_getElem? (i := 1) rfl))) dX10_takeDigits_7 (hI537 0 rfl) ?_
      have f595 := IvX_f0 hIv
      have b596l := Int32.le_toInt x535
      have b596h := Int32.toInt_lt x535
      refine g_icmp_ge (tgt := 50) (a := x535.toInt) (b := (I 0).toInt) hk dX10_takeDigits_10 (by decide) rfl rfl (fun c597 => ?_) (fun c597 => ?_)
      · skip
        replace hF := FE.pos hF c597
        refine g_aload_n hk dX10_takeDigits_50 rfl ?_
        refine g_iload_n hk dX10_takeDigits_51 rfl ?_
        refine pX_i5 hk hin10 (List.mem_cons_of_mem _ (List.mem_append_left _ (List.mem_of_getElem? (i := 2) rfl))) dX10_takeDigits_52 ?_
        refine g_aload_n hk dX10_takeDigits_55 rfl ?_
        refine g_aload_n hk dX10_takeDigits_56 rfl ?_
        refine gX_i5 (v := x535) hk hin10 (List.mem_cons_of_mem _ (List.mem_append_left _ (List.mem_of_getElem? (i := 2) rfl))) dX10_takeDigits_57 rfl ?_
        refine g_aload_n hk dX10_takeDigits_60 rfl ?_
        refine gX_i2 (v := (I 2)) hk hin10 (List.mem_cons_of_mem _ (List.mem_append_left _ (List.mem_of_getElem? (i := 0) rfl))) dX10_takeDigits_61 (hI537 2 rfl) ?_
        have b598l := Int32.le_toInt (I 2)
        have b598h := Int32.toInt_lt (I 2)
        refine g_isub hk dX10_takeDigits_64 ?_
        refine g_topi (fun y599 ey599 => ?_)
        replace hF := FE.lt hF ey599
        have hy599 := i32_sub0 ey599
        refine g_iconst (v := 4) hk dX10_takeDigits_65 (by decide) ?_
        have b600l := Int32.le_toInt y599
        have b600h := Int32.toInt_lt y599
        refine g_icmp_gt (tgt := 73) (a := y599.toInt) (b := 4) hk dX10_takeDigits_66 (by decide) rfl rfl (fun c601 => ?_) (fun c601 => ?_)
        · skip
          replace hF := FE.pos hF c601
          refine g_iconst (v := 5) hk dX10_takeDigits_73 (by decide) ?_
          refine pX_i1 hk hin10 (List.mem_cons_of_mem _ (List.mem_append_left _ (List.mem_of_getElem? (i := 3) rfl))) dX10_takeDigits_74 ?_
          exact g_vret hk hR ⟨(upd (upd I537 5 x535) 1 5), A537, (show Md [1, 3, 5] I (upd (upd I537 5 x535) 1 5) from (Md.up (Md.up (Md.tr Md.rf hI537 rfl) rfl) rfl)), (show Md [] A A537 from (Md.tr Md.rf hA537 rfl)), ⟨(IvX_f0 (I := I537) (A := A537) hV537), (IvX_f18 (I := I537) (A := A537) hV537), (IvX_f30 (I := I537) (A := A537) hV537), (IvX_f31 (I := I537) (A := A537) hV537), (IvX_a4 (I := I537) (A := A537) hV537), (IvX_a9 (I := I537) (A := A537) hV537), trivial⟩, hF, rfl, rfl⟩ dX10_takeDigits_77
        · skip
          replace hF := FE.neg hF c601
          refine g_iconst (v := 2) hk dX10_takeDigits_69 (by decide) ?_
          refine g_goto (tgt := 74) hk dX10_takeDigits_70 (by decide) ?_
          refine pX_i1 hk hin10 (List.mem_cons_of_mem _ (List.mem_append_left _ (List.mem_of_getElem? (i := 3) rfl))) dX10_takeDigits_74 ?_
          exact g_vret hk hR ⟨(upd (upd I537 5 x535) 1 2), A537, (show Md [1, 3, 5] I (upd (upd I537 5 x535) 1 2) from (Md.up (Md.up (Md.tr Md.rf hI537 rfl) rfl) rfl)), (show Md [] A A537 from (Md.tr Md.rf hA537 rfl)), ⟨(IvX_f0 (I := I537) (A := A537) hV537), (IvX_f18 (I := I537) (A := A537) hV537), (IvX_f30 (I := I537) (A := A537) hV537), (IvX_f31 (I := I537) (A := A537) hV537), (IvX_a4 (I := I537) (A := A537) hV537), (IvX_a9 (I := I537) (A := A537) hV537), trivial⟩, hF, rfl, rfl⟩ dX10_takeDigits_77
      · skip
        replace hF := FE.neg hF c597
        refine g_aload_n hk dX10_takeDigits_13 rfl ?_
        refine g_iload_n hk dX10_takeDigits_14 rfl ?_
        refine g_callV (n := 1) hk (k125_X10_byteAt l D zt q d I537 A537 x535 hV537) (SP.same _) (fun _ h => h) (gi_V (List.mem_cons_of_mem _ (List.mem_append_left _ (List.mem_of_getElem? (i := 4) rfl))) (List.mem_cons_of_mem _ (List.mem_append_left _ (List.mem_of_getElem? (i := 5) rfl))) (List.mem_cons_of_mem _ (List.mem_append_left _ (List.mem_of_getElem? (i := 6) rfl))) (List.mem_cons_of_mem _ (List.mem_append_left _ (List.mem_of_getElem? (i := 7) rfl))) (gi_sub (fun w h => (List.mem_cons_of_mem _ (List.mem_append_right _ (List.mem_append_right _ (List.mem_append_left _ h))))) zg_k125_X10_byteAt)) rfl rfl rfl (by decide +kernel) ⟨Nat.le_of_ble_eq_true rfl, Nat.le_of_ble_eq_true rfl⟩ 1 rfl rfl rfl rfl (Nat.le_of_ble_eq_true rfl) ⟨Nat.le_of_ble_eq_true rfl, Nat.le_of_ble_eq_true rfl⟩ dX10_takeDigits_15 (fun v ty' w' hp hk' => ?_)
        obtain ⟨y602, hC, rfl, rfl⟩ := hp
        replace hF := FE.lt hF (fe_s hC)
        show GW κ 2 0 0 (wX q d I537 A537) 18 [(1, .int x535), (0, .ref (q 1))] [.int y602]
        refine g_callS (n := 1) hk (k127_X10_isDigit l D zt q d I537 A537 y602 hV537) (SP.same _) (fun _ h => h) (gi_S (List.mem_cons_of_mem _ (List.mem_append_left _ (List.mem_of_getElem? (i := 8) rfl))) (List.mem_cons_of_mem _ (List.mem_append_left _ (List.mem_of_getElem? (i := 9) rfl))) (List.mem_cons_of_mem _ (List.mem_append_left _ (List.mem_of_getElem? (i := 7) rfl))) (gi_sub (fun w h => (List.mem_cons_of_mem _ (List.mem_append_right _ (List.mem_append_right _ (List.mem_append_right _ (List.mem_append_left _ h)))))) zg_k127_X10_isDigit)) rfl rfl rfl (by decide +kernel) ⟨Nat.le_of_ble_eq_true rfl, Nat.le_of_ble_eq_true rfl⟩ rfl rfl (Nat.le_of_ble_eq_true rfl) ⟨Nat.le_of_ble_eq_true rfl, Nat.le_of_ble_eq_true rfl⟩ dX10_takeDigits_18 (fun v ty' w' hp hk' => ?_)
        rcases hp with ⟨hC, rfl, rfl⟩ | ⟨c604, c605, c606, c607, hC, rfl, rfl⟩
        · skip
          replace hF := FE.pos hF hC
          show GW κ 2 0 0 (wX q d I537 A537) 21 [(1, .int x535), (0, .ref (q 1))] [.int 0]
          refine g_if_eq (tgt := 50) (a := 0) hk dX10_takeDigits_21 (by decide) rfl (fun _ => ?_) (fun z9 => absurd (show (0 : Int) = (0 : Int) from by decide) z9)
          refine g_aload_n hk dX10_takeDigits_50 rfl ?_
          refine g_iload_n hk dX10_takeDigits_51 rfl ?_
          refine pX_i5 hk hin10 (List.mem_cons_of_mem _ (List.mem_append_left _ (List.mem_of_getElem? (i := 2) rfl))) dX10_takeDigits_52 ?_
          refine g_aload_n hk dX10_takeDigits_55 rfl ?_
          refine g_aload_n hk dX10_takeDigits_56 rfl ?_
          refine gX_i5 (v := x535) hk hin10 (List.mem_cons_of_mem _ (List.mem_append_left _ (List.mem_of_getElem? (i := 2) rfl))) dX10_takeDigits_57 rfl ?_
          refine g_aload_n hk dX10_takeDigits_60 rfl ?_
          refine gX_i2 (v := (I 2)) hk hin10 (List.mem_cons_of_mem _ (List.mem_append_left _ (List.mem_of_getElem? (i := 0) rfl))) dX10_takeDigits_61 (hI537 2 rfl) ?_
          have b609l := Int32.le_toInt (I 2)
          have b609h := Int32.toInt_lt (I 2)
          refine g_isub hk dX10_takeDigits_64 ?_
          refine g_topi (fun y610 ey610 => ?_)
          replace hF := FE.lt hF ey610
          have hy610 := i32_sub0 ey610
          refine g_iconst (v := 4) hk dX10_takeDigits_65 (by decide) ?_
          have b611l := Int32.le_toInt y610
          have b611h := Int32.toInt_lt y610
          refine g_icmp_gt (tgt := 73) (a := y610.toInt) (b := 4) hk dX10_takeDigits_66 (by decide) rfl rfl (fun c612 => ?_) (fun c612 => ?_)
          · skip
            replace hF := FE.pos hF c612
            refine g_iconst (v := 5) hk dX10_takeDigits_73 (by decide) ?_
            refine pX_i1 hk hin10 (List.mem_cons_of_mem _ (List.mem_append_left _ (List.mem_of_getElem? (i := 3) rfl))) dX10_takeDigits_74 ?_
            exact g_vret hk hR ⟨(upd (upd I537 5 x535) 1 5), A537, (show Md [1, 3, 5] I (upd (upd I537 5 x535) 1 5) from (Md.up (Md.up (Md.tr Md.rf hI537 rfl) rfl) rfl)), (show Md [] A A537 from (Md.tr Md.rf hA537 rfl)), ⟨(IvX_f0 (I := I537) (A := A537) hV537), (IvX_f18 (I := I537) (A := A537) hV537), (IvX_f30 (I := I537) (A := A537) hV537), (IvX_f31 (I := I537) (A := A537) hV537), (IvX_a4 (I := I537) (A := A537) hV537), (IvX_a9 (I := I537) (A := A537) hV537), trivial⟩, hF, rfl, rfl⟩ dX10_takeDigits_77
          · skip
            replace hF := FE.neg hF c612
            refine g_iconst (v := 2) hk dX10_takeDigits_69 (by decide) ?_
            refine g_goto (tgt := 74) hk dX10_takeDigits_70 (by decide) ?_
            refine pX_i1 hk hin10 (List.mem_cons_of_mem _ (List.mem_append_left _ (List.mem_of_getElem? (i := 3) rfl))) dX10_takeDigits_74 ?_
            exact g_vret hk hR ⟨(upd (upd I537 5 x535) 1 2), A537, (show Md [1, 3, 5] I (upd (upd I537 5 x535) 1 2) from (Md.up (Md.up (Md.tr Md.rf hI537 rfl) rfl) rfl)), (show Md [] A A537 from (Md.tr Md.rf hA537 rfl)), ⟨(IvX_f0 (I := I537) (A := A537) hV537), (IvX_f18 (I := I537) (A := A537) hV537), (IvX_f30 (I := I537) (A := A537) hV537), (IvX_f31 (I := I537) (A := A537) hV537), (IvX_a4 (I := I537) (A := A537) hV537), (IvX_a9 (I := I537) (A := A537) hV537), trivial⟩, hF, rfl, rfl⟩ dX10_takeDigits_77
        · skip
          replace hF := FE.neg hF (fe_ne hC (by decide))
          show GW κ 2 0 0 (wX q d I537 A537) 21 [(1, .int x535), (0, .ref (q 1))] [.int 1]
          refine g_if_eq (tgt := 50) (a := 1) hk dX10_takeDigits_21 (by decide) rfl (fun z9 => absurd z9 (show ¬ ((1 : Int) = (0 : Int)) from by decide)) (fun _ => ?_)
          refine g_aload_n hk dX10_takeDigits_24 rfl ?_
          refine g_aload_n hk dX10_takeDigits_25 rfl ?_
          refine gX_i3 (v := (I537 3)) hk hin10 (List.mem_cons_of_mem _ (List.mem_append_left _ (List.mem_of_getElem? (i := 10) rfl))) dX10_takeDigits_26 rfl ?_
          refine g_bipush (v := 10) hk dX10_takeDigits_29 (by decide) ?_
          have b613l := Int32.le_toInt (I537 3)
          have b613h := Int32.toInt_lt (I537 3)
          refine g_imul hk dX10_takeDigits_31 ?_
          refine g_topi (fun y614 ey614 => ?_)
          replace hF := FE.lt hF ey614
          refine g_aload_n hk dX10_takeDigits_32 rfl ?_
          refine g_iload_n hk dX10_takeDigits_33 rfl ?_
          refine g_callV (n := 1) hk (k125_X10_byteAt l D zt q d I537 A537 x535 hV537) (SP.same _) (fun _ h => h) (gi_V (List.mem_cons_of_mem _ (List.mem_append_left _ (List.mem_of_getElem? (i := 4) rfl))) (List.mem_cons_of_mem _ (List.mem_append_left _ (List.mem_of_getElem? (i := 5) rfl))) (List.mem_cons_of_mem _ (List.mem_append_left _ (List.mem_of_getElem? (i := 6) rfl))) (List.mem_cons_of_mem _ (List.mem_append_left _ (List.mem_of_getElem? (i := 7) rfl))) (gi_sub (fun w h => (List.mem_cons_of_mem _ (List.mem_append_right _ (List.mem_append_right _ (List.mem_append_left _ h))))) zg_k125_X10_byteAt)) rfl rfl rfl (by decide +kernel) ⟨Nat.le_of_ble_eq_true rfl, Nat.le_of_ble_eq_true rfl⟩ 1 rfl rfl rfl rfl (Nat.le_of_ble_eq_true rfl) ⟨Nat.le_of_ble_eq_true rfl, Nat.le_of_ble_eq_true rfl⟩ dX10_takeDigits_34 (fun v ty' w' hp hk' => ?_)
          obtain ⟨y615, hC, rfl, rfl⟩ := hp
          replace hF := FE.lt hF (fe_s hC)
          show GW κ 2 0 0 (wX q d I537 A537) 37 [(1, .int x535), (0, .ref (q 1))] [.int y615, .int y614, .ref (q 1)]
          have b616l := Int32.le_toInt y614
          have b616h := Int32.toInt_lt y614
          have b617l := Int32.le_toInt y615
          have b617h := Int32.toInt_lt y615
          refine g_iadd hk dX10_takeDigits_37 ?_
          refine g_topi (fun y618 ey618 => ?_)
          replace hF := FE.lt hF ey618
          refine g_bipush (v := 48) hk dX10_takeDigits_38 (by decide) ?_
          have b619l := Int32.le_toInt y618
          have b619h := Int32.toInt_lt y618
          refine g_isub hk dX10_takeDigits_40 ?_
          refine g_topi (fun y620 ey620 => ?_)
          replace hF := FE.lt hF ey620
          have hy620 := i32_sub0 ey620
          refine pX_i3 hk hin10 (List.mem_cons_of_mem _ (List.mem_append_left _ (List.mem_of_getElem? (i := 10) rfl))) dX10_takeDigits_41 ?_
          obtain ⟨y621, ey621⟩ : ∃ y : Int32, y = x535 + Int32.ofInt 1 := ⟨_, rfl⟩
          replace hF := FE.lt hF ey621
          have hy621 : y621.toInt = x535.toInt + 1 := i32_add ey621 rfl (by decide) (by omega) (by omega)
          refine g_iinc (v := y621) (lv' := [(1, .int y621), (0, .ref (q 1))]) hk 0 dX10_takeDigits_44 rfl ey621.symm (by decide) rfl ?_
          refine g_goto (tgt := 5) hk dX10_takeDigits_47 (by decide) ?_
          exact g_lv (List.forall_mem_cons.mpr ⟨List.mem_of_getElem? (i := 0) rfl, (List.forall_mem_cons.mpr ⟨List.mem_of_getElem? (i := 1) rfl, (fun _ h => absurd h List.not_mem_nil)⟩)⟩) (ih594 y621 (upd I537 3 y620) A537 (show Md [3] I (upd I537 3 y620) from Md.tr hI537 (show Md [3] I537 (upd I537 3 y620) from (Md.up Md.rf rfl)) rfl) (show Md [] A A537 from Md.tr hA537 (show Md [] A537 A537 from Md.rf) rfl) ⟨(IvX_f0 (I := I537) (A := A537) hV537), (IvX_f18 (I := I537) (A := A537) hV537), (IvX_f30 (I := I537) (A := A537) hV537), (IvX_f31 (I := I537) (A := A537) hV537), (IvX_a4 (I := I537) (A := A537) hV537), (IvX_a9 (I := I537) (A := A537) hV537), trivial⟩ (by omega) (by omega) hF)
  have b623l := Int32.le_toInt (I 2)
  have b623h := Int32.toInt_lt (I 2)
  have b624 := Int32.le_toInt (I 2)
  have b625 := Int32.toInt_lt (I 2)
  have n622a : 2001 - (I 2).toInt < (FU : Int) := by have := FU_eq; omega
  have n622b : 0 < FU := by have := FU_eq; omega
  exact lp590 FU (I 2) I A Md.rf Md.rf hIv n622a n622b hF
noncomputable def bX10_takeLetters_5 (I : Nat → Int32) (A : Nat → Nat → Int32) : (Int32 → (Int32 × (Nat → Int32) × (Nat → Nat → Int32))) → Int32 → (Int32 × (Nat → Int32) × (Nat → Nat → Int32)) := fun kk670 x628 => if (I 0).toInt ≤ x628.toInt then f_lt (x628 - (I 2)) fun y676 => if 8 < y676.toInt then (0, (upd (upd I 5 x628) 1 5), A) else (0, (upd (upd I 5 x628) 1 1), A) else f_lt (fX10_byteAt I A x628) fun y679 => if fX10_isLetter I A y679 = 0 then f_lt (x628 - (I 2)) fun y687 => if 8 < y687.toInt then (0, (upd (upd I 5 x628) 1 5), A) else (0, (upd (upd I 5 x628) 1 1), A) else f_lt (x628 + Int32.ofInt 1) fun y690 => kk670 y690
noncomputable def fX10_takeLetters (I : Nat → Int32) (A : Nat → Nat → Int32) : Int32 × (Nat → Int32) × (Nat → Nat → Int32) := itr_i dfX (bX10_takeLetters_5 I A) FU (I 2)
def wo_k129_X10_takeLetters : List Cond := [Cond.fieldLink RX10 32 "WarpDesk$Tape" "start" "I", Cond.fieldLink RX10 15 "WarpDesk$Tape" "size" "I", Cond.fieldLink RX10 19 "WarpDesk$Tape" "behind" "I", Cond.fieldLink RX10 41 "WarpDesk$Tape" "kind" "I", Cond.methodLink RX10 38 yX10_byteAt, Cond.instanceMethod yX10_byteAt, Cond.selects RX10 yX10_byteAt yX10_byteAt, Cond.initialized RX10, Cond.methodLink RX10 44 yX10_isLetter, Cond.static yX10_isLetter]
def wz_k129_X10_takeLetters : List Cond := .code yX10_takeLetters cX10_takeLetters 2 none :: (wo_k129_X10_takeLetters ++ (wsX100 ++ (wz_k125_X10_byteAt ++ (wz_k126_X10_isLetter ++ ([] : List Cond)))))
theorem zg_k129_X10_takeLetters : ∀ w ∈ wz_k129_X10_takeLetters, goodWord w = true := zg_cons rfl (zg_app (by decide +kernel) (zg_app zgU_wsX100 (zg_app zg_k125_X10_byteAt (zg_app zg_k126_X10_isLetter zg_nil))))
theorem zi_k129_X10_takeLetters : ∀ w ∈ wz_k129_X10_takeLetters, w ∈ lw_tbl := zi_cons zw_576 (zi_app (zi_cons zw_140 (zi_cons zw_137 (zi_cons zw_146 (zi_cons zw_139 (zi_cons zw_566 (zi_cons zw_568 (zi_cons zw_2 (zi_cons zw_104 (zi_cons zw_570 (zi_cons zw_571 zi_nil)))))))))) (zi_app inX10 (zi_app zi_k125_X10_byteAt (zi_app zi_k126_X10_isLetter zi_nil))))
set_option maxHeartbeats 4000000 in
set_option maxRecDepth 100000 in
theorem k129_X10_takeLetters (l : Launch) (D : va_G) (zt : Nat × Nat × Nat × (Nat → Nat) × (Nat → Nat)) (q : Nat → Nat) (d : Nat → ClassId) (I : Nat → Int32) (A : Nat → Nat → Int32) (hIv : IvX I A) : GM l D zt (tyX d) yX10_takeLetters wz_k129_X10_takeLetters ({ frames := 1, cells := 0, slots := 0, locals := 21 } : Room) [.ref (q 1)] (wX q d I A) (fun v _ w' => ∃ (I' : Nat → Int32) (A' : Nat → Nat → Int32), Md [1, 5] I I' ∧ Md [] A A' ∧ IvX I' A' ∧ FE (fX10_takeLetters I A) (0, I', A') ∧ v = none ∧ w' = wX q d I' A') 0 0 := by
  refine GM.of (cc := cX10_takeLetters) (maxL := 2) (ret := none) (own := RX10) (lv := [(0, .ref (q 1))]) (by decide) rfl rfl (Nat.le_of_ble_eq_true rfl) rfl (fun κ sz hk hR hN => ?_)
  have hin10 : ∀ w ∈ u_ws RX10 TX10 7, w ∈ wz_k129_X10_takeLetters := fun w h => (List.mem_cons_of_mem _ (List.mem_append_right _ (List.mem_append_left _ h)))
  have hF : FE (fX10_takeLetters I A) (fX10_takeLetters I A) := FE.rf
  refine g_aload_n hk dX10_takeLetters_0 rfl ?_
  refine gX_i2 (v := (I 2)) hk hin10 (List.mem_cons_of_mem _ (List.mem_append_left _ (List.mem_of_getElem? (i := 0) rfl))) dX10_takeLetters_1 rfl ?_
  refine g_istore_n (lv' := [(1, .int (I 2)), (0, .ref (q 1))]) hk dX10_takeLetters_4 (by decide) rfl ?_
  have lp667 : ∀ (n668 : Nat) (x628 : Int32), (2001 - x628.toInt < (n668 : Int)) → (0 < n668) → (FE (fX10_takeLetters I A) (itr_i dfX (bX10_takeLetters_5 I A) n668 x628)) → GW κ 2 0 0 (wX q d I A) 5 [(1, .int x628), (0, .ref (q 1))] [] := by
    intro n668
    induction n668 with
    | zero =>
      intro x628 m669 m669z hF
      exact absurd m669z (Nat.lt_irrefl 0)
    | succ n668 ih671 =>
      intro x628 m669 m669z hF
      replace hF := FE.itr_i hF
      refine g_iload_n hk dX10_takeLetters_5 rfl ?_
      refine g_aload_n hk dX10_takeLetters_6 rfl ?_
      refine gX_i0 (v := (I 0)) hk hin10 (List.mem_cons_of_mem _ (List.mem_append_left _ (List.mem_of_getElem? (i := 1) rfl))) dX10_takeLetters_7 rfl ?_
      have f672 := IvX_f0 hIv
      have b673l := Int32.le_toInt x628
      have b673h := Int32.toInt_lt x628
      refine g_icmp_ge (tgt := 30) (a := x628.toInt) (b := (I 0).toInt) hk dX10_takeLetters_10 (by decide) rfl rfl (fun c674 => ?_) (fun c674 => ?_)
      · skip
        replace hF := FE.pos hF c674
        refine g_aload_n hk dX10_takeLetters_30 rfl ?_
        refine g_iload_n hk dX10_takeLetters_31 rfl ?_
        refine pX_i5 hk hin10 (List.mem_cons_of_mem _ (List.mem_append_left _ (List.mem_of_getElem? (i := 2) rfl))) dX10_takeLetters_32 ?_
        refine g_aload_n hk dX10_takeLetters_35 rfl ?_
        refine g_aload_n hk dX10_takeLetters_36 rfl ?_
        refine gX_i5 (v := x628) hk hin10 (List.mem_cons_of_mem _ (List.mem_append_left _ (List.mem_of_getElem? (i := 2) rfl))) dX10_takeLetters_37 rfl ?_
        refine g_aload_n hk dX10_takeLetters_40 rfl ?_
        refine gX_i2 (v := (I 2)) hk hin10 (List.mem_cons_of_mem _ (List.mem_append_left _ (List.mem_of_getElem? (i := 0) rfl))) dX10_takeLetters_41 rfl ?_
        have b675l := Int32.le_toInt (I 2)
        have b675h := Int32.toInt_lt (I 2)
        refine g_isub hk dX10_takeLetters_44 ?_
        refine g_topi (fun y676 ey676 => ?_)
        replace hF := FE.lt hF ey676
        have hy676 := i32_sub0 ey676
        refine g_bipush (v := 8) hk dX10_takeLetters_45 (by decide) ?_
        have b677l := Int32.le_toInt y676
        have b677h := Int32.toInt_lt y676
        refine g_icmp_gt (tgt := 54) (a := y676.toInt) (b := 8) hk dX10_takeLetters_47 (by decide) rfl rfl (fun c678 => ?_) (fun c678 => ?_)
        · skip
          replace hF := FE.pos hF c678
          refine g_iconst (v := 5) hk dX10_takeLetters_54 (by decide) ?_
          refine pX_i1 hk hin10 (List.mem_cons_of_mem _ (List.mem_append_left _ (List.mem_of_getElem? (i := 3) rfl))) dX10_takeLetters_55 ?_
          exact g_vret hk hR ⟨(upd (upd I 5 x628) 1 5), A, (show Md [1, 5] I (upd (upd I 5 x628) 1 5) from (Md.up (Md.up Md.rf rfl) rfl)), (show Md [] A A from Md.rf), ⟨(IvX_f0 (I := I) (A := A) hIv), (IvX_f18 (I := I) (A := A) hIv), (IvX_f30 (I := I) (A := A) hIv), (IvX_f31 (I := I) (A := A) hIv), (IvX_a4 (I := I) (A := A) hIv), (IvX_a9 (I := I) (A := A) hIv), trivial⟩, hF, rfl, rfl⟩ dX10_takeLetters_58
        · skip
          replace hF := FE.neg hF c678
          refine g_iconst (v := 1) hk dX10_takeLetters_50 (by decide) ?_
          refine g_goto (tgt := 55) hk dX10_takeLetters_51 (by decide) ?_
          refine pX_i1 hk hin10 (List.mem_cons_of_mem _ (List.mem_append_left _ (List.mem_of_getElem? (i := 3) rfl))) dX10_takeLetters_55 ?_
          exact g_vret hk hR ⟨(upd (upd I 5 x628) 1 1), A, (show Md [1, 5] I (upd (upd I 5 x628) 1 1) from (Md.up (Md.up Md.rf rfl) rfl)), (show Md [] A A from Md.rf), ⟨(IvX_f0 (I := I) (A := A) hIv), (IvX_f18 (I := I) (A := A) hIv), (IvX_f30 (I := I) (A := A) hIv), (IvX_f31 (I := I) (A := A) hIv), (IvX_a4 (I := I) (A := A) hIv), (IvX_a9 (I := I) (A := A) hIv), trivial⟩, hF, rfl, rfl⟩ dX10_takeLetters_58
      · skip
        replace hF := FE.neg hF c674
        refine g_aload_n hk dX10_takeLetters_13 rfl ?_
        refine g_iload_n hk dX10_takeLetters_14 rfl ?_
        refine g_callV (n := 1) hk (k125_X10_byteAt l D zt q d I A x628 hIv) (SP.same _) (fun _ h => h) (gi_V (List.mem_cons_of_mem _ (List.mem_append_left _ (List.mem_of_getElem? (i := 4) rfl))) (List.mem_cons_of_mem _ (List.mem_append_left _ (List.mem_of_getElem? (i := 5) rfl))) (List.mem_cons_of_mem _ (List.mem_append_left _ (List.mem_of_getElem? (i := 6) rfl))) (List.mem_cons_of_mem _ (List.mem_append_left _ (List.mem_of_getElem? (i := 7) rfl))) (gi_sub (fun w h => (List.mem_cons_of_mem _ (List.mem_append_right _ (List.mem_append_right _ (List.mem_append_left _ h))))) zg_k125_X10_byteAt)) rfl rfl rfl (by decide +kernel) ⟨Nat.le_of_ble_eq_true rfl, Nat.le_of_ble_eq_true rfl⟩ 1 rfl rfl rfl rfl (Nat.le_of_ble_eq_true rfl) ⟨Nat.le_of_ble_eq_true rfl, Nat.le_of_ble_eq_true rfl⟩ dX10_takeLetters_15 (fun v ty' w' hp hk' => ?_)
        obtain ⟨y679, hC, rfl, rfl⟩ := hp
        replace hF := FE.lt hF (fe_s hC)
        show GW κ 2 0 0 (wX q d I A) 18 [(1, .int x628), (0, .ref (q 1))] [.int y679]
        refine g_callS (n := 1) hk (k126_X10_isLetter l D zt q d I A y679 hIv) (SP.same _) (fun _ h => h) (gi_S (List.mem_cons_of_mem _ (List.mem_append_left _ (List.mem_of_getElem? (i := 8) rfl))) (List.mem_cons_of_mem _ (List.mem_append_left _ (List.mem_of_getElem? (i := 9) rfl))) (List.mem_cons_of_mem _ (List.mem_append_left _ (List.mem_of_getElem? (i := 7) rfl))) (gi_sub (fun w h => (List.mem_cons_of_mem _ (List.mem_append_right _ (List.mem_append_right _ (List.mem_append_right _ (List.mem_append_left _ h)))))) zg_k126_X10_isLetter)) rfl rfl rfl (by decide +kernel) ⟨Nat.le_of_ble_eq_true rfl, Nat.le_of_ble_eq_true rfl⟩ rfl rfl (Nat.le_of_ble_eq_true rfl) ⟨Nat.le_of_ble_eq_true rfl, Nat.le_of_ble_eq_true rfl⟩ dX10_takeLetters_18 (fun v ty' w' hp hk' => ?_)
        rcases hp with ⟨hC, rfl, rfl⟩ | ⟨c681, c682, c683, c684, hC, rfl, rfl⟩
        · skip
          replace hF := FE.pos hF hC
          show GW κ 2 0 0 (wX q d I A) 21 [(1, .int x628), (0, .ref (q 1))] [.int 0]
          refine g_if_eq (tgt := 30) (a := 0) hk dX10_takeLetters_21 (by decide) rfl (fun _ => ?_) (fun z9 => absurd (show (0 : Int) = (0 : Int) from by decide) z9)
          refine g_aload_n hk dX10_takeLetters_30 rfl ?_
          refine g_iload_n hk dX10_takeLetters_31 rfl ?_
          refine pX_i5 hk hin10 (List.mem_cons_of_mem _ (List.mem_append_left _ (List.mem_of_getElem? (i := 2) rfl))) dX10_takeLetters_32 ?_
          refine g_aload_n hk dX10_takeLetters_35 rfl ?_
          refine g_aload_n hk dX10_takeLetters_36 rfl ?_
          refine gX_i5 (v := x628) hk hin10 (List.mem_cons_of_mem _ (List.mem_append_left _ (List.mem_of_getElem? (i := 2) rfl))) dX10_takeLetters_37 rfl ?_
          refine g_aload_n hk dX10_takeLetters_40 rfl ?_
          refine gX_i2 (v := (I 2)) hk hin10 (List.mem_cons_of_mem _ (List.mem_append_left _ (List.mem_of_getElem? (i := 0) rfl))) dX10_takeLetters_41 rfl ?_
          have b686l := Int32.le_toInt (I 2)
          have b686h := Int32.toInt_lt (I 2)
          refine g_isub hk dX10_takeLetters_44 ?_
          refine g_topi (fun y687 ey687 => ?_)
          replace hF := FE.lt hF ey687
          have hy687 := i32_sub0 ey687
          refine g_bipush (v := 8) hk dX10_takeLetters_45 (by decide) ?_
          have b688l := Int32.le_toInt y687
          have b688h := Int32.toInt_lt y687
          refine g_icmp_gt (tgt := 54) (a := y687.toInt) (b := 8) hk dX10_takeLetters_47 (by decide) rfl rfl (fun c689 => ?_) (fun c689 => ?_)
          · skip
            replace hF := FE.pos hF c689
            refine g_iconst (v := 5) hk dX10_takeLetters_54 (by decide) ?_
            refine pX_i1 hk hin10 (List.mem_cons_of_mem _ (List.mem_append_left _ (List.mem_of_getElem? (i := 3) rfl))) dX10_takeLetters_55 ?_
            exact g_vret hk hR ⟨(upd (upd I 5 x628) 1 5), A, (show Md [1, 5] I (upd (upd I 5 x628) 1 5) from (Md.up (Md.up Md.rf rfl) rfl)), (show Md [] A A from Md.rf), ⟨(IvX_f0 (I := I) (A := A) hIv), (IvX_f18 (I := I) (A := A) hIv), (IvX_f30 (I := I) (A := A) hIv), (IvX_f31 (I := I) (A := A) hIv), (IvX_a4 (I := I) (A := A) hIv), (IvX_a9 (I := I) (A := A) hIv), trivial⟩, hF, rfl, rfl⟩ dX10_takeLetters_58
          · skip
            replace hF := FE.neg hF c689
            refine g_iconst (v := 1) hk dX10_takeLetters_50 (by decide) ?_
            refine g_goto (tgt := 55) hk dX10_takeLetters_51 (by decide) ?_
            refine pX_i1 hk hin10 (List.mem_cons_of_mem _ (List.mem_append_left _ (List.mem_of_getElem? (i := 3) rfl))) dX10_takeLetters_55 ?_
            exact g_vret hk hR ⟨(upd (upd I 5 x628) 1 1), A, (show Md [1, 5] I (upd (upd I 5 x628) 1 1) from (Md.up (Md.up Md.rf rfl) rfl)), (show Md [] A A from Md.rf), ⟨(IvX_f0 (I := I) (A := A) hIv), (IvX_f18 (I := I) (A := A) hIv), (IvX_f30 (I := I) (A := A) hIv), (IvX_f31 (I := I) (A := A) hIv), (IvX_a4 (I := I) (A := A) hIv), (IvX_a9 (I := I) (A := A) hIv), trivial⟩, hF, rfl, rfl⟩ dX10_takeLetters_58
        · skip
          replace hF := FE.neg hF (fe_ne hC (by decide))
          show GW κ 2 0 0 (wX q d I A) 21 [(1, .int x628), (0, .ref (q 1))] [.int 1]
          refine g_if_eq (tgt := 30) (a := 1) hk dX10_takeLetters_21 (by decide) rfl (fun z9 => absurd z9 (show ¬ ((1 : Int) = (0 : Int)) from by decide)) (fun _ => ?_)
          obtain ⟨y690, ey690⟩ : ∃ y : Int32, y = x628 + Int32.ofInt 1 := ⟨_, rfl⟩
          replace hF := FE.lt hF ey690
          have hy690 : y690.toInt = x628.toInt + 1 := i32_add ey690 rfl (by decide) (by omega) (by omega)
          refine g_iinc (v := y690) (lv' := [(1, .int y690), (0, .ref (q 1))]) hk 0 dX10_takeLetters_24 rfl ey690.symm (by decide) rfl ?_
          refine g_goto (tgt := 5) hk dX10_takeLetters_27 (by decide) ?_
          exact g_lv (List.forall_mem_cons.mpr ⟨List.mem_of_getElem? (i := 0) rfl, (List.forall_mem_cons.mpr ⟨List.mem_of_getElem? (i := 1) rfl, (fun _ h => absurd h List.not_mem_nil)⟩)⟩) (ih671 y690 (by omega) (by omega) hF)
  have b692l := Int32.le_toInt (I 2)
  have b692h := Int32.toInt_lt (I 2)
  have b693 := Int32.le_toInt (I 2)
  have b694 := Int32.toInt_lt (I 2)
  have n691a : 2001 - (I 2).toInt < (FU : Int) := by have := FU_eq; omega
  have n691b : 0 < FU := by have := FU_eq; omega
  exact lp667 FU (I 2) n691a n691b hF
noncomputable def fX10_toNextToken (I : Nat → Int32) (A : Nat → Nat → Int32) : Int32 × (Nat → Int32) × (Nat → Nat → Int32) := f_lt (fX10_behindBlanks I A (I 5)) fun y506 => f_lt ((I 4) + (1 : Int32)) fun y509 => f_lt (fX10_byteAt (upd (upd (upd I 2 y506) 4 y509) 3 0) A y506) fun y510 => if 0 ≤ y510.toInt then if fX10_isLetter (upd (upd (upd I 2 y506) 4 y509) 3 0) A y510 = 0 then if fX10_isDigit (upd (upd (upd I 2 y506) 4 y509) 3 0) A y510 = 0 then f_lt (y506 + (1 : Int32)) fun y532 => if y510.toInt ≠ 59 then if y510.toInt ≠ 45 then (0, (upd (upd (upd (upd (upd I 2 y506) 4 y509) 3 0) 5 y532) 1 5), A) else (0, (upd (upd (upd (upd (upd I 2 y506) 4 y509) 3 0) 5 y532) 1 4), A) else (0, (upd (upd (upd (upd (upd I 2 y506) 4 y509) 3 0) 5 y532) 1 3), A) else f_bdX (fX10_takeDigits (upd (upd (upd I 2 y506) 4 y509) 3 0) A) fun _ I627 A627 => (0, I627, A627) else f_bdX (fX10_takeLetters (upd (upd (upd I 2 y506) 4 y509) 3 0) A) fun _ I696 A696 => (0, I696, A696) else (0, (upd (upd (upd (upd (upd I 2 y506) 4 y509) 3 0) 1 0) 5 y506), A)
def wo_k123_X10_toNextToken : List Cond := [Cond.fieldLink RX10 19 "WarpDesk$Tape" "behind" "I", Cond.methodLink RX10 28 yX10_behindBlanks, Cond.instanceMethod yX10_behindBlanks, Cond.selects RX10 yX10_behindBlanks yX10_behindBlanks, Cond.initialized RX10, Cond.fieldLink RX10 32 "WarpDesk$Tape" "start" "I", Cond.fieldLink RX10 22 "WarpDesk$Tape" "number" "I", Cond.fieldLink RX10 35 "WarpDesk$Tape" "value" "I", Cond.methodLink RX10 38 yX10_byteAt, Cond.instanceMethod yX10_byteAt, Cond.selects RX10 yX10_byteAt yX10_byteAt, Cond.methodLink RX10 44 yX10_isLetter, Cond.static yX10_isLetter, Cond.methodLink RX10 51 yX10_isDigit, Cond.static yX10_isDigit, Cond.fieldLink RX10 41 "WarpDesk$Tape" "kind" "I", Cond.methodLink RX10 54 yX10_takeDigits, Cond.instanceMethod yX10_takeDigits, Cond.selects RX10 yX10_takeDigits yX10_takeDigits, Cond.methodLink RX10 48 yX10_takeLetters, Cond.instanceMethod yX10_takeLetters, Cond.selects RX10 yX10_takeLetters yX10_takeLetters]
def wz_k123_X10_toNextToken : List Cond := .code yX10_toNextToken cX10_toNextToken 2 none :: (wo_k123_X10_toNextToken ++ (wsX100 ++ (wz_k124_X10_behindBlanks ++ (wz_k125_X10_byteAt ++ (wz_k126_X10_isLetter ++ (wz_k127_X10_isDigit ++ (wz_k128_X10_takeDigits ++ (wz_k129_X10_takeLetters ++ ([] : List Cond)))))))))
theorem zg_k123_X10_toNextToken : ∀ w ∈ wz_k123_X10_toNextToken, goodWord w = true := zg_cons rfl (zg_app (by decide +kernel) (zg_app zgU_wsX100 (zg_app zg_k124_X10_behindBlanks (zg_app zg_k125_X10_byteAt (zg_app zg_k126_X10_isLetter (zg_app zg_k127_X10_isDigit (zg_app zg_k128_X10_takeDigits (zg_app zg_k129_X10_takeLetters zg_nil))))))))
theorem zi_k123_X10_toNextToken : ∀ w ∈ wz_k123_X10_toNextToken, w ∈ lw_tbl := zi_cons zw_561 (zi_app (zi_cons zw_146 (zi_cons zw_562 (zi_cons zw_564 (zi_cons zw_1 (zi_cons zw_104 (zi_cons zw_140 (zi_cons zw_144 (zi_cons zw_142 (zi_cons zw_566 (zi_cons zw_568 (zi_cons zw_2 (zi_cons zw_570 (zi_cons zw_571 (zi_cons zw_577 (zi_cons zw_578 (zi_cons zw_139 (zi_cons zw_580 (zi_cons zw_582 (zi_cons zw_4 (zi_cons zw_573 (zi_cons zw_575 (zi_cons zw_3 zi_nil)))))))))))))))))))))) (zi_app inX10 (zi_app zi_k124_X10_behindBlanks (zi_app zi_k125_X10_byteAt (zi_app zi_k126_X10_isLetter (zi_app zi_k127_X10_isDigit (zi_app zi_k128_X10_takeDigits (zi_app zi_k129_X10_takeLetters zi_nil))))))))
set_option maxHeartbeats 4000000 in
set_option maxRecDepth 100000 in
theorem k123_X10_toNextToken (l : Launch) (D : va_G) (zt : Nat × Nat × Nat × (Nat → Nat) × (Nat → Nat)) (q : Nat → Nat) (d : Nat → ClassId) (I : Nat → Int32) (A : Nat → Nat → Int32) (hIv : IvX I A) : GM l D zt (tyX d) yX10_toNextToken wz_k123_X10_toNextToken ({ frames := 2, cells := 0, slots := 0, locals := 44 } : Room) [.ref (q 1)] (wX q d I A) (fun v _ w' => ∃ (I' : Nat → Int32) (A' : Nat → Nat → Int32), Md [1, 2, 3, 4, 5] I I' ∧ Md [] A A' ∧ IvX I' A' ∧ FE (fX10_toNextToken I A) (0, I', A') ∧ v = none ∧ w' = wX q d I' A') 0 0 := by
  refine GM.of (cc := cX10_toNextToken) (maxL := 2) (ret := none) (own := RX10) (lv := [(0, .ref (q 1))]) (by decide) rfl rfl (Nat.le_of_ble_eq_true rfl) rfl (fun κ sz hk hR hN => ?_)
  have hin10 : ∀ w ∈ u_ws RX10 TX10 7, w ∈ wz_k123_X10_toNextToken := fun w h => (List.mem_cons_of_mem _ (List.mem_append_right _ (List.mem_append_left _ h)))
  have hF : FE (fX10_toNextToken I A) (fX10_toNextToken I A) := FE.rf
  refine g_aload_n hk dX10_toNextToken_0 rfl ?_
  refine g_aload_n hk dX10_toNextToken_1 rfl ?_
  refine g_aload_n hk dX10_toNextToken_2 rfl ?_
  refine gX_i5 (v := (I 5)) hk hin10 (List.mem_cons_of_mem _ (List.mem_append_left _ (List.mem_of_getElem? (i := 0) rfl))) dX10_toNextToken_3 rfl ?_
  refine g_callV (n := 1) hk (k124_X10_behindBlanks l D zt q d I A (I 5) hIv) (SP.same _) (fun _ h => h) (gi_V (List.mem_cons_of_mem _ (List.mem_append_left _ (List.mem_of_getElem? (i := 1) rfl))) (List.mem_cons_of_mem _ (List.mem_append_left _ (List.mem_of_getElem? (i := 2) rfl))) (List.mem_cons_of_mem _ (List.mem_append_left _ (List.mem_of_getElem? (i := 3) rfl))) (List.mem_cons_of_mem _ (List.mem_append_left _ (List.mem_of_getElem? (i := 4) rfl))) (gi_sub (fun w h => (List.mem_cons_of_mem _ (List.mem_append_right _ (List.mem_append_right _ (List.mem_append_left _ h))))) zg_k124_X10_behindBlanks)) rfl rfl rfl (by decide +kernel) ⟨Nat.le_of_ble_eq_true rfl, Nat.le_of_ble_eq_true rfl⟩ 1 rfl rfl rfl rfl (Nat.le_of_ble_eq_true rfl) ⟨Nat.le_of_ble_eq_true rfl, Nat.le_of_ble_eq_true rfl⟩ dX10_toNextToken_6 (fun v ty' w' hp hk' => ?_)
  obtain ⟨y506, c507, hC, rfl, rfl⟩ := hp
  replace hF := FE.lt hF (fe_s hC)
  show GW κ 2 0 0 (wX q d I A) 9 [(0, .ref (q 1))] [.int y506, .ref (q 1)]
  refine pX_i2 hk hin10 (List.mem_cons_of_mem _ (List.mem_append_left _ (List.mem_of_getElem? (i := 5) rfl))) dX10_toNextToken_9 ?_
  refine g_aload_n hk dX10_toNextToken_12 rfl ?_
  refine g_dup hk dX10_toNextToken_13 rfl ?_
  refine gX_i4 (v := (I 4)) hk hin10 (List.mem_cons_of_mem _ (List.mem_append_left _ (List.mem_of_getElem? (i := 6) rfl))) dX10_toNextToken_14 rfl ?_
  refine g_iconst (v := 1) hk dX10_toNextToken_17 (by decide) ?_
  have b508l := Int32.le_toInt (I 4)
  have b508h := Int32.toInt_lt (I 4)
  refine g_iadd hk dX10_toNextToken_18 ?_
  refine g_topi (fun y509 ey509 => ?_)
  replace hF := FE.lt hF ey509
  refine pX_i4 hk hin10 (List.mem_cons_of_mem _ (List.mem_append_left _ (List.mem_of_getElem? (i := 6) rfl))) dX10_toNextToken_19 ?_
  refine g_aload_n hk dX10_toNextToken_22 rfl ?_
  refine g_iconst (v := 0) hk dX10_toNextToken_23 (by decide) ?_
  refine pX_i3 hk hin10 (List.mem_cons_of_mem _ (List.mem_append_left _ (List.mem_of_getElem? (i := 7) rfl))) dX10_toNextToken_24 ?_
  refine g_aload_n hk dX10_toNextToken_27 rfl ?_
  refine g_aload_n hk dX10_toNextToken_28 rfl ?_
  refine gX_i2 (v := y506) hk hin10 (List.mem_cons_of_mem _ (List.mem_append_left _ (List.mem_of_getElem? (i := 5) rfl))) dX10_toNextToken_29 rfl ?_
  refine g_callV (n := 1) hk (k125_X10_byteAt l D zt q d (upd (upd (upd I 2 y506) 4 y509) 3 0) A y506 ⟨(IvX_f0 (I := I) (A := A) hIv), (IvX_f18 (I := I) (A := A) hIv), (IvX_f30 (I := I) (A := A) hIv), (IvX_f31 (I := I) (A := A) hIv), (IvX_a4 (I := I) (A := A) hIv), (IvX_a9 (I := I) (A := A) hIv), trivial⟩) (SP.same _) (fun _ h => h) (gi_V (List.mem_cons_of_mem _ (List.mem_append_left _ (List.mem_of_getElem? (i := 8) rfl))) (List.mem_cons_of_mem _ (List.mem_append_left _ (List.mem_of_getElem? (i := 9) rfl))) (List.mem_cons_of_mem _ (List.mem_append_left _ (List.mem_of_getElem? (i := 10) rfl))) (List.mem_cons_of_mem _ (List.mem_append_left _ (List.mem_of_getElem? (i := 4) rfl))) (gi_sub (fun w h => (List.mem_cons_of_mem _ (List.mem_append_right _ (List.mem_append_right _ (List.mem_append_right _ (List.mem_append_left _ h)))))) zg_k125_X10_byteAt)) rfl rfl rfl (by decide +kernel) ⟨Nat.le_of_ble_eq_true rfl, Nat.le_of_ble_eq_true rfl⟩ 1 rfl rfl rfl rfl (Nat.le_of_ble_eq_true rfl) ⟨Nat.le_of_ble_eq_true rfl, Nat.le_of_ble_eq_true rfl⟩ dX10_toNextToken_32 (fun v ty' w' hp hk' => ?_)
  obtain ⟨y510, hC, rfl, rfl⟩ := hp
  replace hF := FE.lt hF (fe_s hC)
  show GW κ 2 0 0 (wX q d (upd (upd (upd I 2 y506) 4 y509) 3 0) A) 35 [(0, .ref (q 1))] [.int y510]
  refine g_istore_n (lv' := [(1, .int y510), (0, .ref (q 1))]) hk dX10_toNextToken_35 (by decide) rfl ?_
  refine g_iload_n hk dX10_toNextToken_36 rfl ?_
  have b511l := Int32.le_toInt y510
  have b511h := Int32.toInt_lt y510
  refine g_if_ge (tgt := 56) (a := y510.toInt) hk dX10_toNextToken_37 (by decide) rfl (fun c512 => ?_) (fun c512 => ?_)
  · skip
    replace hF := FE.pos hF c512
    refine g_iload_n hk dX10_toNextToken_56 rfl ?_
    refine g_callS (n := 1) hk (k126_X10_isLetter l D zt q d (upd (upd (upd I 2 y506) 4 y509) 3 0) A y510 ⟨(IvX_f0 (I := I) (A := A) hIv), (IvX_f18 (I := I) (A := A) hIv), (IvX_f30 (I := I) (A := A) hIv), (IvX_f31 (I := I) (A := A) hIv), (IvX_a4 (I := I) (A := A) hIv), (IvX_a9 (I := I) (A := A) hIv), trivial⟩) (SP.same _) (fun _ h => h) (gi_S (List.mem_cons_of_mem _ (List.mem_append_left _ (List.mem_of_getElem? (i := 11) rfl))) (List.mem_cons_of_mem _ (List.mem_append_left _ (List.mem_of_getElem? (i := 12) rfl))) (List.mem_cons_of_mem _ (List.mem_append_left _ (List.mem_of_getElem? (i := 4) rfl))) (gi_sub (fun w h => (List.mem_cons_of_mem _ (List.mem_append_right _ (List.mem_append_right _ (List.mem_append_right _ (List.mem_append_right _ (List.mem_append_left _ h))))))) zg_k126_X10_isLetter)) rfl rfl rfl (by decide +kernel) ⟨Nat.le_of_ble_eq_true rfl, Nat.le_of_ble_eq_true rfl⟩ rfl rfl (Nat.le_of_ble_eq_true rfl) ⟨Nat.le_of_ble_eq_true rfl, Nat.le_of_ble_eq_true rfl⟩ dX10_toNextToken_57 (fun v ty' w' hp hk' => ?_)
    rcases hp with ⟨hC, rfl, rfl⟩ | ⟨c517, c518, c519, c520, hC, rfl, rfl⟩
    · skip
      replace hF := FE.pos hF hC
      show GW κ 2 0 0 (wX q d (upd (upd (upd I 2 y506) 4 y509) 3 0) A) 60 [(1, .int y510), (0, .ref (q 1))] [.int 0]
      refine g_if_eq (tgt := 70) (a := 0) hk dX10_toNextToken_60 (by decide) rfl (fun _ => ?_) (fun z9 => absurd (show (0 : Int) = (0 : Int) from by decide) z9)
      refine g_iload_n hk dX10_toNextToken_70 rfl ?_
      refine g_callS (n := 1) hk (k127_X10_isDigit l D zt q d (upd (upd (upd I 2 y506) 4 y509) 3 0) A y510 ⟨(IvX_f0 (I := I) (A := A) hIv), (IvX_f18 (I := I) (A := A) hIv), (IvX_f30 (I := I) (A := A) hIv), (IvX_f31 (I := I) (A := A) hIv), (IvX_a4 (I := I) (A := A) hIv), (IvX_a9 (I := I) (A := A) hIv), trivial⟩) (SP.same _) (fun _ h => h) (gi_S (List.mem_cons_of_mem _ (List.mem_append_left _ (List.mem_of_getElem? (i := 13) rfl))) (List.mem_cons_of_mem _ (List.mem_append_left _ (List.mem_of_getElem? (i := 14) rfl))) (List.mem_cons_of_mem _ (List.mem_append_left _ (List.mem_of_getElem? (i := 4) rfl))) (gi_sub (fun w h => (List.mem_cons_of_mem _ (List.mem_append_right _ (List.mem_append_right _ (List.mem_append_right _ (List.mem_append_right _ (List.mem_append_right _ (List.mem_append_left _ h)))))))) zg_k127_X10_isDigit)) rfl rfl rfl (by decide +kernel) ⟨Nat.le_of_ble_eq_true rfl, Nat.le_of_ble_eq_true rfl⟩ rfl rfl (Nat.le_of_ble_eq_true rfl) ⟨Nat.le_of_ble_eq_true rfl, Nat.le_of_ble_eq_true rfl⟩ dX10_toNextToken_71 (fun v ty' w' hp hk' => ?_)
      rcases hp with ⟨hC, rfl, rfl⟩ | ⟨c526, c527, c528, c529, hC, rfl, rfl⟩
      · skip
        replace hF := FE.pos hF hC
        show GW κ 2 0 0 (wX q d (upd (upd (upd I 2 y506) 4 y509) 3 0) A) 74 [(1, .int y510), (0, .ref (q 1))] [.int 0]
        refine g_if_eq (tgt := 84) (a := 0) hk dX10_toNextToken_74 (by decide) rfl (fun _ => ?_) (fun z9 => absurd (show (0 : Int) = (0 : Int) from by decide) z9)
        refine g_aload_n hk dX10_toNextToken_84 rfl ?_
        refine g_aload_n hk dX10_toNextToken_85 rfl ?_
        refine gX_i2 (v := y506) hk hin10 (List.mem_cons_of_mem _ (List.mem_append_left _ (List.mem_of_getElem? (i := 5) rfl))) dX10_toNextToken_86 rfl ?_
        refine g_iconst (v := 1) hk dX10_toNextToken_89 (by decide) ?_
        have b531l := Int32.le_toInt y506
        have b531h := Int32.toInt_lt y506
        refine g_iadd hk dX10_toNextToken_90 ?_
        refine g_topi (fun y532 ey532 => ?_)
        replace hF := FE.lt hF ey532
        have hy532 : y532.toInt = y506.toInt + 1 := i32_add ey532 rfl rfl (by omega) (by omega)
        refine pX_i5 hk hin10 (List.mem_cons_of_mem _ (List.mem_append_left _ (List.mem_of_getElem? (i := 0) rfl))) dX10_toNextToken_91 ?_
        refine g_aload_n hk dX10_toNextToken_94 rfl ?_
        refine g_iload_n hk dX10_toNextToken_95 rfl ?_
        refine g_bipush (v := 59) hk dX10_toNextToken_96 (by decide) ?_
        refine g_icmp_ne (tgt := 105) (a := y510.toInt) (b := 59) hk dX10_toNextToken_98 (by decide) rfl rfl (fun c533 => ?_) (fun c533 => ?_)
        · skip
          replace hF := FE.pos hF c533
          refine g_iload_n hk dX10_toNextToken_105 rfl ?_
          refine g_bipush (v := 45) hk dX10_toNextToken_106 (by decide) ?_
          refine g_icmp_ne (tgt := 115) (a := y510.toInt) (b := 45) hk dX10_toNextToken_108 (by decide) rfl rfl (fun c534 => ?_) (fun c534 => ?_)
          · skip
            replace hF := FE.pos hF c534
            refine g_iconst (v := 5) hk dX10_toNextToken_115 (by decide) ?_
            refine pX_i1 hk hin10 (List.mem_cons_of_mem _ (List.mem_append_left _ (List.mem_of_getElem? (i := 15) rfl))) dX10_toNextToken_116 ?_
            exact g_vret hk hR ⟨(upd (upd (upd (upd (upd I 2 y506) 4 y509) 3 0) 5 y532) 1 5), A, (show Md [1, 2, 3, 4, 5] I (upd (upd (upd (upd (upd I 2 y506) 4 y509) 3 0) 5 y532) 1 5) from (Md.up (Md.up (Md.up (Md.up (Md.up Md.rf rfl) rfl) rfl) rfl) rfl)), (show Md [] A A from Md.rf), ⟨(IvX_f0 (I := I) (A := A) hIv), (IvX_f18 (I := I) (A := A) hIv), (IvX_f30 (I := I) (A := A) hIv), (IvX_f31 (I := I) (A := A) hIv), (IvX_a4 (I := I) (A := A) hIv), (IvX_a9 (I := I) (A := A) hIv), trivial⟩, hF, rfl, rfl⟩ dX10_toNextToken_119
          · skip
            replace hF := FE.neg hF c534
            refine g_iconst (v := 4) hk dX10_toNextToken_111 (by decide) ?_
            refine g_goto (tgt := 116) hk dX10_toNextToken_112 (by decide) ?_
            refine pX_i1 hk hin10 (List.mem_cons_of_mem _ (List.mem_append_left _ (List.mem_of_getElem? (i := 15) rfl))) dX10_toNextToken_116 ?_
            exact g_vret hk hR ⟨(upd (upd (upd (upd (upd I 2 y506) 4 y509) 3 0) 5 y532) 1 4), A, (show Md [1, 2, 3, 4, 5] I (upd (upd (upd (upd (upd I 2 y506) 4 y509) 3 0) 5 y532) 1 4) from (Md.up (Md.up (Md.up (Md.up (Md.up Md.rf rfl) rfl) rfl) rfl) rfl)), (show Md [] A A from Md.rf), ⟨(IvX_f0 (I := I) (A := A) hIv), (IvX_f18 (I := I) (A := A) hIv), (IvX_f30 (I := I) (A := A) hIv), (IvX_f31 (I := I) (A := A) hIv), (IvX_a4 (I := I) (A := A) hIv), (IvX_a9 (I := I) (A := A) hIv), trivial⟩, hF, rfl, rfl⟩ dX10_toNextToken_119
        · skip
          replace hF := FE.neg hF c533
          refine g_iconst (v := 3) hk dX10_toNextToken_101 (by decide) ?_
          refine g_goto (tgt := 116) hk dX10_toNextToken_102 (by decide) ?_
          refine pX_i1 hk hin10 (List.mem_cons_of_mem _ (List.mem_append_left _ (List.mem_of_getElem? (i := 15) rfl))) dX10_toNextToken_116 ?_
          exact g_vret hk hR ⟨(upd (upd (upd (upd (upd I 2 y506) 4 y509) 3 0) 5 y532) 1 3), A, (show Md [1, 2, 3, 4, 5] I (upd (upd (upd (upd (upd I 2 y506) 4 y509) 3 0) 5 y532) 1 3) from (Md.up (Md.up (Md.up (Md.up (Md.up Md.rf rfl) rfl) rfl) rfl) rfl)), (show Md [] A A from Md.rf), ⟨(IvX_f0 (I := I) (A := A) hIv), (IvX_f18 (I := I) (A := A) hIv), (IvX_f30 (I := I) (A := A) hIv), (IvX_f31 (I := I) (A := A) hIv), (IvX_a4 (I := I) (A := A) hIv), (IvX_a9 (I := I) (A := A) hIv), trivial⟩, hF, rfl, rfl⟩ dX10_toNextToken_119
      · skip
        replace hF := FE.neg hF (fe_ne hC (by decide))
        show GW κ 2 0 0 (wX q d (upd (upd (upd I 2 y506) 4 y509) 3 0) A) 74 [(1, .int y510), (0, .ref (q 1))] [.int 1]
        refine g_if_eq (tgt := 84) (a := 1) hk dX10_toNextToken_74 (by decide) rfl (fun z9 => absurd z9 (show ¬ ((1 : Int) = (0 : Int)) from by decide)) (fun _ => ?_)
        refine g_aload_n hk dX10_toNextToken_77 rfl ?_
        refine g_callV (n := 0) hk (k128_X10_takeDigits l D zt q d (upd (upd (upd I 2 y506) 4 y509) 3 0) A  ⟨(IvX_f0 (I := I) (A := A) hIv), (IvX_f18 (I := I) (A := A) hIv), (IvX_f30 (I := I) (A := A) hIv), (IvX_f31 (I := I) (A := A) hIv), (IvX_a4 (I := I) (A := A) hIv), (IvX_a9 (I := I) (A := A) hIv), trivial⟩) (SP.same _) (fun _ h => h) (gi_V (List.mem_cons_of_mem _ (List.mem_append_left _ (List.mem_of_getElem? (i := 16) rfl))) (List.mem_cons_of_mem _ (List.mem_append_left _ (List.mem_of_getElem? (i := 17) rfl))) (List.mem_cons_of_mem _ (List.mem_append_left _ (List.mem_of_getElem? (i := 18) rfl))) (List.mem_cons_of_mem _ (List.mem_append_left _ (List.mem_of_getElem? (i := 4) rfl))) (gi_sub (fun w h => (List.mem_cons_of_mem _ (List.mem_append_right _ (List.mem_append_right _ (List.mem_append_right _ (List.mem_append_right _ (List.mem_append_right _ (List.mem_append_right _ (List.mem_append_left _ h))))))))) zg_k128_X10_takeDigits)) rfl rfl rfl (by decide +kernel) ⟨Nat.le_of_ble_eq_true rfl, Nat.le_of_ble_eq_true rfl⟩ 1 rfl rfl rfl rfl (Nat.le_of_ble_eq_true rfl) ⟨Nat.le_of_ble_eq_true rfl, Nat.le_of_ble_eq_true rfl⟩ dX10_toNextToken_78 (fun v ty' w' hp hk' => ?_)
        obtain ⟨I627, A627, hI627, hA627, hV627, hC, rfl, rfl⟩ := hp
        replace hF := FE.bdX hF hC
        show GW κ 2 0 0 (wX q d I627 A627) 81 [(1, .int y510), (0, .ref (q 1))] []
        refine g_goto (tgt := 119) hk dX10_toNextToken_81 (by decide) ?_
        exact g_vret hk hR ⟨I627, A627, (show Md [1, 2, 3, 4, 5] I I627 from (Md.tr (Md.up (Md.up (Md.up Md.rf rfl) rfl) rfl) hI627 rfl)), (show Md [] A A627 from (Md.tr Md.rf hA627 rfl)), hV627, hF, rfl, rfl⟩ dX10_toNextToken_119
    · skip
      replace hF := FE.neg hF (fe_ne hC (by decide))
      show GW κ 2 0 0 (wX q d (upd (upd (upd I 2 y506) 4 y509) 3 0) A) 60 [(1, .int y510), (0, .ref (q 1))] [.int 1]
      refine g_if_eq (tgt := 70) (a := 1) hk dX10_toNextToken_60 (by decide) rfl (fun z9 => absurd z9 (show ¬ ((1 : Int) = (0 : Int)) from by decide)) (fun _ => ?_)
      refine g_aload_n hk dX10_toNextToken_63 rfl ?_
      refine g_callV (n := 0) hk (k129_X10_takeLetters l D zt q d (upd (upd (upd I 2 y506) 4 y509) 3 0) A  ⟨(IvX_f0 (I := I) (A := A) hIv), (IvX_f18 (I := I) (A := A) hIv), (IvX_f30 (I := I) (A := A) hIv), (IvX_f31 (I := I) (A := A) hIv), (IvX_a4 (I := I) (A := A) hIv), (IvX_a9 (I := I) (A := A) hIv), trivial⟩) (SP.same _) (fun _ h => h) (gi_V (List.mem_cons_of_mem _ (List.mem_append_left _ (List.mem_of_getElem? (i := 19) rfl))) (List.mem_cons_of_mem _ (List.mem_append_left _ (List.mem_of_getElem? (i := 20) rfl))) (List.mem_cons_of_mem _ (List.mem_append_left _ (List.mem_of_getElem? (i := 21) rfl))) (List.mem_cons_of_mem _ (List.mem_append_left _ (List.mem_of_getElem? (i := 4) rfl))) (gi_sub (fun w h => (List.mem_cons_of_mem _ (List.mem_append_right _ (List.mem_append_right _ (List.mem_append_right _ (List.mem_append_right _ (List.mem_append_right _ (List.mem_append_right _ (List.mem_append_right _ (List.mem_append_left _ h)))))))))) zg_k129_X10_takeLetters)) rfl rfl rfl (by decide +kernel) ⟨Nat.le_of_ble_eq_true rfl, Nat.le_of_ble_eq_true rfl⟩ 1 rfl rfl rfl rfl (Nat.le_of_ble_eq_true rfl) ⟨Nat.le_of_ble_eq_true rfl, Nat.le_of_ble_eq_true rfl⟩ dX10_toNextToken_64 (fun v ty' w' hp hk' => ?_)
      obtain ⟨I696, A696, hI696, hA696, hV696, hC, rfl, rfl⟩ := hp
      replace hF := FE.bdX hF hC
      show GW κ 2 0 0 (wX q d I696 A696) 67 [(1, .int y510), (0, .ref (q 1))] []
      refine g_goto (tgt := 119) hk dX10_toNextToken_67 (by decide) ?_
      exact g_vret hk hR ⟨I696, A696, (show Md [1, 2, 3, 4, 5] I I696 from (Md.tr (Md.up (Md.up (Md.up Md.rf rfl) rfl) rfl) hI696 rfl)), (show Md [] A A696 from (Md.tr Md.rf hA696 rfl)), hV696, hF, rfl, rfl⟩ dX10_toNextToken_119
  · skip
    replace hF := FE.neg hF c512
    refine g_aload_n hk dX10_toNextToken_40 rfl ?_
    refine g_iconst (v := 0) hk dX10_toNextToken_41 (by decide) ?_
    refine pX_i1 hk hin10 (List.mem_cons_of_mem _ (List.mem_append_left _ (List.mem_of_getElem? (i := 15) rfl))) dX10_toNextToken_42 ?_
    refine g_aload_n hk dX10_toNextToken_45 rfl ?_
    refine g_aload_n hk dX10_toNextToken_46 rfl ?_
    refine gX_i2 (v := y506) hk hin10 (List.mem_cons_of_mem _ (List.mem_append_left _ (List.mem_of_getElem? (i := 5) rfl))) dX10_toNextToken_47 rfl ?_
    refine pX_i5 hk hin10 (List.mem_cons_of_mem _ (List.mem_append_left _ (List.mem_of_getElem? (i := 0) rfl))) dX10_toNextToken_50 ?_
    refine g_goto (tgt := 119) hk dX10_toNextToken_53 (by decide) ?_
    exact g_vret hk hR ⟨(upd (upd (upd (upd (upd I 2 y506) 4 y509) 3 0) 1 0) 5 y506), A, (show Md [1, 2, 3, 4, 5] I (upd (upd (upd (upd (upd I 2 y506) 4 y509) 3 0) 1 0) 5 y506) from (Md.up (Md.up (Md.up (Md.up (Md.up Md.rf rfl) rfl) rfl) rfl) rfl)), (show Md [] A A from Md.rf), ⟨(IvX_f0 (I := I) (A := A) hIv), (IvX_f18 (I := I) (A := A) hIv), (IvX_f30 (I := I) (A := A) hIv), (IvX_f31 (I := I) (A := A) hIv), (IvX_a4 (I := I) (A := A) hIv), (IvX_a9 (I := I) (A := A) hIv), trivial⟩, hF, rfl, rfl⟩ dX10_toNextToken_119
noncomputable def fX10_toFirstToken (I : Nat → Int32) (A : Nat → Nat → Int32) : Int32 × (Nat → Int32) × (Nat → Nat → Int32) := f_bdX (fX10_toNextToken (upd (upd I 5 0) 4 0) A) fun _ I698 A698 => (0, I698, A698)
def wo_k122_X10_toFirstToken : List Cond := [Cond.fieldLink RX10 19 "WarpDesk$Tape" "behind" "I", Cond.fieldLink RX10 22 "WarpDesk$Tape" "number" "I", Cond.methodLink RX10 25 yX10_toNextToken, Cond.instanceMethod yX10_toNextToken, Cond.selects RX10 yX10_toNextToken yX10_toNextToken, Cond.initialized RX10]
def wz_k122_X10_toFirstToken : List Cond := .code yX10_toFirstToken cX10_toFirstToken 1 none :: (wo_k122_X10_toFirstToken ++ (wsX100 ++ (wz_k123_X10_toNextToken ++ ([] : List Cond))))
theorem zg_k122_X10_toFirstToken : ∀ w ∈ wz_k122_X10_toFirstToken, goodWord w = true := zg_cons rfl (zg_app (by decide +kernel) (zg_app zgU_wsX100 (zg_app zg_k123_X10_toNextToken zg_nil)))
theorem zi_k122_X10_toFirstToken : ∀ w ∈ wz_k122_X10_toFirstToken, w ∈ lw_tbl := zi_cons zw_557 (zi_app (zi_cons zw_146 (zi_cons zw_144 (zi_cons zw_558 (zi_cons zw_559 (zi_cons zw_560 (zi_cons zw_104 zi_nil)))))) (zi_app inX10 (zi_app zi_k123_X10_toNextToken zi_nil)))
set_option maxHeartbeats 4000000 in
set_option maxRecDepth 100000 in
theorem k122_X10_toFirstToken (l : Launch) (D : va_G) (zt : Nat × Nat × Nat × (Nat → Nat) × (Nat → Nat)) (q : Nat → Nat) (d : Nat → ClassId) (I : Nat → Int32) (A : Nat → Nat → Int32) (hIv : IvX I A) : GM l D zt (tyX d) yX10_toFirstToken wz_k122_X10_toFirstToken ({ frames := 3, cells := 0, slots := 0, locals := 65 } : Room) [.ref (q 1)] (wX q d I A) (fun v _ w' => ∃ (I' : Nat → Int32) (A' : Nat → Nat → Int32), Md [1, 2, 3, 4, 5] I I' ∧ Md [] A A' ∧ IvX I' A' ∧ FE (fX10_toFirstToken I A) (0, I', A') ∧ v = none ∧ w' = wX q d I' A') 0 0 := by
  refine GM.of (cc := cX10_toFirstToken) (maxL := 1) (ret := none) (own := RX10) (lv := [(0, .ref (q 1))]) (by decide) rfl rfl (Nat.le_of_ble_eq_true rfl) rfl (fun κ sz hk hR hN => ?_)
  have hin10 : ∀ w ∈ u_ws RX10 TX10 7, w ∈ wz_k122_X10_toFirstToken := fun w h => (List.mem_cons_of_mem _ (List.mem_append_right _ (List.mem_append_left _ h)))
  have hF : FE (fX10_toFirstToken I A) (fX10_toFirstToken I A) := FE.rf
  refine g_aload_n hk dX10_toFirstToken_0 rfl ?_
  refine g_iconst (v := 0) hk dX10_toFirstToken_1 (by decide) ?_
  refine pX_i5 hk hin10 (List.mem_cons_of_mem _ (List.mem_append_left _ (List.mem_of_getElem? (i := 0) rfl))) dX10_toFirstToken_2 ?_
  refine g_aload_n hk dX10_toFirstToken_5 rfl ?_
  refine g_iconst (v := 0) hk dX10_toFirstToken_6 (by decide) ?_
  refine pX_i4 hk hin10 (List.mem_cons_of_mem _ (List.mem_append_left _ (List.mem_of_getElem? (i := 1) rfl))) dX10_toFirstToken_7 ?_
  refine g_aload_n hk dX10_toFirstToken_10 rfl ?_
  refine g_callV (n := 0) hk (k123_X10_toNextToken l D zt q d (upd (upd I 5 0) 4 0) A  ⟨(IvX_f0 (I := I) (A := A) hIv), (IvX_f18 (I := I) (A := A) hIv), (IvX_f30 (I := I) (A := A) hIv), (IvX_f31 (I := I) (A := A) hIv), (IvX_a4 (I := I) (A := A) hIv), (IvX_a9 (I := I) (A := A) hIv), trivial⟩) (SP.same _) (fun _ h => h) (gi_V (List.mem_cons_of_mem _ (List.mem_append_left _ (List.mem_of_getElem? (i := 2) rfl))) (List.mem_cons_of_mem _ (List.mem_append_left _ (List.mem_of_getElem? (i := 3) rfl))) (List.mem_cons_of_mem _ (List.mem_append_left _ (List.mem_of_getElem? (i := 4) rfl))) (List.mem_cons_of_mem _ (List.mem_append_left _ (List.mem_of_getElem? (i := 5) rfl))) (gi_sub (fun w h => (List.mem_cons_of_mem _ (List.mem_append_right _ (List.mem_append_right _ (List.mem_append_left _ h))))) zg_k123_X10_toNextToken)) rfl rfl rfl (by decide +kernel) ⟨Nat.le_of_ble_eq_true rfl, Nat.le_of_ble_eq_true rfl⟩ 1 rfl rfl rfl rfl (Nat.le_of_ble_eq_true rfl) ⟨Nat.le_of_ble_eq_true rfl, Nat.le_of_ble_eq_true rfl⟩ dX10_toFirstToken_11 (fun v ty' w' hp hk' => ?_)
  obtain ⟨I698, A698, hI698, hA698, hV698, hC, rfl, rfl⟩ := hp
  replace hF := FE.bdX hF hC
  show GW κ 1 0 0 (wX q d I698 A698) 14 [(0, .ref (q 1))] []
  exact g_vret hk hR ⟨I698, A698, (show Md [1, 2, 3, 4, 5] I I698 from (Md.tr (Md.up (Md.up Md.rf rfl) rfl) hI698 rfl)), (show Md [] A A698 from (Md.tr Md.rf hA698 rfl)), hV698, hF, rfl, rfl⟩ dX10_toFirstToken_14
noncomputable def fX5_begin (I : Nat → Int32) (A : Nat → Nat → Int32) : Int32 × (Nat → Int32) × (Nat → Nat → Int32) := f_bdX (fX8_clear I A) fun _ I448 A448 => f_bdX (fX10_toFirstToken (upd (upd (upd (upd (upd (upd (upd (upd I448 16 0) 6 0) 8 0) 9 (-2)) 10 0) 11 0) 12 (-1)) 13 (-1)) A448) fun _ I700 A700 => (0, I700, A700)
def wo_k118_X5_begin : List Cond := [Cond.fieldLink RX5 12 "WarpDesk$Reader" "draft" "LWarpDesk$Stand;", Cond.methodLink RX5 81 yX8_clear, Cond.instanceMethod yX8_clear, Cond.selects RX8 yX8_clear yX8_clear, Cond.initialized RX8, Cond.fieldLink RX5 21 "WarpDesk$Reader" "queries" "LWarpDesk$Queries;", Cond.fieldLink RX5 84 "WarpDesk$Queries" "size" "I", Cond.fieldLink RX5 75 "WarpDesk$Reader" "state" "I", Cond.fieldLink RX5 87 "WarpDesk$Reader" "isNegative" "Z", Cond.fieldLink RX5 32 "WarpDesk$Reader" "told" "I", Cond.fieldLink RX5 49 "WarpDesk$Reader" "isStopped" "Z", Cond.fieldLink RX5 78 "WarpDesk$Reader" "fault" "I", Cond.fieldLink RX5 36 "WarpDesk$Reader" "faultPlace" "I", Cond.fieldLink RX5 39 "WarpDesk$Reader" "faultCause" "I", Cond.fieldLink RX5 42 "WarpDesk$Reader" "tape" "LWarpDesk$Tape;", Cond.methodLink RX5 90 yX10_toFirstToken, Cond.instanceMethod yX10_toFirstToken, Cond.selects RX10 yX10_toFirstToken yX10_toFirstToken, Cond.initialized RX10]
def wz_k118_X5_begin : List Cond := .code yX5_begin cX5_begin 1 none :: (wo_k118_X5_begin ++ (wsX40 ++ (wsX50 ++ (wz_k119_X8_clear ++ (wz_k122_X10_toFirstToken ++ ([] : List Cond))))))
theorem zg_k118_X5_begin : ∀ w ∈ wz_k118_X5_begin, goodWord w = true := zg_cons rfl (zg_app (by decide +kernel) (zg_app zgU_wsX40 (zg_app zgU_wsX50 (zg_app zg_k119_X8_clear (zg_app zg_k122_X10_toFirstToken zg_nil)))))
theorem zi_k118_X5_begin : ∀ w ∈ wz_k118_X5_begin, w ∈ lw_tbl := zi_cons zw_541 (zi_app (zi_cons zw_231 (zi_cons zw_542 (zi_cons zw_543 (zi_cons zw_544 (zi_cons zw_106 (zi_cons zw_233 (zi_cons zw_220 (zi_cons zw_237 (zi_cons zw_239 (zi_cons zw_240 (zi_cons zw_241 (zi_cons zw_242 (zi_cons zw_243 (zi_cons zw_245 (zi_cons zw_230 (zi_cons zw_554 (zi_cons zw_555 (zi_cons zw_556 (zi_cons zw_104 zi_nil))))))))))))))))))) (zi_app inX4 (zi_app inX5 (zi_app zi_k119_X8_clear (zi_app zi_k122_X10_toFirstToken zi_nil)))))
set_option maxHeartbeats 4000000 in
set_option maxRecDepth 100000 in
theorem k118_X5_begin (l : Launch) (D : va_G) (zt : Nat × Nat × Nat × (Nat → Nat) × (Nat → Nat)) (q : Nat → Nat) (d : Nat → ClassId) (I : Nat → Int32) (A : Nat → Nat → Int32) (hIv : IvX I A) : GM l D zt (tyX d) yX5_begin wz_k118_X5_begin ({ frames := 4, cells := 0, slots := 0, locals := 85 } : Room) [.ref (q 3)] (wX q d I A) (fun v _ w' => ∃ (I' : Nat → Int32) (A' : Nat → Nat → Int32), Md [1, 2, 3, 4, 5, 6, 8, 9, 10, 11, 12, 13, 14, 16] I I' ∧ Md [2] A A' ∧ IvX I' A' ∧ FE (fX5_begin I A) (0, I', A') ∧ v = none ∧ w' = wX q d I' A') 0 0 := by
  refine GM.of (cc := cX5_begin) (maxL := 1) (ret := none) (own := RX5) (lv := [(0, .ref (q 3))]) (by decide) rfl rfl (Nat.le_of_ble_eq_true rfl) rfl (fun κ sz hk hR hN => ?_)
  have hin4 : ∀ w ∈ u_ws RX4 TX4 3, w ∈ wz_k118_X5_begin := fun w h => (List.mem_cons_of_mem _ (List.mem_append_right _ (List.mem_append_left _ h)))
  have hin5 : ∀ w ∈ u_ws RX5 TX5 13, w ∈ wz_k118_X5_begin := fun w h => (List.mem_cons_of_mem _ (List.mem_append_right _ (List.mem_append_right _ (List.mem_append_left _ h))))
  have hF : FE (fX5_begin I A) (fX5_begin I A) := FE.rf
  refine g_aload_n hk dX5_begin_0 rfl ?_
  refine gX_r3_1 hk hin5 (List.mem_cons_of_mem _ (List.mem_append_left _ (List.mem_of_getElem? (i := 0) rfl))) dX5_begin_1 ?_
  refine g_callV (n := 0) hk (k119_X8_clear l D zt q d I A  hIv) (SP.same _) (fun _ h => h) (gi_V (List.mem_cons_of_mem _ (List.mem_append_left _ (List.mem_of_getElem? (i := 1) rfl))) (List.mem_cons_of_mem _ (List.mem_append_left _ (List.mem_of_getElem? (i := 2) rfl))) (List.mem_cons_of_mem _ (List.mem_append_left _ (List.mem_of_getElem? (i := 3) rfl))) (List.mem_cons_of_mem _ (List.mem_append_left _ (List.mem_of_getElem? (i := 4) rfl))) (gi_sub (fun w h => (List.mem_cons_of_mem _ (List.mem_append_right _ (List.mem_append_right _ (List.mem_append_right _ (List.mem_append_left _ h)))))) zg_k119_X8_clear)) rfl rfl rfl (by decide +kernel) ⟨Nat.le_of_ble_eq_true rfl, Nat.le_of_ble_eq_true rfl⟩ 4 rfl rfl rfl rfl (Nat.le_of_ble_eq_true rfl) ⟨Nat.le_of_ble_eq_true rfl, Nat.le_of_ble_eq_true rfl⟩ dX5_begin_4 (fun v ty' w' hp hk' => ?_)
  obtain ⟨I448, A448, hI448, hA448, hV448, hC, rfl, rfl⟩ := hp
  replace hF := FE.bdX hF hC
  show GW κ 1 0 0 (wX q d I448 A448) 7 [(0, .ref (q 3))] []
  refine g_aload_n hk dX5_begin_7 rfl ?_
  refine gX_r3_2 hk hin5 (List.mem_cons_of_mem _ (List.mem_append_left _ (List.mem_of_getElem? (i := 5) rfl))) dX5_begin_8 ?_
  refine g_iconst (v := 0) hk dX5_begin_11 (by decide) ?_
  refine pX_i16 hk hin4 (List.mem_cons_of_mem _ (List.mem_append_left _ (List.mem_of_getElem? (i := 6) rfl))) dX5_begin_12 ?_
  refine g_aload_n hk dX5_begin_15 rfl ?_
  refine g_iconst (v := 0) hk dX5_begin_16 (by decide) ?_
  refine pX_i6 hk hin5 (List.mem_cons_of_mem _ (List.mem_append_left _ (List.mem_of_getElem? (i := 7) rfl))) dX5_begin_17 ?_
  refine g_aload_n hk dX5_begin_20 rfl ?_
  refine g_iconst (v := 0) hk dX5_begin_21 (by decide) ?_
  refine pX_i8 hk hin5 (List.mem_cons_of_mem _ (List.mem_append_left _ (List.mem_of_getElem? (i := 8) rfl))) ⟨rfl, rfl⟩ dX5_begin_22 ?_
  refine g_aload_n hk dX5_begin_25 rfl ?_
  refine g_bipush (v := (-2)) hk dX5_begin_26 (by decide) ?_
  refine pX_i9 hk hin5 (List.mem_cons_of_mem _ (List.mem_append_left _ (List.mem_of_getElem? (i := 9) rfl))) dX5_begin_28 ?_
  refine g_aload_n hk dX5_begin_31 rfl ?_
  refine g_iconst (v := 0) hk dX5_begin_32 (by decide) ?_
  refine pX_i10 hk hin5 (List.mem_cons_of_mem _ (List.mem_append_left _ (List.mem_of_getElem? (i := 10) rfl))) ⟨rfl, rfl⟩ dX5_begin_33 ?_
  refine g_aload_n hk dX5_begin_36 rfl ?_
  refine g_iconst (v := 0) hk dX5_begin_37 (by decide) ?_
  refine pX_i11 hk hin5 (List.mem_cons_of_mem _ (List.mem_append_left _ (List.mem_of_getElem? (i := 11) rfl))) dX5_begin_38 ?_
  refine g_aload_n hk dX5_begin_41 rfl ?_
  refine g_iconst (v := (-1)) hk dX5_begin_42 (by decide) ?_
  refine pX_i12 hk hin5 (List.mem_cons_of_mem _ (List.mem_append_left _ (List.mem_of_getElem? (i := 12) rfl))) dX5_begin_43 ?_
  refine g_aload_n hk dX5_begin_46 rfl ?_
  refine g_iconst (v := (-1)) hk dX5_begin_47 (by decide) ?_
  refine pX_i13 hk hin5 (List.mem_cons_of_mem _ (List.mem_append_left _ (List.mem_of_getElem? (i := 13) rfl))) dX5_begin_48 ?_
  refine g_aload_n hk dX5_begin_51 rfl ?_
  refine gX_r3_0 hk hin5 (List.mem_cons_of_mem _ (List.mem_append_left _ (List.mem_of_getElem? (i := 14) rfl))) dX5_begin_52 ?_
  refine g_callV (n := 0) hk (k122_X10_toFirstToken l D zt q d (upd (upd (upd (upd (upd (upd (upd (upd I448 16 0) 6 0) 8 0) 9 (-2)) 10 0) 11 0) 12 (-1)) 13 (-1)) A448  ⟨(IvX_f0 (I := I448) (A := A448) hV448), (IvX_f18 (I := I448) (A := A448) hV448), (IvX_f30 (I := I448) (A := A448) hV448), (IvX_f31 (I := I448) (A := A448) hV448), (IvX_a4 (I := I448) (A := A448) hV448), (IvX_a9 (I := I448) (A := A448) hV448), trivial⟩) (SP.same _) (fun _ h => h) (gi_V (List.mem_cons_of_mem _ (List.mem_append_left _ (List.mem_of_getElem? (i := 15) rfl))) (List.mem_cons_of_mem _ (List.mem_append_left _ (List.mem_of_getElem? (i := 16) rfl))) (List.mem_cons_of_mem _ (List.mem_append_left _ (List.mem_of_getElem? (i := 17) rfl))) (List.mem_cons_of_mem _ (List.mem_append_left _ (List.mem_of_getElem? (i := 18) rfl))) (gi_sub (fun w h => (List.mem_cons_of_mem _ (List.mem_append_right _ (List.mem_append_right _ (List.mem_append_right _ (List.mem_append_right _ (List.mem_append_left _ h))))))) zg_k122_X10_toFirstToken)) rfl rfl rfl (by decide +kernel) ⟨Nat.le_of_ble_eq_true rfl, Nat.le_of_ble_eq_true rfl⟩ 1 rfl rfl rfl rfl (Nat.le_of_ble_eq_true rfl) ⟨Nat.le_of_ble_eq_true rfl, Nat.le_of_ble_eq_true rfl⟩ dX5_begin_55 (fun v ty' w' hp hk' => ?_)
  obtain ⟨I700, A700, hI700, hA700, hV700, hC, rfl, rfl⟩ := hp
  replace hF := FE.bdX hF hC
  show GW κ 1 0 0 (wX q d I700 A700) 58 [(0, .ref (q 3))] []
  exact g_vret hk hR ⟨I700, A700, (show Md [1, 2, 3, 4, 5, 6, 8, 9, 10, 11, 12, 13, 14, 16] I I700 from (Md.tr (Md.up (Md.up (Md.up (Md.up (Md.up (Md.up (Md.up (Md.up (Md.tr Md.rf hI448 rfl) rfl) rfl) rfl) rfl) rfl) rfl) rfl) rfl) hI700 rfl)), (show Md [2] A A700 from (Md.tr (Md.tr Md.rf hA448 rfl) hA700 rfl)), hV700, hF, rfl, rfl⟩ dX5_begin_58
noncomputable def fX5_keepFault (I : Nat → Int32) (A : Nat → Nat → Int32) (z1 : Int32) : Int32 × (Nat → Int32) × (Nat → Nat → Int32) := (0, (upd (upd (upd I 11 z1) 12 (I 2)) 13 (I 9)), A)
def wo_k131_X5_keepFault : List Cond := [Cond.fieldLink RX5 78 "WarpDesk$Reader" "fault" "I", Cond.fieldLink RX5 42 "WarpDesk$Reader" "tape" "LWarpDesk$Tape;", Cond.fieldLink RX5 96 "WarpDesk$Tape" "start" "I", Cond.fieldLink RX5 36 "WarpDesk$Reader" "faultPlace" "I", Cond.fieldLink RX5 32 "WarpDesk$Reader" "told" "I", Cond.fieldLink RX5 39 "WarpDesk$Reader" "faultCause" "I"]
def wz_k131_X5_keepFault : List Cond := .code yX5_keepFault cX5_keepFault 2 none :: (wo_k131_X5_keepFault ++ (wsX50 ++ (wsX100 ++ ([] : List Cond))))
theorem zg_k131_X5_keepFault : ∀ w ∈ wz_k131_X5_keepFault, goodWord w = true := zg_cons rfl (zg_app (by decide +kernel) (zg_app zgU_wsX50 (zg_app zgU_wsX100 zg_nil)))
theorem zi_k131_X5_keepFault : ∀ w ∈ wz_k131_X5_keepFault, w ∈ lw_tbl := zi_cons zw_688 (zi_app (zi_cons zw_242 (zi_cons zw_230 (zi_cons zw_141 (zi_cons zw_243 (zi_cons zw_240 (zi_cons zw_245 zi_nil)))))) (zi_app inX5 (zi_app inX10 zi_nil)))
set_option maxHeartbeats 4000000 in
set_option maxRecDepth 100000 in
theorem k131_X5_keepFault (l : Launch) (D : va_G) (zt : Nat × Nat × Nat × (Nat → Nat) × (Nat → Nat)) (q : Nat → Nat) (d : Nat → ClassId) (I : Nat → Int32) (A : Nat → Nat → Int32) (z1 : Int32) (hIv : IvX I A) : GM l D zt (tyX d) yX5_keepFault wz_k131_X5_keepFault ({ frames := 0, cells := 0, slots := 0, locals := 0 } : Room) [.ref (q 3), .int z1] (wX q d I A) (fun v _ w' => ∃ (I' : Nat → Int32) (A' : Nat → Nat → Int32), Md [11, 12, 13] I I' ∧ Md [] A A' ∧ IvX I' A' ∧ FE (fX5_keepFault I A z1) (0, I', A') ∧ v = none ∧ w' = wX q d I' A') 0 0 := by
  refine GM.of (cc := cX5_keepFault) (maxL := 2) (ret := none) (own := RX5) (lv := [(0, .ref (q 3)), (1, .int z1)]) (by decide) rfl rfl (Nat.le_of_ble_eq_true rfl) rfl (fun κ sz hk hR hN => ?_)
  have hin5 : ∀ w ∈ u_ws RX5 TX5 13, w ∈ wz_k131_X5_keepFault := fun w h => (List.mem_cons_of_mem _ (List.mem_append_right _ (List.mem_append_left _ h)))
  have hin10 : ∀ w ∈ u_ws RX10 TX10 7, w ∈ wz_k131_X5_keepFault := fun w h => (List.mem_cons_of_mem _ (List.mem_append_right _ (List.mem_append_right _ (List.mem_append_left _ h))))
  have hF : FE (fX5_keepFault I A z1) (fX5_keepFault I A z1) := FE.rf
  refine g_aload_n hk dX5_keepFault_0 rfl ?_
  refine g_iload_n hk dX5_keepFault_1 rfl ?_
  refine pX_i11 hk hin5 (List.mem_cons_of_mem _ (List.mem_append_left _ (List.mem_of_getElem? (i := 0) rfl))) dX5_keepFault_2 ?_
  refine g_aload_n hk dX5_keepFault_5 rfl ?_
  refine g_aload_n hk dX5_keepFault_6 rfl ?_
  refine gX_r3_0 hk hin5 (List.mem_cons_of_mem _ (List.mem_append_left _ (List.mem_of_getElem? (i := 1) rfl))) dX5_keepFault_7 ?_
  refine gX_i2 (v := (I 2)) hk hin10 (List.mem_cons_of_mem _ (List.mem_append_left _ (List.mem_of_getElem? (i := 2) rfl))) dX5_keepFault_10 rfl ?_
  refine pX_i12 hk hin5 (List.mem_cons_of_mem _ (List.mem_append_left _ (List.mem_of_getElem? (i := 3) rfl))) dX5_keepFault_13 ?_
  refine g_aload_n hk dX5_keepFault_16 rfl ?_
  refine g_aload_n hk dX5_keepFault_17 rfl ?_
  refine gX_i9 (v := (I 9)) hk hin5 (List.mem_cons_of_mem _ (List.mem_append_left _ (List.mem_of_getElem? (i := 4) rfl))) dX5_keepFault_18 rfl ?_
  refine pX_i13 hk hin5 (List.mem_cons_of_mem _ (List.mem_append_left _ (List.mem_of_getElem? (i := 5) rfl))) dX5_keepFault_21 ?_
  exact g_vret hk hR ⟨(upd (upd (upd I 11 z1) 12 (I 2)) 13 (I 9)), A, (show Md [11, 12, 13] I (upd (upd (upd I 11 z1) 12 (I 2)) 13 (I 9)) from (Md.up (Md.up (Md.up Md.rf rfl) rfl) rfl)), (show Md [] A A from Md.rf), ⟨(IvX_f0 (I := I) (A := A) hIv), (IvX_f18 (I := I) (A := A) hIv), (IvX_f30 (I := I) (A := A) hIv), (IvX_f31 (I := I) (A := A) hIv), (IvX_a4 (I := I) (A := A) hIv), (IvX_a9 (I := I) (A := A) hIv), trivial⟩, hF, rfl, rfl⟩ dX5_keepFault_24
noncomputable def fX5_stop (I : Nat → Int32) (A : Nat → Nat → Int32) (z1 : Int32) : Int32 × (Nat → Int32) × (Nat → Nat → Int32) := f_bdX (fX5_keepFault (upd I 10 1) A z1) fun _ I712 A712 => (0, I712, A712)
def wo_k130_X5_stop : List Cond := [Cond.fieldLink RX5 49 "WarpDesk$Reader" "isStopped" "Z", Cond.methodLink RX5 93 yX5_keepFault, Cond.instanceMethod yX5_keepFault, Cond.selects RX5 yX5_keepFault yX5_keepFault, Cond.initialized RX5]
def wz_k130_X5_stop : List Cond := .code yX5_stop cX5_stop 2 none :: (wo_k130_X5_stop ++ (wsX50 ++ (wz_k131_X5_keepFault ++ ([] : List Cond))))
theorem zg_k130_X5_stop : ∀ w ∈ wz_k130_X5_stop, goodWord w = true := zg_cons rfl (zg_app (by decide +kernel) (zg_app zgU_wsX50 (zg_app zg_k131_X5_keepFault zg_nil)))
theorem zi_k130_X5_stop : ∀ w ∈ wz_k130_X5_stop, w ∈ lw_tbl := zi_cons zw_684 (zi_app (zi_cons zw_241 (zi_cons zw_685 (zi_cons zw_687 (zi_cons zw_13 (zi_cons zw_105 zi_nil))))) (zi_app inX5 (zi_app zi_k131_X5_keepFault zi_nil)))
set_option maxHeartbeats 4000000 in
set_option maxRecDepth 100000 in
theorem k130_X5_stop (l : Launch) (D : va_G) (zt : Nat × Nat × Nat × (Nat → Nat) × (Nat → Nat)) (q : Nat → Nat) (d : Nat → ClassId) (I : Nat → Int32) (A : Nat → Nat → Int32) (z1 : Int32) (hIv : IvX I A) : GM l D zt (tyX d) yX5_stop wz_k130_X5_stop ({ frames := 1, cells := 0, slots := 0, locals := 21 } : Room) [.ref (q 3), .int z1] (wX q d I A) (fun v _ w' => ∃ (I' : Nat → Int32) (A' : Nat → Nat → Int32), Md [10, 11, 12, 13] I I' ∧ Md [] A A' ∧ IvX I' A' ∧ FE (fX5_stop I A z1) (0, I', A') ∧ v = none ∧ w' = wX q d I' A') 0 0 := by
  refine GM.of (cc := cX5_stop) (maxL := 2) (ret := none) (own := RX5) (lv := [(0, .ref (q 3)), (1, .int z1)]) (by decide) rfl rfl (Nat.le_of_ble_eq_true rfl) rfl (fun κ sz hk hR hN => ?_)
  have hin5 : ∀ w ∈ u_ws RX5 TX5 13, w ∈ wz_k130_X5_stop := fun w h => (List.mem_cons_of_mem _ (List.mem_append_right _ (List.mem_append_left _ h)))
  have hF : FE (fX5_stop I A z1) (fX5_stop I A z1) := FE.rf
  refine g_aload_n hk dX5_stop_0 rfl ?_
  refine g_iconst (v := 1) hk dX5_stop_1 (by decide) ?_
  refine pX_i10 hk hin5 (List.mem_cons_of_mem _ (List.mem_append_left _ (List.mem_of_getElem? (i := 0) rfl))) ⟨rfl, rfl⟩ dX5_stop_2 ?_
  refine g_aload_n hk dX5_stop_5 rfl ?_
  refine g_iload_n hk dX5_stop_6 rfl ?_
  refine g_callV (n := 1) hk (k131_X5_keepFault l D zt q d (upd I 10 1) A z1 ⟨(IvX_f0 (I := I) (A := A) hIv), (IvX_f18 (I := I) (A := A) hIv), (IvX_f30 (I := I) (A := A) hIv), (IvX_f31 (I := I) (A := A) hIv), (IvX_a4 (I := I) (A := A) hIv), (IvX_a9 (I := I) (A := A) hIv), trivial⟩) (SP.same _) (fun _ h => h) (gi_V (List.mem_cons_of_mem _ (List.mem_append_left _ (List.mem_of_getElem? (i := 1) rfl))) (List.mem_cons_of_mem _ (List.mem_append_left _ (List.mem_of_getElem? (i := 2) rfl))) (List.mem_cons_of_mem _ (List.mem_append_left _ (List.mem_of_getElem? (i := 3) rfl))) (List.mem_cons_of_mem _ (List.mem_append_left _ (List.mem_of_getElem? (i := 4) rfl))) (gi_sub (fun w h => (List.mem_cons_of_mem _ (List.mem_append_right _ (List.mem_append_right _ (List.mem_append_left _ h))))) zg_k131_X5_keepFault)) rfl rfl rfl (by decide +kernel) ⟨Nat.le_of_ble_eq_true rfl, Nat.le_of_ble_eq_true rfl⟩ 3 rfl rfl rfl rfl (Nat.le_of_ble_eq_true rfl) ⟨Nat.le_of_ble_eq_true rfl, Nat.le_of_ble_eq_true rfl⟩ dX5_stop_7 (fun v ty' w' hp hk' => ?_)
  obtain ⟨I712, A712, hI712, hA712, hV712, hC, rfl, rfl⟩ := hp
  replace hF := FE.bdX hF hC
  show GW κ 2 0 0 (wX q d I712 A712) 10 [(0, .ref (q 3)), (1, .int z1)] []
  exact g_vret hk hR ⟨I712, A712, (show Md [10, 11, 12, 13] I I712 from (Md.tr (Md.up Md.rf rfl) hI712 rfl)), (show Md [] A A712 from (Md.tr Md.rf hA712 rfl)), hV712, hF, rfl, rfl⟩ dX5_stop_10
noncomputable def fX10_lengthAtHand (I : Nat → Int32) (A : Nat → Nat → Int32) : Int32 := f_lt ((I 5) - (I 2)) fun y728 => y728
def wo_k135_X10_lengthAtHand : List Cond := [Cond.fieldLink RX10 19 "WarpDesk$Tape" "behind" "I", Cond.fieldLink RX10 32 "WarpDesk$Tape" "start" "I"]
def wz_k135_X10_lengthAtHand : List Cond := .code yX10_lengthAtHand cX10_lengthAtHand 1 (some .int) :: (wo_k135_X10_lengthAtHand ++ (wsX100 ++ ([] : List Cond)))
theorem zg_k135_X10_lengthAtHand : ∀ w ∈ wz_k135_X10_lengthAtHand, goodWord w = true := zg_cons rfl (zg_app (by decide +kernel) (zg_app zgU_wsX100 zg_nil))
theorem zi_k135_X10_lengthAtHand : ∀ w ∈ wz_k135_X10_lengthAtHand, w ∈ lw_tbl := zi_cons zw_600 (zi_app (zi_cons zw_146 (zi_cons zw_140 zi_nil)) (zi_app inX10 zi_nil))
set_option maxHeartbeats 4000000 in
set_option maxRecDepth 100000 in
theorem k135_X10_lengthAtHand (l : Launch) (D : va_G) (zt : Nat × Nat × Nat × (Nat → Nat) × (Nat → Nat)) (q : Nat → Nat) (d : Nat → ClassId) (I : Nat → Int32) (A : Nat → Nat → Int32) (hIv : IvX I A) : GM l D zt (tyX d) yX10_lengthAtHand wz_k135_X10_lengthAtHand ({ frames := 0, cells := 0, slots := 0, locals := 0 } : Room) [.ref (q 1)] (wX q d I A) (fun v _ w' => ∃ y0 : Int32, FE (fX10_lengthAtHand I A) y0 ∧ v = some (.int y0) ∧ w' = wX q d I A) 0 0 := by
  refine GM.of (cc := cX10_lengthAtHand) (maxL := 1) (ret := (some .int)) (own := RX10) (lv := [(0, .ref (q 1))]) (by decide) rfl rfl (Nat.le_of_ble_eq_true rfl) rfl (fun κ sz hk hR hN => ?_)
  have hin10 : ∀ w ∈ u_ws RX10 TX10 7, w ∈ wz_k135_X10_lengthAtHand := fun w h => (List.mem_cons_of_mem _ (List.mem_append_right _ (List.mem_append_left _ h)))
  have hF : FE (fX10_lengthAtHand I A) (fX10_lengthAtHand I A) := FE.rf
  refine g_aload_n hk dX10_lengthAtHand_0 rfl ?_
  refine gX_i5 (v := (I 5)) hk hin10 (List.mem_cons_of_mem _ (List.mem_append_left _ (List.mem_of_getElem? (i := 0) rfl))) dX10_lengthAtHand_1 rfl ?_
  refine g_aload_n hk dX10_lengthAtHand_4 rfl ?_
  refine gX_i2 (v := (I 2)) hk hin10 (List.mem_cons_of_mem _ (List.mem_append_left _ (List.mem_of_getElem? (i := 1) rfl))) dX10_lengthAtHand_5 rfl ?_
  have b726l := Int32.le_toInt (I 5)
  have b726h := Int32.toInt_lt (I 5)
  have b727l := Int32.le_toInt (I 2)
  have b727h := Int32.toInt_lt (I 2)
  refine g_isub hk dX10_lengthAtHand_8 ?_
  refine g_topi (fun y728 ey728 => ?_)
  replace hF := FE.lt hF ey728
  have hy728 := i32_sub0 ey728
  have b729l := Int32.le_toInt y728
  have b729h := Int32.toInt_lt y728
  exact g_iret hk hR rfl ⟨y728, hF, rfl, rfl⟩ dX10_lengthAtHand_9
def wo_k137_J0_coder_7d493 : List Cond := [Cond.fieldLink RJ0 38 "java/lang/String" "COMPACT_STRINGS" "Z", Cond.fieldLink RJ0 15 "java/lang/String" "coder" "B"]
def wz_k137_J0_coder_7d493 : List Cond := .code yJ0_coder_7d493 cJ0_coder_7d493 1 (some .byte) :: (wo_k137_J0_coder_7d493 ++ ([] : List Cond))
theorem zg_k137_J0_coder_7d493 : ∀ w ∈ wz_k137_J0_coder_7d493, goodWord w = true := zg_cons rfl (zg_app (by decide +kernel) zg_nil)
theorem zi_k137_J0_coder_7d493 : ∀ w ∈ wz_k137_J0_coder_7d493, w ∈ lw_tbl := zi_cons zw_608 (zi_app (zi_cons zw_609 (zi_cons zw_1952 zi_nil)) zi_nil)
set_option maxHeartbeats 4000000 in
set_option maxRecDepth 100000 in
theorem k137_J0_coder_7d493 (l : Launch) (D : va_G) (zt : Nat × Nat × Nat × (Nat → Nat) × (Nat → Nat)) (i : Nat) (hi : i < 13) (q : Nat → Nat) (d : Nat → ClassId) (I : Nat → Int32) (A : Nat → Nat → Int32) (hIv : IvX I A) : GM l D zt (tyX d) yJ0_coder_7d493 wz_k137_J0_coder_7d493 ({ frames := 0, cells := 0, slots := 0, locals := 0 } : Room) [.ref (zt.2.2.2.1 i)] (wX q d I A) (fun v _ w' => v = some (.int 0) ∧ w' = wX q d I A) 0 0 := by
  refine GM.of (cc := cJ0_coder_7d493) (maxL := 1) (ret := (some .byte)) (own := RJ0) (lv := [(0, .ref (zt.2.2.2.1 i))]) (by decide) rfl rfl (Nat.le_of_ble_eq_true rfl) rfl (fun κ sz hk hR hN => ?_)
  refine g_getsC hk (List.mem_cons_of_mem _ (List.mem_append_left _ (List.mem_of_getElem? (i := 0) rfl))) dJ0_coder_7d493_0 ?_
  refine g_if_eq (tgt := 13) (a := 1) hk dJ0_coder_7d493_3 (by decide) rfl (fun z9 => absurd z9 (show ¬ ((1 : Int) = (0 : Int)) from by decide)) (fun _ => ?_)
  refine g_aload_n hk dJ0_coder_7d493_6 rfl ?_
  refine g_strC hk i hi (List.mem_cons_of_mem _ (List.mem_append_left _ (List.mem_of_getElem? (i := 1) rfl))) dJ0_coder_7d493_7 ?_
  refine g_goto (tgt := 14) hk dJ0_coder_7d493_10 (by decide) ?_
  exact g_iret hk hR rfl ⟨rfl, rfl⟩ dJ0_coder_7d493_14
def wo_k136_J0_length_8abf5 : List Cond := [Cond.fieldLink RJ0 9 "java/lang/String" "value" "[B", Cond.methodLink RJ0 335 yJ0_coder_7d493, Cond.instanceMethod yJ0_coder_7d493, Cond.selects RJ0 yJ0_coder_7d493 yJ0_coder_7d493, Cond.initialized RJ0]
def wz_k136_J0_length_8abf5 : List Cond := .code yJ0_length_8abf5 cJ0_length_8abf5 1 (some .int) :: (wo_k136_J0_length_8abf5 ++ (wz_k137_J0_coder_7d493 ++ ([] : List Cond)))
theorem zg_k136_J0_length_8abf5 : ∀ w ∈ wz_k136_J0_length_8abf5, goodWord w = true := zg_cons rfl (zg_app (by decide +kernel) (zg_app zg_k137_J0_coder_7d493 zg_nil))
theorem zi_k136_J0_length_8abf5 : ∀ w ∈ wz_k136_J0_length_8abf5, w ∈ lw_tbl := zi_cons zw_604 (zi_app (zi_cons zw_1951 (zi_cons zw_605 (zi_cons zw_606 (zi_cons zw_607 (zi_cons zw_116 zi_nil))))) (zi_app zi_k137_J0_coder_7d493 zi_nil))
set_option maxHeartbeats 4000000 in
set_option maxRecDepth 100000 in
theorem k136_J0_length_8abf5 (l : Launch) (D : va_G) (zt : Nat × Nat × Nat × (Nat → Nat) × (Nat → Nat)) (i : Nat) (hi : i < 13) (q : Nat → Nat) (d : Nat → ClassId) (I : Nat → Int32) (A : Nat → Nat → Int32) (hIv : IvX I A) : GM l D zt (tyX d) yJ0_length_8abf5 wz_k136_J0_length_8abf5 ({ frames := 1, cells := 0, slots := 0, locals := 20 } : Room) [.ref (zt.2.2.2.1 i)] (wX q d I A) (fun v _ w' => v = some (.int (nI (lenS.getD i 0))) ∧ w' = wX q d I A) 0 0 := by
  refine GM.of (cc := cJ0_length_8abf5) (maxL := 1) (ret := (some .int)) (own := RJ0) (lv := [(0, .ref (zt.2.2.2.1 i))]) (by decide) rfl rfl (Nat.le_of_ble_eq_true rfl) rfl (fun κ sz hk hR hN => ?_)
  refine g_aload_n hk dJ0_length_8abf5_0 rfl ?_
  refine g_strV hk i hi (List.mem_cons_of_mem _ (List.mem_append_left _ (List.mem_of_getElem? (i := 0) rfl))) dJ0_length_8abf5_1 ?_
  have f731 := lenS_le i hi
  refine g_strN hk i hi dJ0_length_8abf5_4 ?_
  refine g_aload_n hk dJ0_length_8abf5_5 rfl ?_
  refine g_callVS (n := 0) i hi hk (k137_J0_coder_7d493 l D zt i hi q d I A  hIv) (SP.same _) (fun _ h => h) (gi_V (List.mem_cons_of_mem _ (List.mem_append_left _ (List.mem_of_getElem? (i := 1) rfl))) (List.mem_cons_of_mem _ (List.mem_append_left _ (List.mem_of_getElem? (i := 2) rfl))) (List.mem_cons_of_mem _ (List.mem_append_left _ (List.mem_of_getElem? (i := 3) rfl))) (List.mem_cons_of_mem _ (List.mem_append_left _ (List.mem_of_getElem? (i := 4) rfl))) (gi_sub (fun w h => (List.mem_cons_of_mem _ (List.mem_append_right _ (List.mem_append_left _ h)))) zg_k137_J0_coder_7d493)) rfl rfl rfl (by decide +kernel) ⟨Nat.le_of_ble_eq_true rfl, Nat.le_of_ble_eq_true rfl⟩ rfl rfl (Nat.le_of_ble_eq_true rfl) ⟨Nat.le_of_ble_eq_true rfl, Nat.le_of_ble_eq_true rfl⟩ dJ0_length_8abf5_6 (fun v ty' w' hp hk' => ?_)
  obtain ⟨rfl, rfl⟩ := hp
  show GW κ 1 0 0 (wX q d I A) 9 [(0, .ref (zt.2.2.2.1 i))] [.int 0, .int (nI (lenS.getD i 0))]
  refine g_ishr hk dJ0_length_8abf5_9 ?_
  refine g_norm (v := (nI (lenS.getD i 0))) (sc_shr0 (n := lenS.getD i 0) (by omega)) ?_
  exact g_iret hk hR rfl ⟨rfl, rfl⟩ dJ0_length_8abf5_10
def wz_k139_J0_isLatin1_aae02 : List Cond := .code yJ0_isLatin1_aae02 cJ0_isLatin1_aae02 1 (some .boolean) :: (wo_k137_J0_coder_7d493 ++ ([] : List Cond))
theorem zg_k139_J0_isLatin1_aae02 : ∀ w ∈ wz_k139_J0_isLatin1_aae02, goodWord w = true := zg_cons rfl (zg_app (by decide +kernel) zg_nil)
theorem zi_k139_J0_isLatin1_aae02 : ∀ w ∈ wz_k139_J0_isLatin1_aae02, w ∈ lw_tbl := zi_cons zw_618 (zi_app (zi_cons zw_609 (zi_cons zw_1952 zi_nil)) zi_nil)
set_option maxHeartbeats 4000000 in
set_option maxRecDepth 100000 in
theorem k139_J0_isLatin1_aae02 (l : Launch) (D : va_G) (zt : Nat × Nat × Nat × (Nat → Nat) × (Nat → Nat)) (i : Nat) (hi : i < 13) (q : Nat → Nat) (d : Nat → ClassId) (I : Nat → Int32) (A : Nat → Nat → Int32) (hIv : IvX I A) : GM l D zt (tyX d) yJ0_isLatin1_aae02 wz_k139_J0_isLatin1_aae02 ({ frames := 0, cells := 0, slots := 0, locals := 0 } : Room) [.ref (zt.2.2.2.1 i)] (wX q d I A) (fun v _ w' => v = some (.int 1) ∧ w' = wX q d I A) 0 0 := by
  refine GM.of (cc := cJ0_isLatin1_aae02) (maxL := 1) (ret := (some .boolean)) (own := RJ0) (lv := [(0, .ref (zt.2.2.2.1 i))]) (by decide) rfl rfl (Nat.le_of_ble_eq_true rfl) rfl (fun κ sz hk hR hN => ?_)
  refine g_getsC hk (List.mem_cons_of_mem _ (List.mem_append_left _ (List.mem_of_getElem? (i := 0) rfl))) dJ0_isLatin1_aae02_0 ?_
  refine g_if_eq (tgt := 17) (a := 1) hk dJ0_isLatin1_aae02_3 (by decide) rfl (fun z9 => absurd z9 (show ¬ ((1 : Int) = (0 : Int)) from by decide)) (fun _ => ?_)
  refine g_aload_n hk dJ0_isLatin1_aae02_6 rfl ?_
  refine g_strC hk i hi (List.mem_cons_of_mem _ (List.mem_append_left _ (List.mem_of_getElem? (i := 1) rfl))) dJ0_isLatin1_aae02_7 ?_
  refine g_if_ne (tgt := 17) (a := 0) hk dJ0_isLatin1_aae02_10 (by decide) rfl (fun z9 => absurd z9 (show ¬ ((0 : Int) ≠ (0 : Int)) from by decide)) (fun _ => ?_)
  refine g_iconst (v := 1) hk dJ0_isLatin1_aae02_13 (by decide) ?_
  refine g_goto (tgt := 18) hk dJ0_isLatin1_aae02_14 (by decide) ?_
  exact g_iret hk hR rfl ⟨rfl, rfl⟩ dJ0_isLatin1_aae02_18
def wz_k142_J3_checkIndex_8e157 : List Cond := .code yJ3_checkIndex_8e157 cJ3_checkIndex_8e157 3 (some .int) :: (wo_k126_X10_isLetter ++ ([] : List Cond))
theorem zg_k142_J3_checkIndex_8e157 : ∀ w ∈ wz_k142_J3_checkIndex_8e157, goodWord w = true := zg_cons rfl (zg_app (by decide +kernel) zg_nil)
theorem zi_k142_J3_checkIndex_8e157 : ∀ w ∈ wz_k142_J3_checkIndex_8e157, w ∈ lw_tbl := zi_cons zw_629 (zi_app zi_nil zi_nil)
set_option maxHeartbeats 4000000 in
set_option maxRecDepth 100000 in
theorem k142_J3_checkIndex_8e157 (l : Launch) (D : va_G) (zt : Nat × Nat × Nat × (Nat → Nat) × (Nat → Nat)) (q : Nat → Nat) (d : Nat → ClassId) (I : Nat → Int32) (A : Nat → Nat → Int32) (z0 : Int32) (z1 : Int32) (hIv : IvX I A) (hp0 : 0 ≤ z0.toInt ∧ z0.toInt < z1.toInt) : GM l D zt (tyX d) yJ3_checkIndex_8e157 wz_k142_J3_checkIndex_8e157 ({ frames := 0, cells := 0, slots := 0, locals := 0 } : Room) [.int z0, .int z1, .null] (wX q d I A) (fun v _ w' => ∃ y0 : Int32, (0 ≤ y0.toInt) ∧ (y0.toInt ≤ 2147483646) ∧ v = some (.int y0) ∧ w' = wX q d I A) 0 0 := by
  refine GM.of (cc := cJ3_checkIndex_8e157) (maxL := 3) (ret := (some .int)) (own := RJ3) (lv := [(0, .int z0), (1, .int z1), (2, .null)]) (by decide) rfl rfl (Nat.le_of_ble_eq_true rfl) rfl (fun κ sz hk hR hN => ?_)
  refine g_iload_n hk dJ3_checkIndex_8e157_0 rfl ?_
  have b746l := Int32.le_toInt z0
  have b746h := Int32.toInt_lt z0
  refine g_if_lt (tgt := 9) (a := z0.toInt) hk dJ3_checkIndex_8e157_1 (by decide) rfl (fun c747 => ?_) (fun c747 => ?_)
  · skip
    exfalso; omega
  · skip
    refine g_iload_n hk dJ3_checkIndex_8e157_4 rfl ?_
    refine g_iload_n hk dJ3_checkIndex_8e157_5 rfl ?_
    have b748l := Int32.le_toInt z1
    have b748h := Int32.toInt_lt z1
    refine g_icmp_lt (tgt := 16) (a := z0.toInt) (b := z1.toInt) hk dJ3_checkIndex_8e157_6 (by decide) rfl rfl (fun c749 => ?_) (fun c749 => ?_)
    · skip
      refine g_iload_n hk dJ3_checkIndex_8e157_16 rfl ?_
      exact g_iret hk hR rfl ⟨z0, (by omega), (by omega), rfl, rfl⟩ dJ3_checkIndex_8e157_17
    · skip
      exfalso; omega
set_option maxHeartbeats 4000000 in
set_option maxRecDepth 100000 in
theorem k143_J3_checkIndex_8e157 (l : Launch) (D : va_G) (zt : Nat × Nat × Nat × (Nat → Nat) × (Nat → Nat)) (t8 : Nat) (q : Nat → Nat) (d : Nat → ClassId) (I : Nat → Int32) (A : Nat → Nat → Int32) (z0 : Int32) (z1 : Int32) (hIv : IvX I A) (hp0 : 0 ≤ z0.toInt ∧ z0.toInt < z1.toInt) : GM l D zt (tyX d) yJ3_checkIndex_8e157 wz_k142_J3_checkIndex_8e157 ({ frames := 0, cells := 0, slots := 0, locals := 0 } : Room) [.int z0, .int z1, .ref t8] (wX q d I A) (fun v _ w' => ∃ y0 : Int32, (0 ≤ y0.toInt) ∧ (y0.toInt ≤ 2147483646) ∧ v = some (.int y0) ∧ w' = wX q d I A) 0 0 := by
  refine GM.of (cc := cJ3_checkIndex_8e157) (maxL := 3) (ret := (some .int)) (own := RJ3) (lv := [(0, .int z0), (1, .int z1), (2, .ref t8)]) (by decide) rfl rfl (Nat.le_of_ble_eq_true rfl) rfl (fun κ sz hk hR hN => ?_)
  refine g_iload_n hk dJ3_checkIndex_8e157_0 rfl ?_
  have b753l := Int32.le_toInt z0
  have b753h := Int32.toInt_lt z0
  refine g_if_lt (tgt := 9) (a := z0.toInt) hk dJ3_checkIndex_8e157_1 (by decide) rfl (fun c754 => ?_) (fun c754 => ?_)
  · skip
    exfalso; omega
  · skip
    refine g_iload_n hk dJ3_checkIndex_8e157_4 rfl ?_
    refine g_iload_n hk dJ3_checkIndex_8e157_5 rfl ?_
    have b755l := Int32.le_toInt z1
    have b755h := Int32.toInt_lt z1
    refine g_icmp_lt (tgt := 16) (a := z0.toInt) (b := z1.toInt) hk dJ3_checkIndex_8e157_6 (by decide) rfl rfl (fun c756 => ?_) (fun c756 => ?_)
    · skip
      refine g_iload_n hk dJ3_checkIndex_8e157_16 rfl ?_
      exact g_iret hk hR rfl ⟨z0, (by omega), (by omega), rfl, rfl⟩ dJ3_checkIndex_8e157_17
    · skip
      exfalso; omega
def wo_k141_J0_checkIndex_df160 : List Cond := [Cond.fieldLink RJ0 1053 "jdk/internal/util/Preconditions" "SIOOBE_FORMATTER" "Ljava/util/function/BiFunction;", Cond.methodLink RJ0 1059 yJ3_checkIndex_8e157, Cond.static yJ3_checkIndex_8e157, Cond.initialized RJ3]
def wz_k141_J0_checkIndex_df160 : List Cond := .code yJ0_checkIndex_df160 cJ0_checkIndex_df160 2 none :: (wo_k141_J0_checkIndex_df160 ++ (wz_k142_J3_checkIndex_8e157 ++ (wz_k142_J3_checkIndex_8e157 ++ ([] : List Cond))))
theorem zg_k141_J0_checkIndex_df160 : ∀ w ∈ wz_k141_J0_checkIndex_df160, goodWord w = true := zg_cons rfl (zg_app (by decide +kernel) (zg_app zg_k142_J3_checkIndex_8e157 (zg_app zg_k142_J3_checkIndex_8e157 zg_nil)))
theorem zi_k141_J0_checkIndex_df160 : ∀ w ∈ wz_k141_J0_checkIndex_df160, w ∈ lw_tbl := zi_cons zw_624 (zi_app (zi_cons zw_625 (zi_cons zw_627 (zi_cons zw_628 (zi_cons zw_118 zi_nil)))) (zi_app zi_k142_J3_checkIndex_8e157 (zi_app zi_k142_J3_checkIndex_8e157 zi_nil)))
set_option maxHeartbeats 4000000 in
set_option maxRecDepth 100000 in
theorem k141_J0_checkIndex_df160 (l : Launch) (D : va_G) (zt : Nat × Nat × Nat × (Nat → Nat) × (Nat → Nat)) (q : Nat → Nat) (d : Nat → ClassId) (I : Nat → Int32) (A : Nat → Nat → Int32) (z0 : Int32) (z1 : Int32) (hIv : IvX I A) (hp0 : 0 ≤ z0.toInt ∧ z0.toInt < z1.toInt) : GM l D zt (tyX d) yJ0_checkIndex_df160 wz_k141_J0_checkIndex_df160 ({ frames := 1, cells := 0, slots := 0, locals := 22 } : Room) [.int z0, .int z1] (wX q d I A) (fun v _ w' => v = none ∧ w' = wX q d I A) 0 0 := by
  refine GM.of (cc := cJ0_checkIndex_df160) (maxL := 2) (ret := none) (own := RJ0) (lv := [(0, .int z0), (1, .int z1)]) (by decide) rfl rfl (Nat.le_of_ble_eq_true rfl) rfl (fun κ sz hk hR hN => ?_)
  refine g_iload_n hk dJ0_checkIndex_df160_0 rfl ?_
  refine g_iload_n hk dJ0_checkIndex_df160_1 rfl ?_
  refine g_getsF hk (List.mem_cons_of_mem _ (List.mem_append_left _ (List.mem_of_getElem? (i := 0) rfl))) dJ0_checkIndex_df160_2 ?_ (fun t9 => ?_)
  · skip
    refine g_callS (n := 3) hk (k142_J3_checkIndex_8e157 l D zt q d I A z0 z1 hIv ⟨by omega, by omega⟩) (SP.same _) (fun _ h => h) (gi_S (List.mem_cons_of_mem _ (List.mem_append_left _ (List.mem_of_getElem? (i := 1) rfl))) (List.mem_cons_of_mem _ (List.mem_append_left _ (List.mem_of_getElem? (i := 2) rfl))) (List.mem_cons_of_mem _ (List.mem_append_left _ (List.mem_of_getElem? (i := 3) rfl))) (gi_sub (fun w h => (List.mem_cons_of_mem _ (List.mem_append_right _ (List.mem_append_left _ h)))) zg_k142_J3_checkIndex_8e157)) rfl rfl rfl (by decide +kernel) ⟨Nat.le_of_ble_eq_true rfl, Nat.le_of_ble_eq_true rfl⟩ rfl rfl (Nat.le_of_ble_eq_true rfl) ⟨Nat.le_of_ble_eq_true rfl, Nat.le_of_ble_eq_true rfl⟩ dJ0_checkIndex_df160_5 (fun v ty' w' hp hk' => ?_)
    obtain ⟨y750, c751, c752, rfl, rfl⟩ := hp
    show GW κ 2 0 0 (wX q d I A) 8 [(0, .int z0), (1, .int z1)] [.int y750]
    refine g_pop hk dJ0_checkIndex_df160_8 rfl ?_
    exact g_vret hk hR ⟨rfl, rfl⟩ dJ0_checkIndex_df160_9
  · skip
    refine g_callS (n := 3) hk (k143_J3_checkIndex_8e157 l D zt t9 q d I A z0 z1 hIv ⟨by omega, by omega⟩) (SP.same _) (fun _ h => h) (gi_S (List.mem_cons_of_mem _ (List.mem_append_left _ (List.mem_of_getElem? (i := 1) rfl))) (List.mem_cons_of_mem _ (List.mem_append_left _ (List.mem_of_getElem? (i := 2) rfl))) (List.mem_cons_of_mem _ (List.mem_append_left _ (List.mem_of_getElem? (i := 3) rfl))) (gi_sub (fun w h => (List.mem_cons_of_mem _ (List.mem_append_right _ (List.mem_append_right _ (List.mem_append_left _ h))))) zg_k142_J3_checkIndex_8e157)) rfl rfl rfl (by decide +kernel) ⟨Nat.le_of_ble_eq_true rfl, Nat.le_of_ble_eq_true rfl⟩ rfl rfl (Nat.le_of_ble_eq_true rfl) ⟨Nat.le_of_ble_eq_true rfl, Nat.le_of_ble_eq_true rfl⟩ dJ0_checkIndex_df160_5 (fun v ty' w' hp hk' => ?_)
    obtain ⟨y757, c758, c759, rfl, rfl⟩ := hp
    show GW κ 2 0 0 (wX q d I A) 8 [(0, .int z0), (1, .int z1)] [.int y757]
    refine g_pop hk dJ0_checkIndex_df160_8 rfl ?_
    exact g_vret hk hR ⟨rfl, rfl⟩ dJ0_checkIndex_df160_9
def wo_k140_J1_charAt_3b067 : List Cond := [Cond.methodLink RJ1 9 yJ0_checkIndex_df160, Cond.static yJ0_checkIndex_df160, Cond.initialized RJ0]
def wz_k140_J1_charAt_3b067 : List Cond := .code yJ1_charAt_3b067 cJ1_charAt_3b067 2 (some .char) :: (wo_k140_J1_charAt_3b067 ++ (wz_k141_J0_checkIndex_df160 ++ ([] : List Cond)))
theorem zg_k140_J1_charAt_3b067 : ∀ w ∈ wz_k140_J1_charAt_3b067, goodWord w = true := zg_cons rfl (zg_app (by decide +kernel) (zg_app zg_k141_J0_checkIndex_df160 zg_nil))
theorem zi_k140_J1_charAt_3b067 : ∀ w ∈ wz_k140_J1_charAt_3b067, w ∈ lw_tbl := zi_cons zw_621 (zi_app (zi_cons zw_622 (zi_cons zw_623 (zi_cons zw_116 zi_nil))) (zi_app zi_k141_J0_checkIndex_df160 zi_nil))
set_option maxHeartbeats 4000000 in
set_option maxRecDepth 100000 in
theorem k140_J1_charAt_3b067 (l : Launch) (D : va_G) (zt : Nat × Nat × Nat × (Nat → Nat) × (Nat → Nat)) (i : Nat) (hi : i < 13) (q : Nat → Nat) (d : Nat → ClassId) (I : Nat → Int32) (A : Nat → Nat → Int32) (z1 : Int32) (hIv : IvX I A) (hp0 : 0 ≤ z1.toInt ∧ z1.toInt < (nI (lenS.getD i 0)).toInt) : GM l D zt (tyX d) yJ1_charAt_3b067 wz_k140_J1_charAt_3b067 ({ frames := 2, cells := 0, slots := 0, locals := 43 } : Room) [.ref (zt.2.2.2.2 i), .int z1] (wX q d I A) (fun v _ w' => v = some (.int (((bytS.getD i []).getD z1.toNatClampNeg 0) &&& 255)) ∧ w' = wX q d I A) 0 0 := by
  refine GM.of (cc := cJ1_charAt_3b067) (maxL := 2) (ret := (some .char)) (own := RJ1) (lv := [(0, .ref (zt.2.2.2.2 i)), (1, .int z1)]) (by decide) rfl rfl (Nat.le_of_ble_eq_true rfl) rfl (fun κ sz hk hR hN => ?_)
  refine g_iload_n hk dJ1_charAt_3b067_0 rfl ?_
  refine g_aload_n hk dJ1_charAt_3b067_1 rfl ?_
  have f745 := lenS_le i hi
  refine g_strN hk i hi dJ1_charAt_3b067_2 ?_
  refine g_callS (n := 2) hk (k141_J0_checkIndex_df160 l D zt q d I A z1 (nI (lenS.getD i 0)) hIv ⟨by omega, by omega⟩) (SP.same _) (fun _ h => h) (gi_S (List.mem_cons_of_mem _ (List.mem_append_left _ (List.mem_of_getElem? (i := 0) rfl))) (List.mem_cons_of_mem _ (List.mem_append_left _ (List.mem_of_getElem? (i := 1) rfl))) (List.mem_cons_of_mem _ (List.mem_append_left _ (List.mem_of_getElem? (i := 2) rfl))) (gi_sub (fun w h => (List.mem_cons_of_mem _ (List.mem_append_right _ (List.mem_append_left _ h)))) zg_k141_J0_checkIndex_df160)) rfl rfl rfl (by decide +kernel) ⟨Nat.le_of_ble_eq_true rfl, Nat.le_of_ble_eq_true rfl⟩ rfl rfl (Nat.le_of_ble_eq_true rfl) ⟨Nat.le_of_ble_eq_true rfl, Nat.le_of_ble_eq_true rfl⟩ dJ1_charAt_3b067_3 (fun v ty' w' hp hk' => ?_)
  obtain ⟨rfl, rfl⟩ := hp
  show GW κ 2 0 0 (wX q d I A) 6 [(0, .ref (zt.2.2.2.2 i)), (1, .int z1)] []
  refine g_aload_n hk dJ1_charAt_3b067_6 rfl ?_
  refine g_iload_n hk dJ1_charAt_3b067_7 rfl ?_
  have b761l := Int32.le_toInt z1
  have b761h := Int32.toInt_lt z1
  refine g_strB2 hk i hi (str_in hi (by omega) (by omega)) dJ1_charAt_3b067_8 ?_
  refine g_sipush (v := 255) hk dJ1_charAt_3b067_9 (by decide) ?_
  have b762l := Int32.le_toInt ((bytS.getD i []).getD z1.toNatClampNeg 0)
  have b762h := Int32.toInt_lt ((bytS.getD i []).getD z1.toNatClampNeg 0)
  refine g_iand hk dJ1_charAt_3b067_12 ?_
  have h763 : 0 ≤ (((bytS.getD i []).getD z1.toNatClampNeg 0) &&& 255).toInt ∧ (((bytS.getD i []).getD z1.toNatClampNeg 0) &&& 255).toInt ≤ 255 := i32_mask 8 rfl (by decide) (by decide)
  refine g_i2c hk dJ1_charAt_3b067_13 (sc_c2 _) ?_
  exact g_iret hk hR (sc_nar _) ⟨rfl, rfl⟩ dJ1_charAt_3b067_14
def wo_k138_J0_charAt_5068e : List Cond := [Cond.methodLink RJ0 492 yJ0_isLatin1_aae02, Cond.instanceMethod yJ0_isLatin1_aae02, Cond.selects RJ0 yJ0_isLatin1_aae02 yJ0_isLatin1_aae02, Cond.initialized RJ0, Cond.fieldLink RJ0 9 "java/lang/String" "value" "[B", Cond.methodLink RJ0 495 yJ1_charAt_3b067, Cond.static yJ1_charAt_3b067, Cond.initialized RJ1]
def wz_k138_J0_charAt_5068e : List Cond := .code yJ0_charAt_5068e cJ0_charAt_5068e 2 (some .char) :: (wo_k138_J0_charAt_5068e ++ (wz_k139_J0_isLatin1_aae02 ++ (wz_k140_J1_charAt_3b067 ++ ([] : List Cond))))
theorem zg_k138_J0_charAt_5068e : ∀ w ∈ wz_k138_J0_charAt_5068e, goodWord w = true := zg_cons rfl (zg_app (by decide +kernel) (zg_app zg_k139_J0_isLatin1_aae02 (zg_app zg_k140_J1_charAt_3b067 zg_nil)))
theorem zi_k138_J0_charAt_5068e : ∀ w ∈ wz_k138_J0_charAt_5068e, w ∈ lw_tbl := zi_cons zw_614 (zi_app (zi_cons zw_615 (zi_cons zw_616 (zi_cons zw_617 (zi_cons zw_116 (zi_cons zw_1951 (zi_cons zw_619 (zi_cons zw_620 (zi_cons zw_117 zi_nil)))))))) (zi_app zi_k139_J0_isLatin1_aae02 (zi_app zi_k140_J1_charAt_3b067 zi_nil)))
set_option maxHeartbeats 4000000 in
set_option maxRecDepth 100000 in
theorem k138_J0_charAt_5068e (l : Launch) (D : va_G) (zt : Nat × Nat × Nat × (Nat → Nat) × (Nat → Nat)) (i : Nat) (hi : i < 13) (q : Nat → Nat) (d : Nat → ClassId) (I : Nat → Int32) (A : Nat → Nat → Int32) (z1 : Int32) (hIv : IvX I A) (hp0 : 0 ≤ z1.toInt ∧ z1.toInt < (nI (lenS.getD i 0)).toInt) : GM l D zt (tyX d) yJ0_charAt_5068e wz_k138_J0_charAt_5068e ({ frames := 3, cells := 0, slots := 0, locals := 64 } : Room) [.ref (zt.2.2.2.1 i), .int z1] (wX q d I A) (fun v _ w' => v = some (.int (((bytS.getD i []).getD z1.toNatClampNeg 0) &&& 255)) ∧ w' = wX q d I A) 0 0 := by
  refine GM.of (cc := cJ0_charAt_5068e) (maxL := 2) (ret := (some .char)) (own := RJ0) (lv := [(0, .ref (zt.2.2.2.1 i)), (1, .int z1)]) (by decide) rfl rfl (Nat.le_of_ble_eq_true rfl) rfl (fun κ sz hk hR hN => ?_)
  refine g_aload_n hk dJ0_charAt_5068e_0 rfl ?_
  refine g_callVS (n := 0) i hi hk (k139_J0_isLatin1_aae02 l D zt i hi q d I A  hIv) (SP.same _) (fun _ h => h) (gi_V (List.mem_cons_of_mem _ (List.mem_append_left _ (List.mem_of_getElem? (i := 0) rfl))) (List.mem_cons_of_mem _ (List.mem_append_left _ (List.mem_of_getElem? (i := 1) rfl))) (List.mem_cons_of_mem _ (List.mem_append_left _ (List.mem_of_getElem? (i := 2) rfl))) (List.mem_cons_of_mem _ (List.mem_append_left _ (List.mem_of_getElem? (i := 3) rfl))) (gi_sub (fun w h => (List.mem_cons_of_mem _ (List.mem_append_right _ (List.mem_append_left _ h)))) zg_k139_J0_isLatin1_aae02)) rfl rfl rfl (by decide +kernel) ⟨Nat.le_of_ble_eq_true rfl, Nat.le_of_ble_eq_true rfl⟩ rfl rfl (Nat.le_of_ble_eq_true rfl) ⟨Nat.le_of_ble_eq_true rfl, Nat.le_of_ble_eq_true rfl⟩ dJ0_charAt_5068e_1 (fun v ty' w' hp hk' => ?_)
  obtain ⟨rfl, rfl⟩ := hp
  show GW κ 2 0 0 (wX q d I A) 4 [(0, .ref (zt.2.2.2.1 i)), (1, .int z1)] [.int 1]
  refine g_if_eq (tgt := 16) (a := 1) hk dJ0_charAt_5068e_4 (by decide) rfl (fun z9 => absurd z9 (show ¬ ((1 : Int) = (0 : Int)) from by decide)) (fun _ => ?_)
  refine g_aload_n hk dJ0_charAt_5068e_7 rfl ?_
  refine g_strV hk i hi (List.mem_cons_of_mem _ (List.mem_append_left _ (List.mem_of_getElem? (i := 4) rfl))) dJ0_charAt_5068e_8 ?_
  refine g_iload_n hk dJ0_charAt_5068e_11 rfl ?_
  refine g_callS (n := 2) hk (k140_J1_charAt_3b067 l D zt i hi q d I A z1 hIv ⟨by omega, by omega⟩) (SP.same _) (fun _ h => h) (gi_S (List.mem_cons_of_mem _ (List.mem_append_left _ (List.mem_of_getElem? (i := 5) rfl))) (List.mem_cons_of_mem _ (List.mem_append_left _ (List.mem_of_getElem? (i := 6) rfl))) (List.mem_cons_of_mem _ (List.mem_append_left _ (List.mem_of_getElem? (i := 7) rfl))) (gi_sub (fun w h => (List.mem_cons_of_mem _ (List.mem_append_right _ (List.mem_append_right _ (List.mem_append_left _ h))))) zg_k140_J1_charAt_3b067)) rfl rfl rfl (by decide +kernel) ⟨Nat.le_of_ble_eq_true rfl, Nat.le_of_ble_eq_true rfl⟩ rfl rfl (Nat.le_of_ble_eq_true rfl) ⟨Nat.le_of_ble_eq_true rfl, Nat.le_of_ble_eq_true rfl⟩ dJ0_charAt_5068e_12 (fun v ty' w' hp hk' => ?_)
  obtain ⟨rfl, rfl⟩ := hp
  show GW κ 2 0 0 (wX q d I A) 15 [(0, .ref (zt.2.2.2.1 i)), (1, .int z1)] [.int (((bytS.getD i []).getD z1.toNatClampNeg 0) &&& 255)]
  have b764l := Int32.le_toInt (((bytS.getD i []).getD z1.toNatClampNeg 0) &&& 255)
  have b764h := Int32.toInt_lt (((bytS.getD i []).getD z1.toNatClampNeg 0) &&& 255)
  exact g_iret hk hR (sc_nar _) ⟨rfl, rfl⟩ dJ0_charAt_5068e_15
noncomputable def bX10_isWord_23 (i : Nat) (I : Nat → Int32) (A : Nat → Nat → Int32) : (Int32 → (Int32)) → Int32 → (Int32) := fun kk799 x736 => if (nI (lenS.getD i 0)).toInt ≤ x736.toInt then 1 else f_lt ((I 2) + x736) fun y803 => f_lt (fX10_byteAt I A y803) fun y804 => if y804.toInt = (((bytS.getD i []).getD x736.toNatClampNeg 0) &&& 255).toInt then f_lt (x736 + Int32.ofInt 1) fun y808 => kk799 y808 else 0
noncomputable def fX10_isWord (i : Nat) (I : Nat → Int32) (A : Nat → Nat → Int32) : Int32 := if (I 1).toInt ≠ 1 then 0 else f_lt (fX10_lengthAtHand I A) fun y730 => if y730.toInt = (nI (lenS.getD i 0)).toInt then itr_i (0 : Int32) (bX10_isWord_23 i I A) FU 0 else 0
def wo_k134_X10_isWord : List Cond := [Cond.fieldLink RX10 41 "WarpDesk$Tape" "kind" "I", Cond.methodLink RX10 57 yX10_lengthAtHand, Cond.instanceMethod yX10_lengthAtHand, Cond.selects RX10 yX10_lengthAtHand yX10_lengthAtHand, Cond.initialized RX10, Cond.methodLink RX10 61 yJ0_length_8abf5, Cond.instanceMethod yJ0_length_8abf5, Cond.selects RJ0 yJ0_length_8abf5 yJ0_length_8abf5, Cond.initialized RJ0, Cond.fieldLink RX10 32 "WarpDesk$Tape" "start" "I", Cond.methodLink RX10 38 yX10_byteAt, Cond.instanceMethod yX10_byteAt, Cond.selects RX10 yX10_byteAt yX10_byteAt, Cond.methodLink RX10 66 yJ0_charAt_5068e, Cond.instanceMethod yJ0_charAt_5068e, Cond.selects RJ0 yJ0_charAt_5068e yJ0_charAt_5068e]
def wz_k134_X10_isWord : List Cond := .code yX10_isWord cX10_isWord 3 (some .boolean) :: (wo_k134_X10_isWord ++ (wsX100 ++ (wz_k135_X10_lengthAtHand ++ (wz_k136_J0_length_8abf5 ++ (wz_k125_X10_byteAt ++ (wz_k138_J0_charAt_5068e ++ ([] : List Cond)))))))
theorem zg_k134_X10_isWord : ∀ w ∈ wz_k134_X10_isWord, goodWord w = true := zg_cons rfl (zg_app (by decide +kernel) (zg_app zgU_wsX100 (zg_app zg_k135_X10_lengthAtHand (zg_app zg_k136_J0_length_8abf5 (zg_app zg_k125_X10_byteAt (zg_app zg_k138_J0_charAt_5068e zg_nil))))))
theorem zi_k134_X10_isWord : ∀ w ∈ wz_k134_X10_isWord, w ∈ lw_tbl := zi_cons zw_596 (zi_app (zi_cons zw_139 (zi_cons zw_597 (zi_cons zw_598 (zi_cons zw_599 (zi_cons zw_104 (zi_cons zw_601 (zi_cons zw_602 (zi_cons zw_603 (zi_cons zw_116 (zi_cons zw_140 (zi_cons zw_566 (zi_cons zw_568 (zi_cons zw_2 (zi_cons zw_611 (zi_cons zw_612 (zi_cons zw_613 zi_nil)))))))))))))))) (zi_app inX10 (zi_app zi_k135_X10_lengthAtHand (zi_app zi_k136_J0_length_8abf5 (zi_app zi_k125_X10_byteAt (zi_app zi_k138_J0_charAt_5068e zi_nil))))))
set_option maxHeartbeats 4000000 in
set_option maxRecDepth 100000 in
theorem k134_X10_isWord (l : Launch) (D : va_G) (zt : Nat × Nat × Nat × (Nat → Nat) × (Nat → Nat)) (i : Nat) (hi : i < 13) (q : Nat → Nat) (d : Nat → ClassId) (I : Nat → Int32) (A : Nat → Nat → Int32) (hIv : IvX I A) : GM l D zt (tyX d) yX10_isWord wz_k134_X10_isWord ({ frames := 4, cells := 0, slots := 0, locals := 85 } : Room) [.ref (q 1), .ref (zt.2.2.2.1 i)] (wX q d I A) (fun v _ w' => (FE (fX10_isWord i I A) (0) ∧ v = some (.int 0) ∧ w' = wX q d I A) ∨ (FE (fX10_isWord i I A) (1) ∧ v = some (.int 1) ∧ w' = wX q d I A)) 0 0 := by
  refine GM.of (cc := cX10_isWord) (maxL := 3) (ret := (some .boolean)) (own := RX10) (lv := [(0, .ref (q 1)), (1, .ref (zt.2.2.2.1 i))]) (by decide) rfl rfl (Nat.le_of_ble_eq_true rfl) rfl (fun κ sz hk hR hN => ?_)
  have hin10 : ∀ w ∈ u_ws RX10 TX10 7, w ∈ wz_k134_X10_isWord := fun w h => (List.mem_cons_of_mem _ (List.mem_append_right _ (List.mem_append_left _ h)))
  have hF : FE (fX10_isWord i I A) (fX10_isWord i I A) := FE.rf
  refine g_aload_n hk dX10_isWord_0 rfl ?_
  refine gX_i1 (v := (I 1)) hk hin10 (List.mem_cons_of_mem _ (List.mem_append_left _ (List.mem_of_getElem? (i := 0) rfl))) dX10_isWord_1 rfl ?_
  refine g_iconst (v := 1) hk dX10_isWord_4 (by decide) ?_
  have b724l := Int32.le_toInt (I 1)
  have b724h := Int32.toInt_lt (I 1)
  refine g_icmp_ne (tgt := 19) (a := (I 1).toInt) (b := 1) hk dX10_isWord_5 (by decide) rfl rfl (fun c725 => ?_) (fun c725 => ?_)
  · skip
    replace hF := FE.pos hF c725
    refine g_iconst (v := 0) hk dX10_isWord_19 (by decide) ?_
    exact g_iret hk hR rfl (Or.inl ⟨hF, rfl, rfl⟩) dX10_isWord_20
  · skip
    replace hF := FE.neg hF c725
    refine g_aload_n hk dX10_isWord_8 rfl ?_
    refine g_callV (n := 0) hk (k135_X10_lengthAtHand l D zt q d I A  hIv) (SP.same _) (fun _ h => h) (gi_V (List.mem_cons_of_mem _ (List.mem_append_left _ (List.mem_of_getElem? (i := 1) rfl))) (List.mem_cons_of_mem _ (List.mem_append_left _ (List.mem_of_getElem? (i := 2) rfl))) (List.mem_cons_of_mem _ (List.mem_append_left _ (List.mem_of_getElem? (i := 3) rfl))) (List.mem_cons_of_mem _ (List.mem_append_left _ (List.mem_of_getElem? (i := 4) rfl))) (gi_sub (fun w h => (List.mem_cons_of_mem _ (List.mem_append_right _ (List.mem_append_right _ (List.mem_append_left _ h))))) zg_k135_X10_lengthAtHand)) rfl rfl rfl (by decide +kernel) ⟨Nat.le_of_ble_eq_true rfl, Nat.le_of_ble_eq_true rfl⟩ 1 rfl rfl rfl rfl (Nat.le_of_ble_eq_true rfl) ⟨Nat.le_of_ble_eq_true rfl, Nat.le_of_ble_eq_true rfl⟩ dX10_isWord_9 (fun v ty' w' hp hk' => ?_)
    obtain ⟨y730, hC, rfl, rfl⟩ := hp
    replace hF := FE.lt hF (fe_s hC)
    show GW κ 3 0 0 (wX q d I A) 12 [(0, .ref (q 1)), (1, .ref (zt.2.2.2.1 i))] [.int y730]
    refine g_aload_n hk dX10_isWord_12 rfl ?_
    refine g_callVS (n := 0) i hi hk (k136_J0_length_8abf5 l D zt i hi q d I A  hIv) (SP.same _) (fun _ h => h) (gi_V (List.mem_cons_of_mem _ (List.mem_append_left _ (List.mem_of_getElem? (i := 5) rfl))) (List.mem_cons_of_mem _ (List.mem_append_left _ (List.mem_of_getElem? (i := 6) rfl))) (List.mem_cons_of_mem _ (List.mem_append_left _ (List.mem_of_getElem? (i := 7) rfl))) (List.mem_cons_of_mem _ (List.mem_append_left _ (List.mem_of_getElem? (i := 8) rfl))) (gi_sub (fun w h => (List.mem_cons_of_mem _ (List.mem_append_right _ (List.mem_append_right _ (List.mem_append_right _ (List.mem_append_left _ h)))))) zg_k136_J0_length_8abf5)) rfl rfl rfl (by decide +kernel) ⟨Nat.le_of_ble_eq_true rfl, Nat.le_of_ble_eq_true rfl⟩ rfl rfl (Nat.le_of_ble_eq_true rfl) ⟨Nat.le_of_ble_eq_true rfl, Nat.le_of_ble_eq_true rfl⟩ dX10_isWord_13 (fun v ty' w' hp hk' => ?_)
    obtain ⟨rfl, rfl⟩ := hp
    have f733 := lenS_le i hi
    show GW κ 3 0 0 (wX q d I A) 16 [(0, .ref (q 1)), (1, .ref (zt.2.2.2.1 i))] [.int (nI (lenS.getD i 0)), .int y730]
    have b734l := Int32.le_toInt y730
    have b734h := Int32.toInt_lt y730
    refine g_icmp_eq (tgt := 21) (a := y730.toInt) (b := (nI (lenS.getD i 0)).toInt) hk dX10_isWord_16 (by decide) rfl rfl (fun c735 => ?_) (fun c735 => ?_)
    · skip
      replace hF := FE.pos hF c735
      refine g_iconst (v := 0) hk dX10_isWord_21 (by decide) ?_
      refine g_istore_n (lv' := [(2, .int 0), (0, .ref (q 1)), (1, .ref (zt.2.2.2.1 i))]) hk dX10_isWord_22 (by decide) rfl ?_
      have lp796 : ∀ (n797 : Nat) (x736 : Int32), (0 ≤ x736.toInt) → (x736.toInt ≤ 6) → (7 - x736.toInt < (n797 : Int)) → (0 < n797) → (FE (fX10_isWord i I A) (itr_i (0 : Int32) (bX10_isWord_23 i I A) n797 x736)) → GW κ 3 0 0 (wX q d I A) 23 [(2, .int x736), (0, .ref (q 1)), (1, .ref (zt.2.2.2.1 i))] [] := by
        intro n797
        induction n797 with
        | zero =>
          intro x736 h794 h795 m798 m798z hF
          exact absurd m798z (Nat.lt_irrefl 0)
        | succ n797 ih800 =>
          intro x736 h794 h795 m798 m798z hF
          replace hF := FE.itr_i hF
          refine g_iload_n hk dX10_isWord_23 rfl ?_
          refine g_aload_n hk dX10_isWord_24 rfl ?_
          refine g_callVS (n := 0) i hi hk (k136_J0_length_8abf5 l D zt i hi q d I A  hIv) (SP.same _) (fun _ h => h) (gi_V (List.mem_cons_of_mem _ (List.mem_append_left _ (List.mem_of_getElem? (i := 5) rfl))) (List.mem_cons_of_mem _ (List.mem_append_left _ (List.mem_of_getElem? (i := 6) rfl))) (List.mem_cons_of_mem _ (List.mem_append_left _ (List.mem_of_getElem? (i := 7) rfl))) (List.mem_cons_of_mem _ (List.mem_append_left _ (List.mem_of_getElem? (i := 8) rfl))) (gi_sub (fun w h => (List.mem_cons_of_mem _ (List.mem_append_right _ (List.mem_append_right _ (List.mem_append_right _ (List.mem_append_left _ h)))))) zg_k136_J0_length_8abf5)) rfl rfl rfl (by decide +kernel) ⟨Nat.le_of_ble_eq_true rfl, Nat.le_of_ble_eq_true rfl⟩ rfl rfl (Nat.le_of_ble_eq_true rfl) ⟨Nat.le_of_ble_eq_true rfl, Nat.le_of_ble_eq_true rfl⟩ dX10_isWord_25 (fun v ty' w' hp hk' => ?_)
          obtain ⟨rfl, rfl⟩ := hp
          show GW κ 3 0 0 (wX q d I A) 28 [(2, .int x736), (0, .ref (q 1)), (1, .ref (zt.2.2.2.1 i))] [.int (nI (lenS.getD i 0)), .int x736]
          refine g_icmp_ge (tgt := 57) (a := x736.toInt) (b := (nI (lenS.getD i 0)).toInt) hk dX10_isWord_28 (by decide) rfl rfl (fun c801 => ?_) (fun c801 => ?_)
          · skip
            replace hF := FE.pos hF c801
            refine g_iconst (v := 1) hk dX10_isWord_57 (by decide) ?_
            exact g_iret hk hR rfl (Or.inr (⟨hF, rfl, rfl⟩)) dX10_isWord_58
          · skip
            replace hF := FE.neg hF c801
            refine g_aload_n hk dX10_isWord_31 rfl ?_
            refine g_aload_n hk dX10_isWord_32 rfl ?_
            refine gX_i2 (v := (I 2)) hk hin10 (List.mem_cons_of_mem _ (List.mem_append_left _ (List.mem_of_getElem? (i := 9) rfl))) dX10_isWord_33 rfl ?_
            refine g_iload_n hk dX10_isWord_36 rfl ?_
            have b802l := Int32.le_toInt (I 2)
            have b802h := Int32.toInt_lt (I 2)
            refine g_iadd hk dX10_isWord_37 ?_
            refine g_topi (fun y803 ey803 => ?_)
            replace hF := FE.lt hF ey803
            refine g_callV (n := 1) hk (k125_X10_byteAt l D zt q d I A y803 hIv) (SP.same _) (fun _ h => h) (gi_V (List.mem_cons_of_mem _ (List.mem_append_left _ (List.mem_of_getElem? (i := 10) rfl))) (List.mem_cons_of_mem _ (List.mem_append_left _ (List.mem_of_getElem? (i := 11) rfl))) (List.mem_cons_of_mem _ (List.mem_append_left _ (List.mem_of_getElem? (i := 12) rfl))) (List.mem_cons_of_mem _ (List.mem_append_left _ (List.mem_of_getElem? (i := 4) rfl))) (gi_sub (fun w h => (List.mem_cons_of_mem _ (List.mem_append_right _ (List.mem_append_right _ (List.mem_append_right _ (List.mem_append_right _ (List.mem_append_left _ h))))))) zg_k125_X10_byteAt)) rfl rfl rfl (by decide +kernel) ⟨Nat.le_of_ble_eq_true rfl, Nat.le_of_ble_eq_true rfl⟩ 1 rfl rfl rfl rfl (Nat.le_of_ble_eq_true rfl) ⟨Nat.le_of_ble_eq_true rfl, Nat.le_of_ble_eq_true rfl⟩ dX10_isWord_38 (fun v ty' w' hp hk' => ?_)
            obtain ⟨y804, hC, rfl, rfl⟩ := hp
            replace hF := FE.lt hF (fe_s hC)
            show GW κ 3 0 0 (wX q d I A) 41 [(2, .int x736), (0, .ref (q 1)), (1, .ref (zt.2.2.2.1 i))] [.int y804]
            refine g_aload_n hk dX10_isWord_41 rfl ?_
            refine g_iload_n hk dX10_isWord_42 rfl ?_
            refine g_callVS (n := 1) i hi hk (k138_J0_charAt_5068e l D zt i hi q d I A x736 hIv ⟨by omega, by omega⟩) (SP.same _) (fun _ h => h) (gi_V (List.mem_cons_of_mem _ (List.mem_append_left _ (List.mem_of_getElem? (i := 13) rfl))) (List.mem_cons_of_mem _ (List.mem_append_left _ (List.mem_of_getElem? (i := 14) rfl))) (List.mem_cons_of_mem _ (List.mem_append_left _ (List.mem_of_getElem? (i := 15) rfl))) (List.mem_cons_of_mem _ (List.mem_append_left _ (List.mem_of_getElem? (i := 8) rfl))) (gi_sub (fun w h => (List.mem_cons_of_mem _ (List.mem_append_right _ (List.mem_append_right _ (List.mem_append_right _ (List.mem_append_right _ (List.mem_append_right _ (List.mem_append_left _ h)))))))) zg_k138_J0_charAt_5068e)) rfl rfl rfl (by decide +kernel) ⟨Nat.le_of_ble_eq_true rfl, Nat.le_of_ble_eq_true rfl⟩ rfl rfl (Nat.le_of_ble_eq_true rfl) ⟨Nat.le_of_ble_eq_true rfl, Nat.le_of_ble_eq_true rfl⟩ dX10_isWord_43 (fun v ty' w' hp hk' => ?_)
            obtain ⟨rfl, rfl⟩ := hp
            show GW κ 3 0 0 (wX q d I A) 46 [(2, .int x736), (0, .ref (q 1)), (1, .ref (zt.2.2.2.1 i))] [.int (((bytS.getD i []).getD x736.toNatClampNeg 0) &&& 255), .int y804]
            have b805l := Int32.le_toInt y804
            have b805h := Int32.toInt_lt y804
            have b806l := Int32.le_toInt (((bytS.getD i []).getD x736.toNatClampNeg 0) &&& 255)
            have b806h := Int32.toInt_lt (((bytS.getD i []).getD x736.toNatClampNeg 0) &&& 255)
            refine g_icmp_eq (tgt := 51) (a := y804.toInt) (b := (((bytS.getD i []).getD x736.toNatClampNeg 0) &&& 255).toInt) hk dX10_isWord_46 (by decide) rfl rfl (fun c807 => ?_) (fun c807 => ?_)
            · skip
              replace hF := FE.pos hF c807
              obtain ⟨y808, ey808⟩ : ∃ y : Int32, y = x736 + Int32.ofInt 1 := ⟨_, rfl⟩
              replace hF := FE.lt hF ey808
              have hy808 : y808.toInt = x736.toInt + 1 := i32_add ey808 rfl (by decide) (by omega) (by omega)
              refine g_iinc (v := y808) (lv' := [(2, .int y808), (0, .ref (q 1)), (1, .ref (zt.2.2.2.1 i))]) hk 0 dX10_isWord_51 rfl ey808.symm (by decide) rfl ?_
              refine g_goto (tgt := 23) hk dX10_isWord_54 (by decide) ?_
              exact g_lv (List.forall_mem_cons.mpr ⟨List.mem_of_getElem? (i := 0) rfl, (List.forall_mem_cons.mpr ⟨List.mem_of_getElem? (i := 1) rfl, (List.forall_mem_cons.mpr ⟨List.mem_of_getElem? (i := 2) rfl, (fun _ h => absurd h List.not_mem_nil)⟩)⟩)⟩) (ih800 y808 (by omega) (by omega) (by omega) (by omega) hF)
            · skip
              replace hF := FE.neg hF c807
              refine g_iconst (v := 0) hk dX10_isWord_49 (by decide) ?_
              exact g_iret hk hR rfl (Or.inl ⟨hF, rfl, rfl⟩) dX10_isWord_50
      have k810 : (0 : Int32).toInt = 0 := rfl
      have n809a : 7 - 0 < (FU : Int) := by have := FU_eq; omega
      have n809b : 0 < FU := by have := FU_eq; omega
      exact lp796 FU 0 (by omega) (by omega) n809a n809b hF
    · skip
      replace hF := FE.neg hF c735
      refine g_iconst (v := 0) hk dX10_isWord_19 (by decide) ?_
      exact g_iret hk hR rfl (Or.inl ⟨hF, rfl, rfl⟩) dX10_isWord_20
noncomputable def fX5_tellAtHand (I : Nat → Int32) (A : Nat → Nat → Int32) : Int32 := if fX10_isWord 1 I A = 0 then if fX10_isWord 2 I A = 0 then if fX10_isWord 3 I A = 0 then if fX10_isWord 4 I A = 0 then if fX10_isWord 5 I A = 0 then if fX10_isWord 6 I A = 0 then (-1) else 3 else 2 else 1 else 0 else 5 else 4
def wo_k133_X5_tellAtHand : List Cond := [Cond.fieldLink RX5 42 "WarpDesk$Reader" "tape" "LWarpDesk$Tape;", Cond.methodLink RX5 108 yX10_isWord, Cond.instanceMethod yX10_isWord, Cond.selects RX10 yX10_isWord yX10_isWord, Cond.initialized RX10]
def wz_k133_X5_tellAtHand : List Cond := .code yX5_tellAtHand cX5_tellAtHand 1 (some .int) :: (wo_k133_X5_tellAtHand ++ (wsX50 ++ (wz_k134_X10_isWord ++ ([] : List Cond))))
theorem zg_k133_X5_tellAtHand : ∀ w ∈ wz_k133_X5_tellAtHand, goodWord w = true := zg_cons rfl (zg_app (by decide +kernel) (zg_app zgU_wsX50 (zg_app zg_k134_X10_isWord zg_nil)))
theorem zi_k133_X5_tellAtHand : ∀ w ∈ wz_k133_X5_tellAtHand, w ∈ lw_tbl := zi_cons zw_591 (zi_app (zi_cons zw_230 (zi_cons zw_593 (zi_cons zw_594 (zi_cons zw_595 (zi_cons zw_104 zi_nil))))) (zi_app inX5 (zi_app zi_k134_X10_isWord zi_nil)))
set_option maxHeartbeats 4000000 in
set_option maxRecDepth 100000 in
theorem k133_X5_tellAtHand (l : Launch) (D : va_G) (zt : Nat × Nat × Nat × (Nat → Nat) × (Nat → Nat)) (q : Nat → Nat) (d : Nat → ClassId) (I : Nat → Int32) (A : Nat → Nat → Int32) (hIv : IvX I A) : GM l D zt (tyX d) yX5_tellAtHand wz_k133_X5_tellAtHand ({ frames := 5, cells := 0, slots := 0, locals := 107 } : Room) [.ref (q 3)] (wX q d I A) (fun v _ w' => ∃ y0 : Int32, ((-1) ≤ y0.toInt) ∧ (y0.toInt ≤ 5) ∧ FE (fX5_tellAtHand I A) y0 ∧ v = some (.int y0) ∧ w' = wX q d I A) 0 0 := by
  refine GM.of (cc := cX5_tellAtHand) (maxL := 1) (ret := (some .int)) (own := RX5) (lv := [(0, .ref (q 3))]) (by decide) rfl rfl (Nat.le_of_ble_eq_true rfl) rfl (fun κ sz hk hR hN => ?_)
  have hin5 : ∀ w ∈ u_ws RX5 TX5 13, w ∈ wz_k133_X5_tellAtHand := fun w h => (List.mem_cons_of_mem _ (List.mem_append_right _ (List.mem_append_left _ h)))
  have hF : FE (fX5_tellAtHand I A) (fX5_tellAtHand I A) := FE.rf
  refine g_aload_n hk dX5_tellAtHand_0 rfl ?_
  refine gX_r3_0 hk hin5 (List.mem_cons_of_mem _ (List.mem_append_left _ (List.mem_of_getElem? (i := 0) rfl))) dX5_tellAtHand_1 ?_
  refine g_ldcS hk 1 (by decide) rfl dX5_tellAtHand_4 ?_
  refine g_callV (n := 1) hk (k134_X10_isWord l D zt 1 (by decide) q d I A  hIv) (SP.same _) (fun _ h => h) (gi_V (List.mem_cons_of_mem _ (List.mem_append_left _ (List.mem_of_getElem? (i := 1) rfl))) (List.mem_cons_of_mem _ (List.mem_append_left _ (List.mem_of_getElem? (i := 2) rfl))) (List.mem_cons_of_mem _ (List.mem_append_left _ (List.mem_of_getElem? (i := 3) rfl))) (List.mem_cons_of_mem _ (List.mem_append_left _ (List.mem_of_getElem? (i := 4) rfl))) (gi_sub (fun w h => (List.mem_cons_of_mem _ (List.mem_append_right _ (List.mem_append_right _ (List.mem_append_left _ h))))) zg_k134_X10_isWord)) rfl rfl rfl (by decide +kernel) ⟨Nat.le_of_ble_eq_true rfl, Nat.le_of_ble_eq_true rfl⟩ 1 rfl rfl rfl rfl (Nat.le_of_ble_eq_true rfl) ⟨Nat.le_of_ble_eq_true rfl, Nat.le_of_ble_eq_true rfl⟩ dX5_tellAtHand_6 (fun v ty' w' hp hk' => ?_)
  rcases hp with ⟨hC, rfl, rfl⟩ | ⟨hC, rfl, rfl⟩
  · skip
    replace hF := FE.pos hF hC
    show GW κ 1 0 0 (wX q d I A) 9 [(0, .ref (q 3))] [.int 0]
    refine g_if_eq (tgt := 14) (a := 0) hk dX5_tellAtHand_9 (by decide) rfl (fun _ => ?_) (fun z9 => absurd (show (0 : Int) = (0 : Int) from by decide) z9)
    refine g_aload_n hk dX5_tellAtHand_14 rfl ?_
    refine gX_r3_0 hk hin5 (List.mem_cons_of_mem _ (List.mem_append_left _ (List.mem_of_getElem? (i := 0) rfl))) dX5_tellAtHand_15 ?_
    refine g_ldcS hk 2 (by decide) rfl dX5_tellAtHand_18 ?_
    refine g_callV (n := 1) hk (k134_X10_isWord l D zt 2 (by decide) q d I A  hIv) (SP.same _) (fun _ h => h) (gi_V (List.mem_cons_of_mem _ (List.mem_append_left _ (List.mem_of_getElem? (i := 1) rfl))) (List.mem_cons_of_mem _ (List.mem_append_left _ (List.mem_of_getElem? (i := 2) rfl))) (List.mem_cons_of_mem _ (List.mem_append_left _ (List.mem_of_getElem? (i := 3) rfl))) (List.mem_cons_of_mem _ (List.mem_append_left _ (List.mem_of_getElem? (i := 4) rfl))) (gi_sub (fun w h => (List.mem_cons_of_mem _ (List.mem_append_right _ (List.mem_append_right _ (List.mem_append_left _ h))))) zg_k134_X10_isWord)) rfl rfl rfl (by decide +kernel) ⟨Nat.le_of_ble_eq_true rfl, Nat.le_of_ble_eq_true rfl⟩ 1 rfl rfl rfl rfl (Nat.le_of_ble_eq_true rfl) ⟨Nat.le_of_ble_eq_true rfl, Nat.le_of_ble_eq_true rfl⟩ dX5_tellAtHand_20 (fun v ty' w' hp hk' => ?_)
    rcases hp with ⟨hC, rfl, rfl⟩ | ⟨hC, rfl, rfl⟩
    · skip
      replace hF := FE.pos hF hC
      show GW κ 1 0 0 (wX q d I A) 23 [(0, .ref (q 3))] [.int 0]
      refine g_if_eq (tgt := 28) (a := 0) hk dX5_tellAtHand_23 (by decide) rfl (fun _ => ?_) (fun z9 => absurd (show (0 : Int) = (0 : Int) from by decide) z9)
      refine g_aload_n hk dX5_tellAtHand_28 rfl ?_
      refine gX_r3_0 hk hin5 (List.mem_cons_of_mem _ (List.mem_append_left _ (List.mem_of_getElem? (i := 0) rfl))) dX5_tellAtHand_29 ?_
      refine g_ldcS hk 3 (by decide) rfl dX5_tellAtHand_32 ?_
      refine g_callV (n := 1) hk (k134_X10_isWord l D zt 3 (by decide) q d I A  hIv) (SP.same _) (fun _ h => h) (gi_V (List.mem_cons_of_mem _ (List.mem_append_left _ (List.mem_of_getElem? (i := 1) rfl))) (List.mem_cons_of_mem _ (List.mem_append_left _ (List.mem_of_getElem? (i := 2) rfl))) (List.mem_cons_of_mem _ (List.mem_append_left _ (List.mem_of_getElem? (i := 3) rfl))) (List.mem_cons_of_mem _ (List.mem_append_left _ (List.mem_of_getElem? (i := 4) rfl))) (gi_sub (fun w h => (List.mem_cons_of_mem _ (List.mem_append_right _ (List.mem_append_right _ (List.mem_append_left _ h))))) zg_k134_X10_isWord)) rfl rfl rfl (by decide +kernel) ⟨Nat.le_of_ble_eq_true rfl, Nat.le_of_ble_eq_true rfl⟩ 1 rfl rfl rfl rfl (Nat.le_of_ble_eq_true rfl) ⟨Nat.le_of_ble_eq_true rfl, Nat.le_of_ble_eq_true rfl⟩ dX5_tellAtHand_34 (fun v ty' w' hp hk' => ?_)
      rcases hp with ⟨hC, rfl, rfl⟩ | ⟨hC, rfl, rfl⟩
      · skip
        replace hF := FE.pos hF hC
        show GW κ 1 0 0 (wX q d I A) 37 [(0, .ref (q 3))] [.int 0]
        refine g_if_eq (tgt := 42) (a := 0) hk dX5_tellAtHand_37 (by decide) rfl (fun _ => ?_) (fun z9 => absurd (show (0 : Int) = (0 : Int) from by decide) z9)
        refine g_aload_n hk dX5_tellAtHand_42 rfl ?_
        refine gX_r3_0 hk hin5 (List.mem_cons_of_mem _ (List.mem_append_left _ (List.mem_of_getElem? (i := 0) rfl))) dX5_tellAtHand_43 ?_
        refine g_ldcS hk 4 (by decide) rfl dX5_tellAtHand_46 ?_
        refine g_callV (n := 1) hk (k134_X10_isWord l D zt 4 (by decide) q d I A  hIv) (SP.same _) (fun _ h => h) (gi_V (List.mem_cons_of_mem _ (List.mem_append_left _ (List.mem_of_getElem? (i := 1) rfl))) (List.mem_cons_of_mem _ (List.mem_append_left _ (List.mem_of_getElem? (i := 2) rfl))) (List.mem_cons_of_mem _ (List.mem_append_left _ (List.mem_of_getElem? (i := 3) rfl))) (List.mem_cons_of_mem _ (List.mem_append_left _ (List.mem_of_getElem? (i := 4) rfl))) (gi_sub (fun w h => (List.mem_cons_of_mem _ (List.mem_append_right _ (List.mem_append_right _ (List.mem_append_left _ h))))) zg_k134_X10_isWord)) rfl rfl rfl (by decide +kernel) ⟨Nat.le_of_ble_eq_true rfl, Nat.le_of_ble_eq_true rfl⟩ 1 rfl rfl rfl rfl (Nat.le_of_ble_eq_true rfl) ⟨Nat.le_of_ble_eq_true rfl, Nat.le_of_ble_eq_true rfl⟩ dX5_tellAtHand_48 (fun v ty' w' hp hk' => ?_)
        rcases hp with ⟨hC, rfl, rfl⟩ | ⟨hC, rfl, rfl⟩
        · skip
          replace hF := FE.pos hF hC
          show GW κ 1 0 0 (wX q d I A) 51 [(0, .ref (q 3))] [.int 0]
          refine g_if_eq (tgt := 56) (a := 0) hk dX5_tellAtHand_51 (by decide) rfl (fun _ => ?_) (fun z9 => absurd (show (0 : Int) = (0 : Int) from by decide) z9)
          refine g_aload_n hk dX5_tellAtHand_56 rfl ?_
          refine gX_r3_0 hk hin5 (List.mem_cons_of_mem _ (List.mem_append_left _ (List.mem_of_getElem? (i := 0) rfl))) dX5_tellAtHand_57 ?_
          refine g_ldcS hk 5 (by decide) rfl dX5_tellAtHand_60 ?_
          refine g_callV (n := 1) hk (k134_X10_isWord l D zt 5 (by decide) q d I A  hIv) (SP.same _) (fun _ h => h) (gi_V (List.mem_cons_of_mem _ (List.mem_append_left _ (List.mem_of_getElem? (i := 1) rfl))) (List.mem_cons_of_mem _ (List.mem_append_left _ (List.mem_of_getElem? (i := 2) rfl))) (List.mem_cons_of_mem _ (List.mem_append_left _ (List.mem_of_getElem? (i := 3) rfl))) (List.mem_cons_of_mem _ (List.mem_append_left _ (List.mem_of_getElem? (i := 4) rfl))) (gi_sub (fun w h => (List.mem_cons_of_mem _ (List.mem_append_right _ (List.mem_append_right _ (List.mem_append_left _ h))))) zg_k134_X10_isWord)) rfl rfl rfl (by decide +kernel) ⟨Nat.le_of_ble_eq_true rfl, Nat.le_of_ble_eq_true rfl⟩ 1 rfl rfl rfl rfl (Nat.le_of_ble_eq_true rfl) ⟨Nat.le_of_ble_eq_true rfl, Nat.le_of_ble_eq_true rfl⟩ dX5_tellAtHand_62 (fun v ty' w' hp hk' => ?_)
          rcases hp with ⟨hC, rfl, rfl⟩ | ⟨hC, rfl, rfl⟩
          · skip
            replace hF := FE.pos hF hC
            show GW κ 1 0 0 (wX q d I A) 65 [(0, .ref (q 3))] [.int 0]
            refine g_if_eq (tgt := 70) (a := 0) hk dX5_tellAtHand_65 (by decide) rfl (fun _ => ?_) (fun z9 => absurd (show (0 : Int) = (0 : Int) from by decide) z9)
            refine g_aload_n hk dX5_tellAtHand_70 rfl ?_
            refine gX_r3_0 hk hin5 (List.mem_cons_of_mem _ (List.mem_append_left _ (List.mem_of_getElem? (i := 0) rfl))) dX5_tellAtHand_71 ?_
            refine g_ldcS hk 6 (by decide) rfl dX5_tellAtHand_74 ?_
            refine g_callV (n := 1) hk (k134_X10_isWord l D zt 6 (by decide) q d I A  hIv) (SP.same _) (fun _ h => h) (gi_V (List.mem_cons_of_mem _ (List.mem_append_left _ (List.mem_of_getElem? (i := 1) rfl))) (List.mem_cons_of_mem _ (List.mem_append_left _ (List.mem_of_getElem? (i := 2) rfl))) (List.mem_cons_of_mem _ (List.mem_append_left _ (List.mem_of_getElem? (i := 3) rfl))) (List.mem_cons_of_mem _ (List.mem_append_left _ (List.mem_of_getElem? (i := 4) rfl))) (gi_sub (fun w h => (List.mem_cons_of_mem _ (List.mem_append_right _ (List.mem_append_right _ (List.mem_append_left _ h))))) zg_k134_X10_isWord)) rfl rfl rfl (by decide +kernel) ⟨Nat.le_of_ble_eq_true rfl, Nat.le_of_ble_eq_true rfl⟩ 1 rfl rfl rfl rfl (Nat.le_of_ble_eq_true rfl) ⟨Nat.le_of_ble_eq_true rfl, Nat.le_of_ble_eq_true rfl⟩ dX5_tellAtHand_76 (fun v ty' w' hp hk' => ?_)
            rcases hp with ⟨hC, rfl, rfl⟩ | ⟨hC, rfl, rfl⟩
            · skip
              replace hF := FE.pos hF hC
              show GW κ 1 0 0 (wX q d I A) 79 [(0, .ref (q 3))] [.int 0]
              refine g_if_eq (tgt := 86) (a := 0) hk dX5_tellAtHand_79 (by decide) rfl (fun _ => ?_) (fun z9 => absurd (show (0 : Int) = (0 : Int) from by decide) z9)
              refine g_iconst (v := (-1)) hk dX5_tellAtHand_86 (by decide) ?_
              exact g_iret hk hR rfl ⟨(-1), (by decide), (by decide), hF, rfl, rfl⟩ dX5_tellAtHand_87
            · skip
              replace hF := FE.neg hF (fe_ne hC (by decide))
              show GW κ 1 0 0 (wX q d I A) 79 [(0, .ref (q 3))] [.int 1]
              refine g_if_eq (tgt := 86) (a := 1) hk dX5_tellAtHand_79 (by decide) rfl (fun z9 => absurd z9 (show ¬ ((1 : Int) = (0 : Int)) from by decide)) (fun _ => ?_)
              refine g_iconst (v := 3) hk dX5_tellAtHand_82 (by decide) ?_
              refine g_goto (tgt := 87) hk dX5_tellAtHand_83 (by decide) ?_
              exact g_iret hk hR rfl ⟨3, (by decide), (by decide), hF, rfl, rfl⟩ dX5_tellAtHand_87
          · skip
            replace hF := FE.neg hF (fe_ne hC (by decide))
            show GW κ 1 0 0 (wX q d I A) 65 [(0, .ref (q 3))] [.int 1]
            refine g_if_eq (tgt := 70) (a := 1) hk dX5_tellAtHand_65 (by decide) rfl (fun z9 => absurd z9 (show ¬ ((1 : Int) = (0 : Int)) from by decide)) (fun _ => ?_)
            refine g_iconst (v := 2) hk dX5_tellAtHand_68 (by decide) ?_
            exact g_iret hk hR rfl ⟨2, (by decide), (by decide), hF, rfl, rfl⟩ dX5_tellAtHand_69
        · skip
          replace hF := FE.neg hF (fe_ne hC (by decide))
          show GW κ 1 0 0 (wX q d I A) 51 [(0, .ref (q 3))] [.int 1]
          refine g_if_eq (tgt := 56) (a := 1) hk dX5_tellAtHand_51 (by decide) rfl (fun z9 => absurd z9 (show ¬ ((1 : Int) = (0 : Int)) from by decide)) (fun _ => ?_)
          refine g_iconst (v := 1) hk dX5_tellAtHand_54 (by decide) ?_
          exact g_iret hk hR rfl ⟨1, (by decide), (by decide), hF, rfl, rfl⟩ dX5_tellAtHand_55
      · skip
        replace hF := FE.neg hF (fe_ne hC (by decide))
        show GW κ 1 0 0 (wX q d I A) 37 [(0, .ref (q 3))] [.int 1]
        refine g_if_eq (tgt := 42) (a := 1) hk dX5_tellAtHand_37 (by decide) rfl (fun z9 => absurd z9 (show ¬ ((1 : Int) = (0 : Int)) from by decide)) (fun _ => ?_)
        refine g_iconst (v := 0) hk dX5_tellAtHand_40 (by decide) ?_
        exact g_iret hk hR rfl ⟨0, (by decide), (by decide), hF, rfl, rfl⟩ dX5_tellAtHand_41
    · skip
      replace hF := FE.neg hF (fe_ne hC (by decide))
      show GW κ 1 0 0 (wX q d I A) 23 [(0, .ref (q 3))] [.int 1]
      refine g_if_eq (tgt := 28) (a := 1) hk dX5_tellAtHand_23 (by decide) rfl (fun z9 => absurd z9 (show ¬ ((1 : Int) = (0 : Int)) from by decide)) (fun _ => ?_)
      refine g_iconst (v := 5) hk dX5_tellAtHand_26 (by decide) ?_
      exact g_iret hk hR rfl ⟨5, (by decide), (by decide), hF, rfl, rfl⟩ dX5_tellAtHand_27
  · skip
    replace hF := FE.neg hF (fe_ne hC (by decide))
    show GW κ 1 0 0 (wX q d I A) 9 [(0, .ref (q 3))] [.int 1]
    refine g_if_eq (tgt := 14) (a := 1) hk dX5_tellAtHand_9 (by decide) rfl (fun z9 => absurd z9 (show ¬ ((1 : Int) = (0 : Int)) from by decide)) (fun _ => ?_)
    refine g_iconst (v := 4) hk dX5_tellAtHand_12 (by decide) ?_
    exact g_iret hk hR rfl ⟨4, (by decide), (by decide), hF, rfl, rfl⟩ dX5_tellAtHand_13
noncomputable def fX5_mayStandInRow (I : Nat → Int32) (A : Nat → Nat → Int32) : Int32 := if (I 1).toInt ≠ 2 then if (I 8).toInt ≠ 0 then 0 else if (I 1).toInt = 4 then 1 else if (I 1).toInt ≠ 3 then 0 else 1 else 1
def wo_k144_X5_mayStandInRow : List Cond := [Cond.fieldLink RX5 42 "WarpDesk$Reader" "tape" "LWarpDesk$Tape;", Cond.fieldLink RX5 53 "WarpDesk$Tape" "kind" "I", Cond.fieldLink RX5 87 "WarpDesk$Reader" "isNegative" "Z"]
def wz_k144_X5_mayStandInRow : List Cond := .code yX5_mayStandInRow cX5_mayStandInRow 1 (some .boolean) :: (wo_k144_X5_mayStandInRow ++ (wsX50 ++ (wsX100 ++ ([] : List Cond))))
theorem zg_k144_X5_mayStandInRow : ∀ w ∈ wz_k144_X5_mayStandInRow, goodWord w = true := zg_cons rfl (zg_app (by decide +kernel) (zg_app zgU_wsX50 (zg_app zgU_wsX100 zg_nil)))
theorem zi_k144_X5_mayStandInRow : ∀ w ∈ wz_k144_X5_mayStandInRow, w ∈ lw_tbl := zi_cons zw_657 (zi_app (zi_cons zw_230 (zi_cons zw_138 (zi_cons zw_239 zi_nil))) (zi_app inX5 (zi_app inX10 zi_nil)))
set_option maxHeartbeats 4000000 in
set_option maxRecDepth 100000 in
theorem k144_X5_mayStandInRow (l : Launch) (D : va_G) (zt : Nat × Nat × Nat × (Nat → Nat) × (Nat → Nat)) (q : Nat → Nat) (d : Nat → ClassId) (I : Nat → Int32) (A : Nat → Nat → Int32) (hIv : IvX I A) : GM l D zt (tyX d) yX5_mayStandInRow wz_k144_X5_mayStandInRow ({ frames := 0, cells := 0, slots := 0, locals := 0 } : Room) [.ref (q 3)] (wX q d I A) (fun v _ w' => (FE (fX5_mayStandInRow I A) (0) ∧ v = some (.int 0) ∧ w' = wX q d I A) ∨ (FE (fX5_mayStandInRow I A) (1) ∧ v = some (.int 1) ∧ w' = wX q d I A)) 0 0 := by
  refine GM.of (cc := cX5_mayStandInRow) (maxL := 1) (ret := (some .boolean)) (own := RX5) (lv := [(0, .ref (q 3))]) (by decide) rfl rfl (Nat.le_of_ble_eq_true rfl) rfl (fun κ sz hk hR hN => ?_)
  have hin5 : ∀ w ∈ u_ws RX5 TX5 13, w ∈ wz_k144_X5_mayStandInRow := fun w h => (List.mem_cons_of_mem _ (List.mem_append_right _ (List.mem_append_left _ h)))
  have hin10 : ∀ w ∈ u_ws RX10 TX10 7, w ∈ wz_k144_X5_mayStandInRow := fun w h => (List.mem_cons_of_mem _ (List.mem_append_right _ (List.mem_append_right _ (List.mem_append_left _ h))))
  have hF : FE (fX5_mayStandInRow I A) (fX5_mayStandInRow I A) := FE.rf
  refine g_aload_n hk dX5_mayStandInRow_0 rfl ?_
  refine gX_r3_0 hk hin5 (List.mem_cons_of_mem _ (List.mem_append_left _ (List.mem_of_getElem? (i := 0) rfl))) dX5_mayStandInRow_1 ?_
  refine gX_i1 (v := (I 1)) hk hin10 (List.mem_cons_of_mem _ (List.mem_append_left _ (List.mem_of_getElem? (i := 1) rfl))) dX5_mayStandInRow_4 rfl ?_
  refine g_iconst (v := 2) hk dX5_mayStandInRow_7 (by decide) ?_
  have b828l := Int32.le_toInt (I 1)
  have b828h := Int32.toInt_lt (I 1)
  refine g_icmp_ne (tgt := 13) (a := (I 1).toInt) (b := 2) hk dX5_mayStandInRow_8 (by decide) rfl rfl (fun c829 => ?_) (fun c829 => ?_)
  · skip
    replace hF := FE.pos hF c829
    refine g_aload_n hk dX5_mayStandInRow_13 rfl ?_
    refine gX_i8 (v := (I 8)) hk hin5 (List.mem_cons_of_mem _ (List.mem_append_left _ (List.mem_of_getElem? (i := 2) rfl))) dX5_mayStandInRow_14 rfl ?_
    have b830l := Int32.le_toInt (I 8)
    have b830h := Int32.toInt_lt (I 8)
    refine g_if_ne (tgt := 46) (a := (I 8).toInt) hk dX5_mayStandInRow_17 (by decide) rfl (fun c831 => ?_) (fun c831 => ?_)
    · skip
      replace hF := FE.pos hF c831
      refine g_iconst (v := 0) hk dX5_mayStandInRow_46 (by decide) ?_
      exact g_iret hk hR rfl (Or.inl ⟨hF, rfl, rfl⟩) dX5_mayStandInRow_47
    · skip
      replace hF := FE.neg hF c831
      refine g_aload_n hk dX5_mayStandInRow_20 rfl ?_
      refine gX_r3_0 hk hin5 (List.mem_cons_of_mem _ (List.mem_append_left _ (List.mem_of_getElem? (i := 0) rfl))) dX5_mayStandInRow_21 ?_
      refine gX_i1 (v := (I 1)) hk hin10 (List.mem_cons_of_mem _ (List.mem_append_left _ (List.mem_of_getElem? (i := 1) rfl))) dX5_mayStandInRow_24 rfl ?_
      refine g_iconst (v := 4) hk dX5_mayStandInRow_27 (by decide) ?_
      refine g_icmp_eq (tgt := 42) (a := (I 1).toInt) (b := 4) hk dX5_mayStandInRow_28 (by decide) rfl rfl (fun c832 => ?_) (fun c832 => ?_)
      · skip
        replace hF := FE.pos hF c832
        refine g_iconst (v := 1) hk dX5_mayStandInRow_42 (by decide) ?_
        refine g_goto (tgt := 47) hk dX5_mayStandInRow_43 (by decide) ?_
        exact g_iret hk hR rfl (Or.inr (⟨hF, rfl, rfl⟩)) dX5_mayStandInRow_47
      · skip
        replace hF := FE.neg hF c832
        refine g_aload_n hk dX5_mayStandInRow_31 rfl ?_
        refine gX_r3_0 hk hin5 (List.mem_cons_of_mem _ (List.mem_append_left _ (List.mem_of_getElem? (i := 0) rfl))) dX5_mayStandInRow_32 ?_
        refine gX_i1 (v := (I 1)) hk hin10 (List.mem_cons_of_mem _ (List.mem_append_left _ (List.mem_of_getElem? (i := 1) rfl))) dX5_mayStandInRow_35 rfl ?_
        refine g_iconst (v := 3) hk dX5_mayStandInRow_38 (by decide) ?_
        refine g_icmp_ne (tgt := 46) (a := (I 1).toInt) (b := 3) hk dX5_mayStandInRow_39 (by decide) rfl rfl (fun c833 => ?_) (fun c833 => ?_)
        · skip
          replace hF := FE.pos hF c833
          refine g_iconst (v := 0) hk dX5_mayStandInRow_46 (by decide) ?_
          exact g_iret hk hR rfl (Or.inl ⟨hF, rfl, rfl⟩) dX5_mayStandInRow_47
        · skip
          replace hF := FE.neg hF c833
          refine g_iconst (v := 1) hk dX5_mayStandInRow_42 (by decide) ?_
          refine g_goto (tgt := 47) hk dX5_mayStandInRow_43 (by decide) ?_
          exact g_iret hk hR rfl (Or.inr (⟨hF, rfl, rfl⟩)) dX5_mayStandInRow_47
  · skip
    replace hF := FE.neg hF c829
    refine g_iconst (v := 1) hk dX5_mayStandInRow_11 (by decide) ?_
    exact g_iret hk hR rfl (Or.inr (⟨hF, rfl, rfl⟩)) dX5_mayStandInRow_12
noncomputable def fX5_levelAtHand (I : Nat → Int32) (A : Nat → Nat → Int32) : Int32 := if fX10_isWord 7 I A = 0 then if fX10_isWord 8 I A = 0 then if fX10_isWord 9 I A = 0 then if fX10_isWord 10 I A = 0 then (-1) else 3 else 2 else 1 else 0
def wz_k146_X5_levelAtHand : List Cond := .code yX5_levelAtHand cX5_levelAtHand 1 (some .int) :: (wo_k133_X5_tellAtHand ++ (wsX50 ++ (wz_k134_X10_isWord ++ ([] : List Cond))))
theorem zg_k146_X5_levelAtHand : ∀ w ∈ wz_k146_X5_levelAtHand, goodWord w = true := zg_cons rfl (zg_app (by decide +kernel) (zg_app zgU_wsX50 (zg_app zg_k134_X10_isWord zg_nil)))
theorem zi_k146_X5_levelAtHand : ∀ w ∈ wz_k146_X5_levelAtHand, w ∈ lw_tbl := zi_cons zw_666 (zi_app (zi_cons zw_230 (zi_cons zw_593 (zi_cons zw_594 (zi_cons zw_595 (zi_cons zw_104 zi_nil))))) (zi_app inX5 (zi_app zi_k134_X10_isWord zi_nil)))
set_option maxHeartbeats 4000000 in
set_option maxRecDepth 100000 in
theorem k146_X5_levelAtHand (l : Launch) (D : va_G) (zt : Nat × Nat × Nat × (Nat → Nat) × (Nat → Nat)) (q : Nat → Nat) (d : Nat → ClassId) (I : Nat → Int32) (A : Nat → Nat → Int32) (hIv : IvX I A) : GM l D zt (tyX d) yX5_levelAtHand wz_k146_X5_levelAtHand ({ frames := 5, cells := 0, slots := 0, locals := 107 } : Room) [.ref (q 3)] (wX q d I A) (fun v _ w' => ∃ y0 : Int32, ((-1) ≤ y0.toInt) ∧ (y0.toInt ≤ 3) ∧ FE (fX5_levelAtHand I A) y0 ∧ v = some (.int y0) ∧ w' = wX q d I A) 0 0 := by
  refine GM.of (cc := cX5_levelAtHand) (maxL := 1) (ret := (some .int)) (own := RX5) (lv := [(0, .ref (q 3))]) (by decide) rfl rfl (Nat.le_of_ble_eq_true rfl) rfl (fun κ sz hk hR hN => ?_)
  have hin5 : ∀ w ∈ u_ws RX5 TX5 13, w ∈ wz_k146_X5_levelAtHand := fun w h => (List.mem_cons_of_mem _ (List.mem_append_right _ (List.mem_append_left _ h)))
  have hF : FE (fX5_levelAtHand I A) (fX5_levelAtHand I A) := FE.rf
  refine g_aload_n hk dX5_levelAtHand_0 rfl ?_
  refine gX_r3_0 hk hin5 (List.mem_cons_of_mem _ (List.mem_append_left _ (List.mem_of_getElem? (i := 0) rfl))) dX5_levelAtHand_1 ?_
  refine g_ldcS hk 7 (by decide) rfl dX5_levelAtHand_4 ?_
  refine g_callV (n := 1) hk (k134_X10_isWord l D zt 7 (by decide) q d I A  hIv) (SP.same _) (fun _ h => h) (gi_V (List.mem_cons_of_mem _ (List.mem_append_left _ (List.mem_of_getElem? (i := 1) rfl))) (List.mem_cons_of_mem _ (List.mem_append_left _ (List.mem_of_getElem? (i := 2) rfl))) (List.mem_cons_of_mem _ (List.mem_append_left _ (List.mem_of_getElem? (i := 3) rfl))) (List.mem_cons_of_mem _ (List.mem_append_left _ (List.mem_of_getElem? (i := 4) rfl))) (gi_sub (fun w h => (List.mem_cons_of_mem _ (List.mem_append_right _ (List.mem_append_right _ (List.mem_append_left _ h))))) zg_k134_X10_isWord)) rfl rfl rfl (by decide +kernel) ⟨Nat.le_of_ble_eq_true rfl, Nat.le_of_ble_eq_true rfl⟩ 1 rfl rfl rfl rfl (Nat.le_of_ble_eq_true rfl) ⟨Nat.le_of_ble_eq_true rfl, Nat.le_of_ble_eq_true rfl⟩ dX5_levelAtHand_6 (fun v ty' w' hp hk' => ?_)
  rcases hp with ⟨hC, rfl, rfl⟩ | ⟨hC, rfl, rfl⟩
  · skip
    replace hF := FE.pos hF hC
    show GW κ 1 0 0 (wX q d I A) 9 [(0, .ref (q 3))] [.int 0]
    refine g_if_eq (tgt := 14) (a := 0) hk dX5_levelAtHand_9 (by decide) rfl (fun _ => ?_) (fun z9 => absurd (show (0 : Int) = (0 : Int) from by decide) z9)
    refine g_aload_n hk dX5_levelAtHand_14 rfl ?_
    refine gX_r3_0 hk hin5 (List.mem_cons_of_mem _ (List.mem_append_left _ (List.mem_of_getElem? (i := 0) rfl))) dX5_levelAtHand_15 ?_
    refine g_ldcS hk 8 (by decide) rfl dX5_levelAtHand_18 ?_
    refine g_callV (n := 1) hk (k134_X10_isWord l D zt 8 (by decide) q d I A  hIv) (SP.same _) (fun _ h => h) (gi_V (List.mem_cons_of_mem _ (List.mem_append_left _ (List.mem_of_getElem? (i := 1) rfl))) (List.mem_cons_of_mem _ (List.mem_append_left _ (List.mem_of_getElem? (i := 2) rfl))) (List.mem_cons_of_mem _ (List.mem_append_left _ (List.mem_of_getElem? (i := 3) rfl))) (List.mem_cons_of_mem _ (List.mem_append_left _ (List.mem_of_getElem? (i := 4) rfl))) (gi_sub (fun w h => (List.mem_cons_of_mem _ (List.mem_append_right _ (List.mem_append_right _ (List.mem_append_left _ h))))) zg_k134_X10_isWord)) rfl rfl rfl (by decide +kernel) ⟨Nat.le_of_ble_eq_true rfl, Nat.le_of_ble_eq_true rfl⟩ 1 rfl rfl rfl rfl (Nat.le_of_ble_eq_true rfl) ⟨Nat.le_of_ble_eq_true rfl, Nat.le_of_ble_eq_true rfl⟩ dX5_levelAtHand_20 (fun v ty' w' hp hk' => ?_)
    rcases hp with ⟨hC, rfl, rfl⟩ | ⟨hC, rfl, rfl⟩
    · skip
      replace hF := FE.pos hF hC
      show GW κ 1 0 0 (wX q d I A) 23 [(0, .ref (q 3))] [.int 0]
      refine g_if_eq (tgt := 28) (a := 0) hk dX5_levelAtHand_23 (by decide) rfl (fun _ => ?_) (fun z9 => absurd (show (0 : Int) = (0 : Int) from by decide) z9)
      refine g_aload_n hk dX5_levelAtHand_28 rfl ?_
      refine gX_r3_0 hk hin5 (List.mem_cons_of_mem _ (List.mem_append_left _ (List.mem_of_getElem? (i := 0) rfl))) dX5_levelAtHand_29 ?_
      refine g_ldcS hk 9 (by decide) rfl dX5_levelAtHand_32 ?_
      refine g_callV (n := 1) hk (k134_X10_isWord l D zt 9 (by decide) q d I A  hIv) (SP.same _) (fun _ h => h) (gi_V (List.mem_cons_of_mem _ (List.mem_append_left _ (List.mem_of_getElem? (i := 1) rfl))) (List.mem_cons_of_mem _ (List.mem_append_left _ (List.mem_of_getElem? (i := 2) rfl))) (List.mem_cons_of_mem _ (List.mem_append_left _ (List.mem_of_getElem? (i := 3) rfl))) (List.mem_cons_of_mem _ (List.mem_append_left _ (List.mem_of_getElem? (i := 4) rfl))) (gi_sub (fun w h => (List.mem_cons_of_mem _ (List.mem_append_right _ (List.mem_append_right _ (List.mem_append_left _ h))))) zg_k134_X10_isWord)) rfl rfl rfl (by decide +kernel) ⟨Nat.le_of_ble_eq_true rfl, Nat.le_of_ble_eq_true rfl⟩ 1 rfl rfl rfl rfl (Nat.le_of_ble_eq_true rfl) ⟨Nat.le_of_ble_eq_true rfl, Nat.le_of_ble_eq_true rfl⟩ dX5_levelAtHand_34 (fun v ty' w' hp hk' => ?_)
      rcases hp with ⟨hC, rfl, rfl⟩ | ⟨hC, rfl, rfl⟩
      · skip
        replace hF := FE.pos hF hC
        show GW κ 1 0 0 (wX q d I A) 37 [(0, .ref (q 3))] [.int 0]
        refine g_if_eq (tgt := 42) (a := 0) hk dX5_levelAtHand_37 (by decide) rfl (fun _ => ?_) (fun z9 => absurd (show (0 : Int) = (0 : Int) from by decide) z9)
        refine g_aload_n hk dX5_levelAtHand_42 rfl ?_
        refine gX_r3_0 hk hin5 (List.mem_cons_of_mem _ (List.mem_append_left _ (List.mem_of_getElem? (i := 0) rfl))) dX5_levelAtHand_43 ?_
        refine g_ldcS hk 10 (by decide) rfl dX5_levelAtHand_46 ?_
        refine g_callV (n := 1) hk (k134_X10_isWord l D zt 10 (by decide) q d I A  hIv) (SP.same _) (fun _ h => h) (gi_V (List.mem_cons_of_mem _ (List.mem_append_left _ (List.mem_of_getElem? (i := 1) rfl))) (List.mem_cons_of_mem _ (List.mem_append_left _ (List.mem_of_getElem? (i := 2) rfl))) (List.mem_cons_of_mem _ (List.mem_append_left _ (List.mem_of_getElem? (i := 3) rfl))) (List.mem_cons_of_mem _ (List.mem_append_left _ (List.mem_of_getElem? (i := 4) rfl))) (gi_sub (fun w h => (List.mem_cons_of_mem _ (List.mem_append_right _ (List.mem_append_right _ (List.mem_append_left _ h))))) zg_k134_X10_isWord)) rfl rfl rfl (by decide +kernel) ⟨Nat.le_of_ble_eq_true rfl, Nat.le_of_ble_eq_true rfl⟩ 1 rfl rfl rfl rfl (Nat.le_of_ble_eq_true rfl) ⟨Nat.le_of_ble_eq_true rfl, Nat.le_of_ble_eq_true rfl⟩ dX5_levelAtHand_48 (fun v ty' w' hp hk' => ?_)
        rcases hp with ⟨hC, rfl, rfl⟩ | ⟨hC, rfl, rfl⟩
        · skip
          replace hF := FE.pos hF hC
          show GW κ 1 0 0 (wX q d I A) 51 [(0, .ref (q 3))] [.int 0]
          refine g_if_eq (tgt := 58) (a := 0) hk dX5_levelAtHand_51 (by decide) rfl (fun _ => ?_) (fun z9 => absurd (show (0 : Int) = (0 : Int) from by decide) z9)
          refine g_iconst (v := (-1)) hk dX5_levelAtHand_58 (by decide) ?_
          exact g_iret hk hR rfl ⟨(-1), (by decide), (by decide), hF, rfl, rfl⟩ dX5_levelAtHand_59
        · skip
          replace hF := FE.neg hF (fe_ne hC (by decide))
          show GW κ 1 0 0 (wX q d I A) 51 [(0, .ref (q 3))] [.int 1]
          refine g_if_eq (tgt := 58) (a := 1) hk dX5_levelAtHand_51 (by decide) rfl (fun z9 => absurd z9 (show ¬ ((1 : Int) = (0 : Int)) from by decide)) (fun _ => ?_)
          refine g_iconst (v := 3) hk dX5_levelAtHand_54 (by decide) ?_
          refine g_goto (tgt := 59) hk dX5_levelAtHand_55 (by decide) ?_
          exact g_iret hk hR rfl ⟨3, (by decide), (by decide), hF, rfl, rfl⟩ dX5_levelAtHand_59
      · skip
        replace hF := FE.neg hF (fe_ne hC (by decide))
        show GW κ 1 0 0 (wX q d I A) 37 [(0, .ref (q 3))] [.int 1]
        refine g_if_eq (tgt := 42) (a := 1) hk dX5_levelAtHand_37 (by decide) rfl (fun z9 => absurd z9 (show ¬ ((1 : Int) = (0 : Int)) from by decide)) (fun _ => ?_)
        refine g_iconst (v := 2) hk dX5_levelAtHand_40 (by decide) ?_
        exact g_iret hk hR rfl ⟨2, (by decide), (by decide), hF, rfl, rfl⟩ dX5_levelAtHand_41
    · skip
      replace hF := FE.neg hF (fe_ne hC (by decide))
      show GW κ 1 0 0 (wX q d I A) 23 [(0, .ref (q 3))] [.int 1]
      refine g_if_eq (tgt := 28) (a := 1) hk dX5_levelAtHand_23 (by decide) rfl (fun z9 => absurd z9 (show ¬ ((1 : Int) = (0 : Int)) from by decide)) (fun _ => ?_)
      refine g_iconst (v := 1) hk dX5_levelAtHand_26 (by decide) ?_
      exact g_iret hk hR rfl ⟨1, (by decide), (by decide), hF, rfl, rfl⟩ dX5_levelAtHand_27
  · skip
    replace hF := FE.neg hF (fe_ne hC (by decide))
    show GW κ 1 0 0 (wX q d I A) 9 [(0, .ref (q 3))] [.int 1]
    refine g_if_eq (tgt := 14) (a := 1) hk dX5_levelAtHand_9 (by decide) rfl (fun z9 => absurd z9 (show ¬ ((1 : Int) = (0 : Int)) from by decide)) (fun _ => ?_)
    refine g_iconst (v := 0) hk dX5_levelAtHand_12 (by decide) ?_
    exact g_iret hk hR rfl ⟨0, (by decide), (by decide), hF, rfl, rfl⟩ dX5_levelAtHand_13
noncomputable def fX5_costAtHand (I : Nat → Int32) (A : Nat → Nat → Int32) : Int32 := if fX10_isWord 11 I A = 0 then if fX10_isWord 12 I A = 0 then (-1) else 1 else 0
def wz_k147_X5_costAtHand : List Cond := .code yX5_costAtHand cX5_costAtHand 1 (some .int) :: (wo_k133_X5_tellAtHand ++ (wsX50 ++ (wz_k134_X10_isWord ++ ([] : List Cond))))
theorem zg_k147_X5_costAtHand : ∀ w ∈ wz_k147_X5_costAtHand, goodWord w = true := zg_cons rfl (zg_app (by decide +kernel) (zg_app zgU_wsX50 (zg_app zg_k134_X10_isWord zg_nil)))
theorem zi_k147_X5_costAtHand : ∀ w ∈ wz_k147_X5_costAtHand, w ∈ lw_tbl := zi_cons zw_674 (zi_app (zi_cons zw_230 (zi_cons zw_593 (zi_cons zw_594 (zi_cons zw_595 (zi_cons zw_104 zi_nil))))) (zi_app inX5 (zi_app zi_k134_X10_isWord zi_nil)))
set_option maxHeartbeats 4000000 in
set_option maxRecDepth 100000 in
theorem k147_X5_costAtHand (l : Launch) (D : va_G) (zt : Nat × Nat × Nat × (Nat → Nat) × (Nat → Nat)) (q : Nat → Nat) (d : Nat → ClassId) (I : Nat → Int32) (A : Nat → Nat → Int32) (hIv : IvX I A) : GM l D zt (tyX d) yX5_costAtHand wz_k147_X5_costAtHand ({ frames := 5, cells := 0, slots := 0, locals := 107 } : Room) [.ref (q 3)] (wX q d I A) (fun v _ w' => (FE (fX5_costAtHand I A) ((-1)) ∧ v = some (.int (-1)) ∧ w' = wX q d I A) ∨ (FE (fX5_costAtHand I A) (0) ∧ v = some (.int 0) ∧ w' = wX q d I A) ∨ (FE (fX5_costAtHand I A) (1) ∧ v = some (.int 1) ∧ w' = wX q d I A)) 0 0 := by
  refine GM.of (cc := cX5_costAtHand) (maxL := 1) (ret := (some .int)) (own := RX5) (lv := [(0, .ref (q 3))]) (by decide) rfl rfl (Nat.le_of_ble_eq_true rfl) rfl (fun κ sz hk hR hN => ?_)
  have hin5 : ∀ w ∈ u_ws RX5 TX5 13, w ∈ wz_k147_X5_costAtHand := fun w h => (List.mem_cons_of_mem _ (List.mem_append_right _ (List.mem_append_left _ h)))
  have hF : FE (fX5_costAtHand I A) (fX5_costAtHand I A) := FE.rf
  refine g_aload_n hk dX5_costAtHand_0 rfl ?_
  refine gX_r3_0 hk hin5 (List.mem_cons_of_mem _ (List.mem_append_left _ (List.mem_of_getElem? (i := 0) rfl))) dX5_costAtHand_1 ?_
  refine g_ldcS hk 11 (by decide) rfl dX5_costAtHand_4 ?_
  refine g_callV (n := 1) hk (k134_X10_isWord l D zt 11 (by decide) q d I A  hIv) (SP.same _) (fun _ h => h) (gi_V (List.mem_cons_of_mem _ (List.mem_append_left _ (List.mem_of_getElem? (i := 1) rfl))) (List.mem_cons_of_mem _ (List.mem_append_left _ (List.mem_of_getElem? (i := 2) rfl))) (List.mem_cons_of_mem _ (List.mem_append_left _ (List.mem_of_getElem? (i := 3) rfl))) (List.mem_cons_of_mem _ (List.mem_append_left _ (List.mem_of_getElem? (i := 4) rfl))) (gi_sub (fun w h => (List.mem_cons_of_mem _ (List.mem_append_right _ (List.mem_append_right _ (List.mem_append_left _ h))))) zg_k134_X10_isWord)) rfl rfl rfl (by decide +kernel) ⟨Nat.le_of_ble_eq_true rfl, Nat.le_of_ble_eq_true rfl⟩ 1 rfl rfl rfl rfl (Nat.le_of_ble_eq_true rfl) ⟨Nat.le_of_ble_eq_true rfl, Nat.le_of_ble_eq_true rfl⟩ dX5_costAtHand_6 (fun v ty' w' hp hk' => ?_)
  rcases hp with ⟨hC, rfl, rfl⟩ | ⟨hC, rfl, rfl⟩
  · skip
    replace hF := FE.pos hF hC
    show GW κ 1 0 0 (wX q d I A) 9 [(0, .ref (q 3))] [.int 0]
    refine g_if_eq (tgt := 14) (a := 0) hk dX5_costAtHand_9 (by decide) rfl (fun _ => ?_) (fun z9 => absurd (show (0 : Int) = (0 : Int) from by decide) z9)
    refine g_aload_n hk dX5_costAtHand_14 rfl ?_
    refine gX_r3_0 hk hin5 (List.mem_cons_of_mem _ (List.mem_append_left _ (List.mem_of_getElem? (i := 0) rfl))) dX5_costAtHand_15 ?_
    refine g_ldcS hk 12 (by decide) rfl dX5_costAtHand_18 ?_
    refine g_callV (n := 1) hk (k134_X10_isWord l D zt 12 (by decide) q d I A  hIv) (SP.same _) (fun _ h => h) (gi_V (List.mem_cons_of_mem _ (List.mem_append_left _ (List.mem_of_getElem? (i := 1) rfl))) (List.mem_cons_of_mem _ (List.mem_append_left _ (List.mem_of_getElem? (i := 2) rfl))) (List.mem_cons_of_mem _ (List.mem_append_left _ (List.mem_of_getElem? (i := 3) rfl))) (List.mem_cons_of_mem _ (List.mem_append_left _ (List.mem_of_getElem? (i := 4) rfl))) (gi_sub (fun w h => (List.mem_cons_of_mem _ (List.mem_append_right _ (List.mem_append_right _ (List.mem_append_left _ h))))) zg_k134_X10_isWord)) rfl rfl rfl (by decide +kernel) ⟨Nat.le_of_ble_eq_true rfl, Nat.le_of_ble_eq_true rfl⟩ 1 rfl rfl rfl rfl (Nat.le_of_ble_eq_true rfl) ⟨Nat.le_of_ble_eq_true rfl, Nat.le_of_ble_eq_true rfl⟩ dX5_costAtHand_20 (fun v ty' w' hp hk' => ?_)
    rcases hp with ⟨hC, rfl, rfl⟩ | ⟨hC, rfl, rfl⟩
    · skip
      replace hF := FE.pos hF hC
      show GW κ 1 0 0 (wX q d I A) 23 [(0, .ref (q 3))] [.int 0]
      refine g_if_eq (tgt := 30) (a := 0) hk dX5_costAtHand_23 (by decide) rfl (fun _ => ?_) (fun z9 => absurd (show (0 : Int) = (0 : Int) from by decide) z9)
      refine g_iconst (v := (-1)) hk dX5_costAtHand_30 (by decide) ?_
      exact g_iret hk hR rfl (Or.inl ⟨hF, rfl, rfl⟩) dX5_costAtHand_31
    · skip
      replace hF := FE.neg hF (fe_ne hC (by decide))
      show GW κ 1 0 0 (wX q d I A) 23 [(0, .ref (q 3))] [.int 1]
      refine g_if_eq (tgt := 30) (a := 1) hk dX5_costAtHand_23 (by decide) rfl (fun z9 => absurd z9 (show ¬ ((1 : Int) = (0 : Int)) from by decide)) (fun _ => ?_)
      refine g_iconst (v := 1) hk dX5_costAtHand_26 (by decide) ?_
      refine g_goto (tgt := 31) hk dX5_costAtHand_27 (by decide) ?_
      exact g_iret hk hR rfl (Or.inr (Or.inr (⟨hF, rfl, rfl⟩))) dX5_costAtHand_31
  · skip
    replace hF := FE.neg hF (fe_ne hC (by decide))
    show GW κ 1 0 0 (wX q d I A) 9 [(0, .ref (q 3))] [.int 1]
    refine g_if_eq (tgt := 14) (a := 1) hk dX5_costAtHand_9 (by decide) rfl (fun z9 => absurd z9 (show ¬ ((1 : Int) = (0 : Int)) from by decide)) (fun _ => ?_)
    refine g_iconst (v := 0) hk dX5_costAtHand_12 (by decide) ?_
    exact g_iret hk hR rfl (Or.inr (Or.inl ⟨hF, rfl, rfl⟩)) dX5_costAtHand_13
noncomputable def fX5_isNameAtHand (I : Nat → Int32) (A : Nat → Nat → Int32) : Int32 := f_lt (fX5_tellAtHand I A) fun y841 => if 0 ≤ y841.toInt then if (I 1).toInt ≠ 1 then 0 else 0 else f_lt (fX5_levelAtHand I A) fun y855 => if 0 ≤ y855.toInt then if (I 1).toInt ≠ 1 then 0 else 0 else if fX5_costAtHand I A = (-1) then if fX10_isWord 0 I A = 0 then if (I 1).toInt ≠ 1 then 0 else 1 else if (I 1).toInt ≠ 1 then 0 else 0 else if fX5_costAtHand I A = 0 then if (I 1).toInt ≠ 1 then 0 else 0 else if (I 1).toInt ≠ 1 then 0 else 0
def wo_k145_X5_isNameAtHand : List Cond := [Cond.methodLink RX5 99 yX5_tellAtHand, Cond.instanceMethod yX5_tellAtHand, Cond.selects RX5 yX5_tellAtHand yX5_tellAtHand, Cond.initialized RX5, Cond.fieldLink RX5 42 "WarpDesk$Reader" "tape" "LWarpDesk$Tape;", Cond.fieldLink RX5 53 "WarpDesk$Tape" "kind" "I", Cond.methodLink RX5 118 yX5_levelAtHand, Cond.instanceMethod yX5_levelAtHand, Cond.selects RX5 yX5_levelAtHand yX5_levelAtHand, Cond.methodLink RX5 121 yX5_costAtHand, Cond.instanceMethod yX5_costAtHand, Cond.selects RX5 yX5_costAtHand yX5_costAtHand, Cond.methodLink RX5 108 yX10_isWord, Cond.instanceMethod yX10_isWord, Cond.selects RX10 yX10_isWord yX10_isWord, Cond.initialized RX10]
def wz_k145_X5_isNameAtHand : List Cond := .code yX5_isNameAtHand cX5_isNameAtHand 2 (some .boolean) :: (wo_k145_X5_isNameAtHand ++ (wsX50 ++ (wsX100 ++ (wz_k133_X5_tellAtHand ++ (wz_k146_X5_levelAtHand ++ (wz_k147_X5_costAtHand ++ (wz_k134_X10_isWord ++ ([] : List Cond))))))))
theorem zg_k145_X5_isNameAtHand : ∀ w ∈ wz_k145_X5_isNameAtHand, goodWord w = true := zg_cons rfl (zg_app (by decide +kernel) (zg_app zgU_wsX50 (zg_app zgU_wsX100 (zg_app zg_k133_X5_tellAtHand (zg_app zg_k146_X5_levelAtHand (zg_app zg_k147_X5_costAtHand (zg_app zg_k134_X10_isWord zg_nil)))))))
theorem zi_k145_X5_isNameAtHand : ∀ w ∈ wz_k145_X5_isNameAtHand, w ∈ lw_tbl := zi_cons zw_662 (zi_app (zi_cons zw_588 (zi_cons zw_590 (zi_cons zw_6 (zi_cons zw_105 (zi_cons zw_230 (zi_cons zw_138 (zi_cons zw_663 (zi_cons zw_665 (zi_cons zw_9 (zi_cons zw_671 (zi_cons zw_673 (zi_cons zw_10 (zi_cons zw_593 (zi_cons zw_594 (zi_cons zw_595 (zi_cons zw_104 zi_nil)))))))))))))))) (zi_app inX5 (zi_app inX10 (zi_app zi_k133_X5_tellAtHand (zi_app zi_k146_X5_levelAtHand (zi_app zi_k147_X5_costAtHand (zi_app zi_k134_X10_isWord zi_nil)))))))
set_option maxHeartbeats 4000000 in
set_option maxRecDepth 100000 in
theorem k145_X5_isNameAtHand (l : Launch) (D : va_G) (zt : Nat × Nat × Nat × (Nat → Nat) × (Nat → Nat)) (q : Nat → Nat) (d : Nat → ClassId) (I : Nat → Int32) (A : Nat → Nat → Int32) (hIv : IvX I A) : GM l D zt (tyX d) yX5_isNameAtHand wz_k145_X5_isNameAtHand ({ frames := 6, cells := 0, slots := 0, locals := 127 } : Room) [.ref (q 3)] (wX q d I A) (fun v _ w' => (FE (fX5_isNameAtHand I A) (0) ∧ v = some (.int 0) ∧ w' = wX q d I A) ∨ (FE (fX5_isNameAtHand I A) (1) ∧ v = some (.int 1) ∧ w' = wX q d I A)) 0 0 := by
  refine GM.of (cc := cX5_isNameAtHand) (maxL := 2) (ret := (some .boolean)) (own := RX5) (lv := [(0, .ref (q 3))]) (by decide) rfl rfl (Nat.le_of_ble_eq_true rfl) rfl (fun κ sz hk hR hN => ?_)
  have hin5 : ∀ w ∈ u_ws RX5 TX5 13, w ∈ wz_k145_X5_isNameAtHand := fun w h => (List.mem_cons_of_mem _ (List.mem_append_right _ (List.mem_append_left _ h)))
  have hin10 : ∀ w ∈ u_ws RX10 TX10 7, w ∈ wz_k145_X5_isNameAtHand := fun w h => (List.mem_cons_of_mem _ (List.mem_append_right _ (List.mem_append_right _ (List.mem_append_left _ h))))
  have hF : FE (fX5_isNameAtHand I A) (fX5_isNameAtHand I A) := FE.rf
  refine g_aload_n hk dX5_isNameAtHand_0 rfl ?_
  refine g_callV (n := 0) hk (k133_X5_tellAtHand l D zt q d I A  hIv) (SP.same _) (fun _ h => h) (gi_V (List.mem_cons_of_mem _ (List.mem_append_left _ (List.mem_of_getElem? (i := 0) rfl))) (List.mem_cons_of_mem _ (List.mem_append_left _ (List.mem_of_getElem? (i := 1) rfl))) (List.mem_cons_of_mem _ (List.mem_append_left _ (List.mem_of_getElem? (i := 2) rfl))) (List.mem_cons_of_mem _ (List.mem_append_left _ (List.mem_of_getElem? (i := 3) rfl))) (gi_sub (fun w h => (List.mem_cons_of_mem _ (List.mem_append_right _ (List.mem_append_right _ (List.mem_append_right _ (List.mem_append_left _ h)))))) zg_k133_X5_tellAtHand)) rfl rfl rfl (by decide +kernel) ⟨Nat.le_of_ble_eq_true rfl, Nat.le_of_ble_eq_true rfl⟩ 3 rfl rfl rfl rfl (Nat.le_of_ble_eq_true rfl) ⟨Nat.le_of_ble_eq_true rfl, Nat.le_of_ble_eq_true rfl⟩ dX5_isNameAtHand_1 (fun v ty' w' hp hk' => ?_)
  obtain ⟨y841, c842, c843, hC, rfl, rfl⟩ := hp
  replace hF := FE.lt hF (fe_s hC)
  show GW κ 2 0 0 (wX q d I A) 4 [(0, .ref (q 3))] [.int y841]
  refine g_if_ge (tgt := 33) (a := y841.toInt) hk dX5_isNameAtHand_4 (by decide) rfl (fun c844 => ?_) (fun c844 => ?_)
  · skip
    replace hF := FE.pos hF c844
    refine g_iconst (v := 1) hk dX5_isNameAtHand_33 (by decide) ?_
    refine g_goto (tgt := 38) hk dX5_isNameAtHand_34 (by decide) ?_
    refine g_istore_n (lv' := [(1, .int 1), (0, .ref (q 3))]) hk dX5_isNameAtHand_38 (by decide) rfl ?_
    refine g_aload_n hk dX5_isNameAtHand_39 rfl ?_
    refine gX_r3_0 hk hin5 (List.mem_cons_of_mem _ (List.mem_append_left _ (List.mem_of_getElem? (i := 4) rfl))) dX5_isNameAtHand_40 ?_
    refine gX_i1 (v := (I 1)) hk hin10 (List.mem_cons_of_mem _ (List.mem_append_left _ (List.mem_of_getElem? (i := 5) rfl))) dX5_isNameAtHand_43 rfl ?_
    refine g_iconst (v := 1) hk dX5_isNameAtHand_46 (by decide) ?_
    have b845l := Int32.le_toInt (I 1)
    have b845h := Int32.toInt_lt (I 1)
    refine g_icmp_ne (tgt := 58) (a := (I 1).toInt) (b := 1) hk dX5_isNameAtHand_47 (by decide) rfl rfl (fun c846 => ?_) (fun c846 => ?_)
    · skip
      replace hF := FE.pos hF c846
      refine g_iconst (v := 0) hk dX5_isNameAtHand_58 (by decide) ?_
      exact g_iret hk hR rfl (Or.inl ⟨hF, rfl, rfl⟩) dX5_isNameAtHand_59
    · skip
      replace hF := FE.neg hF c846
      refine g_iload_n hk dX5_isNameAtHand_50 rfl ?_
      refine g_if_ne (tgt := 58) (a := 1) hk dX5_isNameAtHand_51 (by decide) rfl (fun _ => ?_) (fun z9 => absurd (show (1 : Int) ≠ (0 : Int) from by decide) z9)
      refine g_iconst (v := 0) hk dX5_isNameAtHand_58 (by decide) ?_
      exact g_iret hk hR rfl (Or.inl ⟨hF, rfl, rfl⟩) dX5_isNameAtHand_59
  · skip
    replace hF := FE.neg hF c844
    refine g_aload_n hk dX5_isNameAtHand_7 rfl ?_
    refine g_callV (n := 0) hk (k146_X5_levelAtHand l D zt q d I A  hIv) (SP.same _) (fun _ h => h) (gi_V (List.mem_cons_of_mem _ (List.mem_append_left _ (List.mem_of_getElem? (i := 6) rfl))) (List.mem_cons_of_mem _ (List.mem_append_left _ (List.mem_of_getElem? (i := 7) rfl))) (List.mem_cons_of_mem _ (List.mem_append_left _ (List.mem_of_getElem? (i := 8) rfl))) (List.mem_cons_of_mem _ (List.mem_append_left _ (List.mem_of_getElem? (i := 3) rfl))) (gi_sub (fun w h => (List.mem_cons_of_mem _ (List.mem_append_right _ (List.mem_append_right _ (List.mem_append_right _ (List.mem_append_right _ (List.mem_append_left _ h))))))) zg_k146_X5_levelAtHand)) rfl rfl rfl (by decide +kernel) ⟨Nat.le_of_ble_eq_true rfl, Nat.le_of_ble_eq_true rfl⟩ 3 rfl rfl rfl rfl (Nat.le_of_ble_eq_true rfl) ⟨Nat.le_of_ble_eq_true rfl, Nat.le_of_ble_eq_true rfl⟩ dX5_isNameAtHand_8 (fun v ty' w' hp hk' => ?_)
    obtain ⟨y855, c856, c857, hC, rfl, rfl⟩ := hp
    replace hF := FE.lt hF (fe_s hC)
    show GW κ 2 0 0 (wX q d I A) 11 [(0, .ref (q 3))] [.int y855]
    refine g_if_ge (tgt := 33) (a := y855.toInt) hk dX5_isNameAtHand_11 (by decide) rfl (fun c858 => ?_) (fun c858 => ?_)
    · skip
      replace hF := FE.pos hF c858
      refine g_iconst (v := 1) hk dX5_isNameAtHand_33 (by decide) ?_
      refine g_goto (tgt := 38) hk dX5_isNameAtHand_34 (by decide) ?_
      refine g_istore_n (lv' := [(1, .int 1), (0, .ref (q 3))]) hk dX5_isNameAtHand_38 (by decide) rfl ?_
      refine g_aload_n hk dX5_isNameAtHand_39 rfl ?_
      refine gX_r3_0 hk hin5 (List.mem_cons_of_mem _ (List.mem_append_left _ (List.mem_of_getElem? (i := 4) rfl))) dX5_isNameAtHand_40 ?_
      refine gX_i1 (v := (I 1)) hk hin10 (List.mem_cons_of_mem _ (List.mem_append_left _ (List.mem_of_getElem? (i := 5) rfl))) dX5_isNameAtHand_43 rfl ?_
      refine g_iconst (v := 1) hk dX5_isNameAtHand_46 (by decide) ?_
      have b859l := Int32.le_toInt (I 1)
      have b859h := Int32.toInt_lt (I 1)
      refine g_icmp_ne (tgt := 58) (a := (I 1).toInt) (b := 1) hk dX5_isNameAtHand_47 (by decide) rfl rfl (fun c860 => ?_) (fun c860 => ?_)
      · skip
        replace hF := FE.pos hF c860
        refine g_iconst (v := 0) hk dX5_isNameAtHand_58 (by decide) ?_
        exact g_iret hk hR rfl (Or.inl ⟨hF, rfl, rfl⟩) dX5_isNameAtHand_59
      · skip
        replace hF := FE.neg hF c860
        refine g_iload_n hk dX5_isNameAtHand_50 rfl ?_
        refine g_if_ne (tgt := 58) (a := 1) hk dX5_isNameAtHand_51 (by decide) rfl (fun _ => ?_) (fun z9 => absurd (show (1 : Int) ≠ (0 : Int) from by decide) z9)
        refine g_iconst (v := 0) hk dX5_isNameAtHand_58 (by decide) ?_
        exact g_iret hk hR rfl (Or.inl ⟨hF, rfl, rfl⟩) dX5_isNameAtHand_59
    · skip
      replace hF := FE.neg hF c858
      refine g_aload_n hk dX5_isNameAtHand_14 rfl ?_
      refine g_callV (n := 0) hk (k147_X5_costAtHand l D zt q d I A  hIv) (SP.same _) (fun _ h => h) (gi_V (List.mem_cons_of_mem _ (List.mem_append_left _ (List.mem_of_getElem? (i := 9) rfl))) (List.mem_cons_of_mem _ (List.mem_append_left _ (List.mem_of_getElem? (i := 10) rfl))) (List.mem_cons_of_mem _ (List.mem_append_left _ (List.mem_of_getElem? (i := 11) rfl))) (List.mem_cons_of_mem _ (List.mem_append_left _ (List.mem_of_getElem? (i := 3) rfl))) (gi_sub (fun w h => (List.mem_cons_of_mem _ (List.mem_append_right _ (List.mem_append_right _ (List.mem_append_right _ (List.mem_append_right _ (List.mem_append_right _ (List.mem_append_left _ h)))))))) zg_k147_X5_costAtHand)) rfl rfl rfl (by decide +kernel) ⟨Nat.le_of_ble_eq_true rfl, Nat.le_of_ble_eq_true rfl⟩ 3 rfl rfl rfl rfl (Nat.le_of_ble_eq_true rfl) ⟨Nat.le_of_ble_eq_true rfl, Nat.le_of_ble_eq_true rfl⟩ dX5_isNameAtHand_15 (fun v ty' w' hp hk' => ?_)
      rcases hp with ⟨hC, rfl, rfl⟩ | ⟨hC, rfl, rfl⟩ | ⟨hC, rfl, rfl⟩
      · skip
        replace hF := FE.pos hF hC
        show GW κ 2 0 0 (wX q d I A) 18 [(0, .ref (q 3))] [.int (-1)]
        refine g_if_ge (tgt := 33) (a := (-1)) hk dX5_isNameAtHand_18 (by decide) rfl (fun z9 => absurd z9 (show ¬ ((0 : Int) ≤ ((-1) : Int)) from by decide)) (fun _ => ?_)
        refine g_aload_n hk dX5_isNameAtHand_21 rfl ?_
        refine gX_r3_0 hk hin5 (List.mem_cons_of_mem _ (List.mem_append_left _ (List.mem_of_getElem? (i := 4) rfl))) dX5_isNameAtHand_22 ?_
        refine g_ldcS hk 0 (by decide) rfl dX5_isNameAtHand_25 ?_
        refine g_callV (n := 1) hk (k134_X10_isWord l D zt 0 (by decide) q d I A  hIv) (SP.same _) (fun _ h => h) (gi_V (List.mem_cons_of_mem _ (List.mem_append_left _ (List.mem_of_getElem? (i := 12) rfl))) (List.mem_cons_of_mem _ (List.mem_append_left _ (List.mem_of_getElem? (i := 13) rfl))) (List.mem_cons_of_mem _ (List.mem_append_left _ (List.mem_of_getElem? (i := 14) rfl))) (List.mem_cons_of_mem _ (List.mem_append_left _ (List.mem_of_getElem? (i := 15) rfl))) (gi_sub (fun w h => (List.mem_cons_of_mem _ (List.mem_append_right _ (List.mem_append_right _ (List.mem_append_right _ (List.mem_append_right _ (List.mem_append_right _ (List.mem_append_right _ (List.mem_append_left _ h))))))))) zg_k134_X10_isWord)) rfl rfl rfl (by decide +kernel) ⟨Nat.le_of_ble_eq_true rfl, Nat.le_of_ble_eq_true rfl⟩ 1 rfl rfl rfl rfl (Nat.le_of_ble_eq_true rfl) ⟨Nat.le_of_ble_eq_true rfl, Nat.le_of_ble_eq_true rfl⟩ dX5_isNameAtHand_27 (fun v ty' w' hp hk' => ?_)
        rcases hp with ⟨hC, rfl, rfl⟩ | ⟨hC, rfl, rfl⟩
        · skip
          replace hF := FE.pos hF hC
          show GW κ 2 0 0 (wX q d I A) 30 [(0, .ref (q 3))] [.int 0]
          refine g_if_eq (tgt := 37) (a := 0) hk dX5_isNameAtHand_30 (by decide) rfl (fun _ => ?_) (fun z9 => absurd (show (0 : Int) = (0 : Int) from by decide) z9)
          refine g_iconst (v := 0) hk dX5_isNameAtHand_37 (by decide) ?_
          refine g_istore_n (lv' := [(1, .int 0), (0, .ref (q 3))]) hk dX5_isNameAtHand_38 (by decide) rfl ?_
          refine g_aload_n hk dX5_isNameAtHand_39 rfl ?_
          refine gX_r3_0 hk hin5 (List.mem_cons_of_mem _ (List.mem_append_left _ (List.mem_of_getElem? (i := 4) rfl))) dX5_isNameAtHand_40 ?_
          refine gX_i1 (v := (I 1)) hk hin10 (List.mem_cons_of_mem _ (List.mem_append_left _ (List.mem_of_getElem? (i := 5) rfl))) dX5_isNameAtHand_43 rfl ?_
          refine g_iconst (v := 1) hk dX5_isNameAtHand_46 (by decide) ?_
          have b870l := Int32.le_toInt (I 1)
          have b870h := Int32.toInt_lt (I 1)
          refine g_icmp_ne (tgt := 58) (a := (I 1).toInt) (b := 1) hk dX5_isNameAtHand_47 (by decide) rfl rfl (fun c871 => ?_) (fun c871 => ?_)
          · skip
            replace hF := FE.pos hF c871
            refine g_iconst (v := 0) hk dX5_isNameAtHand_58 (by decide) ?_
            exact g_iret hk hR rfl (Or.inl ⟨hF, rfl, rfl⟩) dX5_isNameAtHand_59
          · skip
            replace hF := FE.neg hF c871
            refine g_iload_n hk dX5_isNameAtHand_50 rfl ?_
            refine g_if_ne (tgt := 58) (a := 0) hk dX5_isNameAtHand_51 (by decide) rfl (fun z9 => absurd z9 (show ¬ ((0 : Int) ≠ (0 : Int)) from by decide)) (fun _ => ?_)
            refine g_iconst (v := 1) hk dX5_isNameAtHand_54 (by decide) ?_
            refine g_goto (tgt := 59) hk dX5_isNameAtHand_55 (by decide) ?_
            exact g_iret hk hR rfl (Or.inr (⟨hF, rfl, rfl⟩)) dX5_isNameAtHand_59
        · skip
          replace hF := FE.neg hF (fe_ne hC (by decide))
          show GW κ 2 0 0 (wX q d I A) 30 [(0, .ref (q 3))] [.int 1]
          refine g_if_eq (tgt := 37) (a := 1) hk dX5_isNameAtHand_30 (by decide) rfl (fun z9 => absurd z9 (show ¬ ((1 : Int) = (0 : Int)) from by decide)) (fun _ => ?_)
          refine g_iconst (v := 1) hk dX5_isNameAtHand_33 (by decide) ?_
          refine g_goto (tgt := 38) hk dX5_isNameAtHand_34 (by decide) ?_
          refine g_istore_n (lv' := [(1, .int 1), (0, .ref (q 3))]) hk dX5_isNameAtHand_38 (by decide) rfl ?_
          refine g_aload_n hk dX5_isNameAtHand_39 rfl ?_
          refine gX_r3_0 hk hin5 (List.mem_cons_of_mem _ (List.mem_append_left _ (List.mem_of_getElem? (i := 4) rfl))) dX5_isNameAtHand_40 ?_
          refine gX_i1 (v := (I 1)) hk hin10 (List.mem_cons_of_mem _ (List.mem_append_left _ (List.mem_of_getElem? (i := 5) rfl))) dX5_isNameAtHand_43 rfl ?_
          refine g_iconst (v := 1) hk dX5_isNameAtHand_46 (by decide) ?_
          have b872l := Int32.le_toInt (I 1)
          have b872h := Int32.toInt_lt (I 1)
          refine g_icmp_ne (tgt := 58) (a := (I 1).toInt) (b := 1) hk dX5_isNameAtHand_47 (by decide) rfl rfl (fun c873 => ?_) (fun c873 => ?_)
          · skip
            replace hF := FE.pos hF c873
            refine g_iconst (v := 0) hk dX5_isNameAtHand_58 (by decide) ?_
            exact g_iret hk hR rfl (Or.inl ⟨hF, rfl, rfl⟩) dX5_isNameAtHand_59
          · skip
            replace hF := FE.neg hF c873
            refine g_iload_n hk dX5_isNameAtHand_50 rfl ?_
            refine g_if_ne (tgt := 58) (a := 1) hk dX5_isNameAtHand_51 (by decide) rfl (fun _ => ?_) (fun z9 => absurd (show (1 : Int) ≠ (0 : Int) from by decide) z9)
            refine g_iconst (v := 0) hk dX5_isNameAtHand_58 (by decide) ?_
            exact g_iret hk hR rfl (Or.inl ⟨hF, rfl, rfl⟩) dX5_isNameAtHand_59
      · skip
        replace hF := FE.neg hF (fe_ne hC (by decide))
        replace hF := FE.pos hF hC
        show GW κ 2 0 0 (wX q d I A) 18 [(0, .ref (q 3))] [.int 0]
        refine g_if_ge (tgt := 33) (a := 0) hk dX5_isNameAtHand_18 (by decide) rfl (fun _ => ?_) (fun z9 => absurd (show (0 : Int) ≤ (0 : Int) from by decide) z9)
        refine g_iconst (v := 1) hk dX5_isNameAtHand_33 (by decide) ?_
        refine g_goto (tgt := 38) hk dX5_isNameAtHand_34 (by decide) ?_
        refine g_istore_n (lv' := [(1, .int 1), (0, .ref (q 3))]) hk dX5_isNameAtHand_38 (by decide) rfl ?_
        refine g_aload_n hk dX5_isNameAtHand_39 rfl ?_
        refine gX_r3_0 hk hin5 (List.mem_cons_of_mem _ (List.mem_append_left _ (List.mem_of_getElem? (i := 4) rfl))) dX5_isNameAtHand_40 ?_
        refine gX_i1 (v := (I 1)) hk hin10 (List.mem_cons_of_mem _ (List.mem_append_left _ (List.mem_of_getElem? (i := 5) rfl))) dX5_isNameAtHand_43 rfl ?_
        refine g_iconst (v := 1) hk dX5_isNameAtHand_46 (by decide) ?_
        have b874l := Int32.le_toInt (I 1)
        have b874h := Int32.toInt_lt (I 1)
        refine g_icmp_ne (tgt := 58) (a := (I 1).toInt) (b := 1) hk dX5_isNameAtHand_47 (by decide) rfl rfl (fun c875 => ?_) (fun c875 => ?_)
        · skip
          replace hF := FE.pos hF c875
          refine g_iconst (v := 0) hk dX5_isNameAtHand_58 (by decide) ?_
          exact g_iret hk hR rfl (Or.inl ⟨hF, rfl, rfl⟩) dX5_isNameAtHand_59
        · skip
          replace hF := FE.neg hF c875
          refine g_iload_n hk dX5_isNameAtHand_50 rfl ?_
          refine g_if_ne (tgt := 58) (a := 1) hk dX5_isNameAtHand_51 (by decide) rfl (fun _ => ?_) (fun z9 => absurd (show (1 : Int) ≠ (0 : Int) from by decide) z9)
          refine g_iconst (v := 0) hk dX5_isNameAtHand_58 (by decide) ?_
          exact g_iret hk hR rfl (Or.inl ⟨hF, rfl, rfl⟩) dX5_isNameAtHand_59
      · skip
        replace hF := FE.neg hF (fe_ne hC (by decide))
        replace hF := FE.neg hF (fe_ne hC (by decide))
        show GW κ 2 0 0 (wX q d I A) 18 [(0, .ref (q 3))] [.int 1]
        refine g_if_ge (tgt := 33) (a := 1) hk dX5_isNameAtHand_18 (by decide) rfl (fun _ => ?_) (fun z9 => absurd (show (0 : Int) ≤ (1 : Int) from by decide) z9)
        refine g_iconst (v := 1) hk dX5_isNameAtHand_33 (by decide) ?_
        refine g_goto (tgt := 38) hk dX5_isNameAtHand_34 (by decide) ?_
        refine g_istore_n (lv' := [(1, .int 1), (0, .ref (q 3))]) hk dX5_isNameAtHand_38 (by decide) rfl ?_
        refine g_aload_n hk dX5_isNameAtHand_39 rfl ?_
        refine gX_r3_0 hk hin5 (List.mem_cons_of_mem _ (List.mem_append_left _ (List.mem_of_getElem? (i := 4) rfl))) dX5_isNameAtHand_40 ?_
        refine gX_i1 (v := (I 1)) hk hin10 (List.mem_cons_of_mem _ (List.mem_append_left _ (List.mem_of_getElem? (i := 5) rfl))) dX5_isNameAtHand_43 rfl ?_
        refine g_iconst (v := 1) hk dX5_isNameAtHand_46 (by decide) ?_
        have b876l := Int32.le_toInt (I 1)
        have b876h := Int32.toInt_lt (I 1)
        refine g_icmp_ne (tgt := 58) (a := (I 1).toInt) (b := 1) hk dX5_isNameAtHand_47 (by decide) rfl rfl (fun c877 => ?_) (fun c877 => ?_)
        · skip
          replace hF := FE.pos hF c877
          refine g_iconst (v := 0) hk dX5_isNameAtHand_58 (by decide) ?_
          exact g_iret hk hR rfl (Or.inl ⟨hF, rfl, rfl⟩) dX5_isNameAtHand_59
        · skip
          replace hF := FE.neg hF c877
          refine g_iload_n hk dX5_isNameAtHand_50 rfl ?_
          refine g_if_ne (tgt := 58) (a := 1) hk dX5_isNameAtHand_51 (by decide) rfl (fun _ => ?_) (fun z9 => absurd (show (1 : Int) ≠ (0 : Int) from by decide) z9)
          refine g_iconst (v := 0) hk dX5_isNameAtHand_58 (by decide) ?_
          exact g_iret hk hR rfl (Or.inl ⟨hF, rfl, rfl⟩) dX5_isNameAtHand_59
noncomputable def fX5_choiceAtHand (I : Nat → Int32) (A : Nat → Nat → Int32) : Int32 := if (I 7).toInt ≠ 1 then if fX5_costAtHand I A = (-1) then (-1) else if fX5_costAtHand I A = 0 then 0 else 1 else f_lt (fX5_levelAtHand I A) fun y892 => y892
def wo_k148_X5_choiceAtHand : List Cond := [Cond.fieldLink RX5 141 "WarpDesk$Reader" "tell" "I", Cond.methodLink RX5 121 yX5_costAtHand, Cond.instanceMethod yX5_costAtHand, Cond.selects RX5 yX5_costAtHand yX5_costAtHand, Cond.initialized RX5, Cond.methodLink RX5 118 yX5_levelAtHand, Cond.instanceMethod yX5_levelAtHand, Cond.selects RX5 yX5_levelAtHand yX5_levelAtHand]
def wz_k148_X5_choiceAtHand : List Cond := .code yX5_choiceAtHand cX5_choiceAtHand 1 (some .int) :: (wo_k148_X5_choiceAtHand ++ (wsX50 ++ (wz_k147_X5_costAtHand ++ (wz_k146_X5_levelAtHand ++ ([] : List Cond)))))
theorem zg_k148_X5_choiceAtHand : ∀ w ∈ wz_k148_X5_choiceAtHand, goodWord w = true := zg_cons rfl (zg_app (by decide +kernel) (zg_app zgU_wsX50 (zg_app zg_k147_X5_costAtHand (zg_app zg_k146_X5_levelAtHand zg_nil))))
theorem zi_k148_X5_choiceAtHand : ∀ w ∈ wz_k148_X5_choiceAtHand, w ∈ lw_tbl := zi_cons zw_680 (zi_app (zi_cons zw_238 (zi_cons zw_671 (zi_cons zw_673 (zi_cons zw_10 (zi_cons zw_105 (zi_cons zw_663 (zi_cons zw_665 (zi_cons zw_9 zi_nil)))))))) (zi_app inX5 (zi_app zi_k147_X5_costAtHand (zi_app zi_k146_X5_levelAtHand zi_nil))))
set_option maxHeartbeats 4000000 in
set_option maxRecDepth 100000 in
theorem k148_X5_choiceAtHand (l : Launch) (D : va_G) (zt : Nat × Nat × Nat × (Nat → Nat) × (Nat → Nat)) (q : Nat → Nat) (d : Nat → ClassId) (I : Nat → Int32) (A : Nat → Nat → Int32) (hIv : IvX I A) : GM l D zt (tyX d) yX5_choiceAtHand wz_k148_X5_choiceAtHand ({ frames := 6, cells := 0, slots := 0, locals := 127 } : Room) [.ref (q 3)] (wX q d I A) (fun v _ w' => ∃ y0 : Int32, ((-1) ≤ y0.toInt) ∧ (y0.toInt ≤ 3) ∧ FE (fX5_choiceAtHand I A) y0 ∧ v = some (.int y0) ∧ w' = wX q d I A) 0 0 := by
  refine GM.of (cc := cX5_choiceAtHand) (maxL := 1) (ret := (some .int)) (own := RX5) (lv := [(0, .ref (q 3))]) (by decide) rfl rfl (Nat.le_of_ble_eq_true rfl) rfl (fun κ sz hk hR hN => ?_)
  have hin5 : ∀ w ∈ u_ws RX5 TX5 13, w ∈ wz_k148_X5_choiceAtHand := fun w h => (List.mem_cons_of_mem _ (List.mem_append_right _ (List.mem_append_left _ h)))
  have hF : FE (fX5_choiceAtHand I A) (fX5_choiceAtHand I A) := FE.rf
  refine g_aload_n hk dX5_choiceAtHand_0 rfl ?_
  refine gX_i7 (v := (I 7)) hk hin5 (List.mem_cons_of_mem _ (List.mem_append_left _ (List.mem_of_getElem? (i := 0) rfl))) dX5_choiceAtHand_1 rfl ?_
  refine g_iconst (v := 1) hk dX5_choiceAtHand_4 (by decide) ?_
  have b887l := Int32.le_toInt (I 7)
  have b887h := Int32.toInt_lt (I 7)
  refine g_icmp_ne (tgt := 15) (a := (I 7).toInt) (b := 1) hk dX5_choiceAtHand_5 (by decide) rfl rfl (fun c888 => ?_) (fun c888 => ?_)
  · skip
    replace hF := FE.pos hF c888
    refine g_aload_n hk dX5_choiceAtHand_15 rfl ?_
    refine g_callV (n := 0) hk (k147_X5_costAtHand l D zt q d I A  hIv) (SP.same _) (fun _ h => h) (gi_V (List.mem_cons_of_mem _ (List.mem_append_left _ (List.mem_of_getElem? (i := 1) rfl))) (List.mem_cons_of_mem _ (List.mem_append_left _ (List.mem_of_getElem? (i := 2) rfl))) (List.mem_cons_of_mem _ (List.mem_append_left _ (List.mem_of_getElem? (i := 3) rfl))) (List.mem_cons_of_mem _ (List.mem_append_left _ (List.mem_of_getElem? (i := 4) rfl))) (gi_sub (fun w h => (List.mem_cons_of_mem _ (List.mem_append_right _ (List.mem_append_right _ (List.mem_append_left _ h))))) zg_k147_X5_costAtHand)) rfl rfl rfl (by decide +kernel) ⟨Nat.le_of_ble_eq_true rfl, Nat.le_of_ble_eq_true rfl⟩ 3 rfl rfl rfl rfl (Nat.le_of_ble_eq_true rfl) ⟨Nat.le_of_ble_eq_true rfl, Nat.le_of_ble_eq_true rfl⟩ dX5_choiceAtHand_16 (fun v ty' w' hp hk' => ?_)
    rcases hp with ⟨hC, rfl, rfl⟩ | ⟨hC, rfl, rfl⟩ | ⟨hC, rfl, rfl⟩
    · skip
      replace hF := FE.pos hF hC
      show GW κ 1 0 0 (wX q d I A) 19 [(0, .ref (q 3))] [.int (-1)]
      exact g_iret hk hR rfl ⟨(-1), (by decide), (by decide), hF, rfl, rfl⟩ dX5_choiceAtHand_19
    · skip
      replace hF := FE.neg hF (fe_ne hC (by decide))
      replace hF := FE.pos hF hC
      show GW κ 1 0 0 (wX q d I A) 19 [(0, .ref (q 3))] [.int 0]
      exact g_iret hk hR rfl ⟨0, (by decide), (by decide), hF, rfl, rfl⟩ dX5_choiceAtHand_19
    · skip
      replace hF := FE.neg hF (fe_ne hC (by decide))
      replace hF := FE.neg hF (fe_ne hC (by decide))
      show GW κ 1 0 0 (wX q d I A) 19 [(0, .ref (q 3))] [.int 1]
      exact g_iret hk hR rfl ⟨1, (by decide), (by decide), hF, rfl, rfl⟩ dX5_choiceAtHand_19
  · skip
    replace hF := FE.neg hF c888
    refine g_aload_n hk dX5_choiceAtHand_8 rfl ?_
    refine g_callV (n := 0) hk (k146_X5_levelAtHand l D zt q d I A  hIv) (SP.same _) (fun _ h => h) (gi_V (List.mem_cons_of_mem _ (List.mem_append_left _ (List.mem_of_getElem? (i := 5) rfl))) (List.mem_cons_of_mem _ (List.mem_append_left _ (List.mem_of_getElem? (i := 6) rfl))) (List.mem_cons_of_mem _ (List.mem_append_left _ (List.mem_of_getElem? (i := 7) rfl))) (List.mem_cons_of_mem _ (List.mem_append_left _ (List.mem_of_getElem? (i := 4) rfl))) (gi_sub (fun w h => (List.mem_cons_of_mem _ (List.mem_append_right _ (List.mem_append_right _ (List.mem_append_right _ (List.mem_append_left _ h)))))) zg_k146_X5_levelAtHand)) rfl rfl rfl (by decide +kernel) ⟨Nat.le_of_ble_eq_true rfl, Nat.le_of_ble_eq_true rfl⟩ 3 rfl rfl rfl rfl (Nat.le_of_ble_eq_true rfl) ⟨Nat.le_of_ble_eq_true rfl, Nat.le_of_ble_eq_true rfl⟩ dX5_choiceAtHand_9 (fun v ty' w' hp hk' => ?_)
    obtain ⟨y892, c893, c894, hC, rfl, rfl⟩ := hp
    replace hF := FE.lt hF (fe_s hC)
    show GW κ 1 0 0 (wX q d I A) 12 [(0, .ref (q 3))] [.int y892]
    refine g_goto (tgt := 19) hk dX5_choiceAtHand_12 (by decide) ?_
    exact g_iret hk hR rfl ⟨y892, (by omega), (by omega), hF, rfl, rfl⟩ dX5_choiceAtHand_19
noncomputable def fX5_mayStand (I : Nat → Int32) (A : Nat → Nat → Int32) : Int32 := if (I 6).toInt = 0 then f_lt (fX5_tellAtHand I A) fun y823 => if y823.toInt < 0 then 0 else 1 else if (I 6).toInt = 1 then if fX5_mayStandInRow I A = 0 then if (I 8).toInt ≠ 0 then 0 else if fX10_isWord 0 I A = 0 then 0 else 1 else 1 else if (I 6).toInt = 2 then if fX5_isNameAtHand I A = 0 then 0 else 1 else if (I 6).toInt = 3 then if fX5_mayStandInRow I A = 0 then 0 else 1 else if (I 6).toInt = 4 then if (I 1).toInt ≠ 2 then 0 else 1 else if (I 6).toInt = 5 then f_lt (fX5_choiceAtHand I A) fun y895 => if y895.toInt < 0 then 0 else 1 else if (I 1).toInt ≠ 3 then 0 else 1
def wo_k132_X5_mayStand : List Cond := [Cond.fieldLink RX5 75 "WarpDesk$Reader" "state" "I", Cond.methodLink RX5 99 yX5_tellAtHand, Cond.instanceMethod yX5_tellAtHand, Cond.selects RX5 yX5_tellAtHand yX5_tellAtHand, Cond.initialized RX5, Cond.methodLink RX5 103 yX5_mayStandInRow, Cond.instanceMethod yX5_mayStandInRow, Cond.selects RX5 yX5_mayStandInRow yX5_mayStandInRow, Cond.fieldLink RX5 87 "WarpDesk$Reader" "isNegative" "Z", Cond.fieldLink RX5 42 "WarpDesk$Reader" "tape" "LWarpDesk$Tape;", Cond.methodLink RX5 108 yX10_isWord, Cond.instanceMethod yX10_isWord, Cond.selects RX10 yX10_isWord yX10_isWord, Cond.initialized RX10, Cond.methodLink RX5 112 yX5_isNameAtHand, Cond.instanceMethod yX5_isNameAtHand, Cond.selects RX5 yX5_isNameAtHand yX5_isNameAtHand, Cond.fieldLink RX5 53 "WarpDesk$Tape" "kind" "I", Cond.methodLink RX5 115 yX5_choiceAtHand, Cond.instanceMethod yX5_choiceAtHand, Cond.selects RX5 yX5_choiceAtHand yX5_choiceAtHand]
def wz_k132_X5_mayStand : List Cond := .code yX5_mayStand cX5_mayStand 1 (some .boolean) :: (wo_k132_X5_mayStand ++ (wsX50 ++ (wsX100 ++ (wz_k133_X5_tellAtHand ++ (wz_k144_X5_mayStandInRow ++ (wz_k134_X10_isWord ++ (wz_k145_X5_isNameAtHand ++ (wz_k148_X5_choiceAtHand ++ ([] : List Cond)))))))))
theorem zg_k132_X5_mayStand : ∀ w ∈ wz_k132_X5_mayStand, goodWord w = true := zg_cons rfl (zg_app (by decide +kernel) (zg_app zgU_wsX50 (zg_app zgU_wsX100 (zg_app zg_k133_X5_tellAtHand (zg_app zg_k144_X5_mayStandInRow (zg_app zg_k134_X10_isWord (zg_app zg_k145_X5_isNameAtHand (zg_app zg_k148_X5_choiceAtHand zg_nil))))))))
theorem zi_k132_X5_mayStand : ∀ w ∈ wz_k132_X5_mayStand, w ∈ lw_tbl := zi_cons zw_587 (zi_app (zi_cons zw_237 (zi_cons zw_588 (zi_cons zw_590 (zi_cons zw_6 (zi_cons zw_105 (zi_cons zw_654 (zi_cons zw_656 (zi_cons zw_7 (zi_cons zw_239 (zi_cons zw_230 (zi_cons zw_593 (zi_cons zw_594 (zi_cons zw_595 (zi_cons zw_104 (zi_cons zw_659 (zi_cons zw_661 (zi_cons zw_8 (zi_cons zw_138 (zi_cons zw_677 (zi_cons zw_679 (zi_cons zw_11 zi_nil))))))))))))))))))))) (zi_app inX5 (zi_app inX10 (zi_app zi_k133_X5_tellAtHand (zi_app zi_k144_X5_mayStandInRow (zi_app zi_k134_X10_isWord (zi_app zi_k145_X5_isNameAtHand (zi_app zi_k148_X5_choiceAtHand zi_nil))))))))
set_option maxHeartbeats 4000000 in
set_option maxRecDepth 100000 in
theorem k132_X5_mayStand (l : Launch) (D : va_G) (zt : Nat × Nat × Nat × (Nat → Nat) × (Nat → Nat)) (q : Nat → Nat) (d : Nat → ClassId) (I : Nat → Int32) (A : Nat → Nat → Int32) (hIv : IvX I A) : GM l D zt (tyX d) yX5_mayStand wz_k132_X5_mayStand ({ frames := 7, cells := 0, slots := 0, locals := 148 } : Room) [.ref (q 3)] (wX q d I A) (fun v _ w' => (FE (fX5_mayStand I A) (0) ∧ v = some (.int 0) ∧ w' = wX q d I A) ∨ (FE (fX5_mayStand I A) (1) ∧ v = some (.int 1) ∧ w' = wX q d I A)) 0 0 := by
  refine GM.of (cc := cX5_mayStand) (maxL := 1) (ret := (some .boolean)) (own := RX5) (lv := [(0, .ref (q 3))]) (by decide) rfl rfl (Nat.le_of_ble_eq_true rfl) rfl (fun κ sz hk hR hN => ?_)
  have hin5 : ∀ w ∈ u_ws RX5 TX5 13, w ∈ wz_k132_X5_mayStand := fun w h => (List.mem_cons_of_mem _ (List.mem_append_right _ (List.mem_append_left _ h)))
  have hin10 : ∀ w ∈ u_ws RX10 TX10 7, w ∈ wz_k132_X5_mayStand := fun w h => (List.mem_cons_of_mem _ (List.mem_append_right _ (List.mem_append_right _ (List.mem_append_left _ h))))
  have hF : FE (fX5_mayStand I A) (fX5_mayStand I A) := FE.rf
  refine g_aload_n hk dX5_mayStand_0 rfl ?_
  refine gX_i6 (v := (I 6)) hk hin5 (List.mem_cons_of_mem _ (List.mem_append_left _ (List.mem_of_getElem? (i := 0) rfl))) dX5_mayStand_1 rfl ?_
  by_cases c723 : (I 6).toInt = 0
  · refine g_tabIn (tgt := 44) (a := 0) hk dX5_mayStand_4 c723 (by decide) (by decide) rfl (by decide) ?_
    replace hF := FE.pos hF c723
    refine g_aload_n hk dX5_mayStand_44 rfl ?_
    refine g_callV (n := 0) hk (k133_X5_tellAtHand l D zt q d I A  hIv) (SP.same _) (fun _ h => h) (gi_V (List.mem_cons_of_mem _ (List.mem_append_left _ (List.mem_of_getElem? (i := 1) rfl))) (List.mem_cons_of_mem _ (List.mem_append_left _ (List.mem_of_getElem? (i := 2) rfl))) (List.mem_cons_of_mem _ (List.mem_append_left _ (List.mem_of_getElem? (i := 3) rfl))) (List.mem_cons_of_mem _ (List.mem_append_left _ (List.mem_of_getElem? (i := 4) rfl))) (gi_sub (fun w h => (List.mem_cons_of_mem _ (List.mem_append_right _ (List.mem_append_right _ (List.mem_append_right _ (List.mem_append_left _ h)))))) zg_k133_X5_tellAtHand)) rfl rfl rfl (by decide +kernel) ⟨Nat.le_of_ble_eq_true rfl, Nat.le_of_ble_eq_true rfl⟩ 3 rfl rfl rfl rfl (Nat.le_of_ble_eq_true rfl) ⟨Nat.le_of_ble_eq_true rfl, Nat.le_of_ble_eq_true rfl⟩ dX5_mayStand_45 (fun v ty' w' hp hk' => ?_)
    obtain ⟨y823, c824, c825, hC, rfl, rfl⟩ := hp
    replace hF := FE.lt hF (fe_s hC)
    show GW κ 1 0 0 (wX q d I A) 48 [(0, .ref (q 3))] [.int y823]
    refine g_if_lt (tgt := 55) (a := y823.toInt) hk dX5_mayStand_48 (by decide) rfl (fun c826 => ?_) (fun c826 => ?_)
    · skip
      replace hF := FE.pos hF c826
      refine g_iconst (v := 0) hk dX5_mayStand_55 (by decide) ?_
      exact g_iret hk hR rfl (Or.inl ⟨hF, rfl, rfl⟩) dX5_mayStand_56
    · skip
      replace hF := FE.neg hF c826
      refine g_iconst (v := 1) hk dX5_mayStand_51 (by decide) ?_
      refine g_goto (tgt := 56) hk dX5_mayStand_52 (by decide) ?_
      exact g_iret hk hR rfl (Or.inr (⟨hF, rfl, rfl⟩)) dX5_mayStand_56
  replace hF := FE.neg hF c723
  by_cases c827 : (I 6).toInt = 1
  · refine g_tabIn (tgt := 57) (a := 1) hk dX5_mayStand_4 c827 (by decide) (by decide) rfl (by decide) ?_
    replace hF := FE.pos hF c827
    refine g_aload_n hk dX5_mayStand_57 rfl ?_
    refine g_callV (n := 0) hk (k144_X5_mayStandInRow l D zt q d I A  hIv) (SP.same _) (fun _ h => h) (gi_V (List.mem_cons_of_mem _ (List.mem_append_left _ (List.mem_of_getElem? (i := 5) rfl))) (List.mem_cons_of_mem _ (List.mem_append_left _ (List.mem_of_getElem? (i := 6) rfl))) (List.mem_cons_of_mem _ (List.mem_append_left _ (List.mem_of_getElem? (i := 7) rfl))) (List.mem_cons_of_mem _ (List.mem_append_left _ (List.mem_of_getElem? (i := 4) rfl))) (gi_sub (fun w h => (List.mem_cons_of_mem _ (List.mem_append_right _ (List.mem_append_right _ (List.mem_append_right _ (List.mem_append_right _ (List.mem_append_left _ h))))))) zg_k144_X5_mayStandInRow)) rfl rfl rfl (by decide +kernel) ⟨Nat.le_of_ble_eq_true rfl, Nat.le_of_ble_eq_true rfl⟩ 3 rfl rfl rfl rfl (Nat.le_of_ble_eq_true rfl) ⟨Nat.le_of_ble_eq_true rfl, Nat.le_of_ble_eq_true rfl⟩ dX5_mayStand_58 (fun v ty' w' hp hk' => ?_)
    rcases hp with ⟨hC, rfl, rfl⟩ | ⟨hC, rfl, rfl⟩
    · skip
      replace hF := FE.pos hF hC
      show GW κ 1 0 0 (wX q d I A) 61 [(0, .ref (q 3))] [.int 0]
      refine g_if_ne (tgt := 83) (a := 0) hk dX5_mayStand_61 (by decide) rfl (fun z9 => absurd z9 (show ¬ ((0 : Int) ≠ (0 : Int)) from by decide)) (fun _ => ?_)
      refine g_aload_n hk dX5_mayStand_64 rfl ?_
      refine gX_i8 (v := (I 8)) hk hin5 (List.mem_cons_of_mem _ (List.mem_append_left _ (List.mem_of_getElem? (i := 8) rfl))) dX5_mayStand_65 rfl ?_
      have b836l := Int32.le_toInt (I 8)
      have b836h := Int32.toInt_lt (I 8)
      refine g_if_ne (tgt := 87) (a := (I 8).toInt) hk dX5_mayStand_68 (by decide) rfl (fun c837 => ?_) (fun c837 => ?_)
      · skip
        replace hF := FE.pos hF c837
        refine g_iconst (v := 0) hk dX5_mayStand_87 (by decide) ?_
        exact g_iret hk hR rfl (Or.inl ⟨hF, rfl, rfl⟩) dX5_mayStand_88
      · skip
        replace hF := FE.neg hF c837
        refine g_aload_n hk dX5_mayStand_71 rfl ?_
        refine gX_r3_0 hk hin5 (List.mem_cons_of_mem _ (List.mem_append_left _ (List.mem_of_getElem? (i := 9) rfl))) dX5_mayStand_72 ?_
        refine g_ldcS hk 0 (by decide) rfl dX5_mayStand_75 ?_
        refine g_callV (n := 1) hk (k134_X10_isWord l D zt 0 (by decide) q d I A  hIv) (SP.same _) (fun _ h => h) (gi_V (List.mem_cons_of_mem _ (List.mem_append_left _ (List.mem_of_getElem? (i := 10) rfl))) (List.mem_cons_of_mem _ (List.mem_append_left _ (List.mem_of_getElem? (i := 11) rfl))) (List.mem_cons_of_mem _ (List.mem_append_left _ (List.mem_of_getElem? (i := 12) rfl))) (List.mem_cons_of_mem _ (List.mem_append_left _ (List.mem_of_getElem? (i := 13) rfl))) (gi_sub (fun w h => (List.mem_cons_of_mem _ (List.mem_append_right _ (List.mem_append_right _ (List.mem_append_right _ (List.mem_append_right _ (List.mem_append_right _ (List.mem_append_left _ h)))))))) zg_k134_X10_isWord)) rfl rfl rfl (by decide +kernel) ⟨Nat.le_of_ble_eq_true rfl, Nat.le_of_ble_eq_true rfl⟩ 1 rfl rfl rfl rfl (Nat.le_of_ble_eq_true rfl) ⟨Nat.le_of_ble_eq_true rfl, Nat.le_of_ble_eq_true rfl⟩ dX5_mayStand_77 (fun v ty' w' hp hk' => ?_)
        rcases hp with ⟨hC, rfl, rfl⟩ | ⟨hC, rfl, rfl⟩
        · skip
          replace hF := FE.pos hF hC
          show GW κ 1 0 0 (wX q d I A) 80 [(0, .ref (q 3))] [.int 0]
          refine g_if_eq (tgt := 87) (a := 0) hk dX5_mayStand_80 (by decide) rfl (fun _ => ?_) (fun z9 => absurd (show (0 : Int) = (0 : Int) from by decide) z9)
          refine g_iconst (v := 0) hk dX5_mayStand_87 (by decide) ?_
          exact g_iret hk hR rfl (Or.inl ⟨hF, rfl, rfl⟩) dX5_mayStand_88
        · skip
          replace hF := FE.neg hF (fe_ne hC (by decide))
          show GW κ 1 0 0 (wX q d I A) 80 [(0, .ref (q 3))] [.int 1]
          refine g_if_eq (tgt := 87) (a := 1) hk dX5_mayStand_80 (by decide) rfl (fun z9 => absurd z9 (show ¬ ((1 : Int) = (0 : Int)) from by decide)) (fun _ => ?_)
          refine g_iconst (v := 1) hk dX5_mayStand_83 (by decide) ?_
          refine g_goto (tgt := 88) hk dX5_mayStand_84 (by decide) ?_
          exact g_iret hk hR rfl (Or.inr (⟨hF, rfl, rfl⟩)) dX5_mayStand_88
    · skip
      replace hF := FE.neg hF (fe_ne hC (by decide))
      show GW κ 1 0 0 (wX q d I A) 61 [(0, .ref (q 3))] [.int 1]
      refine g_if_ne (tgt := 83) (a := 1) hk dX5_mayStand_61 (by decide) rfl (fun _ => ?_) (fun z9 => absurd (show (1 : Int) ≠ (0 : Int) from by decide) z9)
      refine g_iconst (v := 1) hk dX5_mayStand_83 (by decide) ?_
      refine g_goto (tgt := 88) hk dX5_mayStand_84 (by decide) ?_
      exact g_iret hk hR rfl (Or.inr (⟨hF, rfl, rfl⟩)) dX5_mayStand_88
  replace hF := FE.neg hF c827
  by_cases c840 : (I 6).toInt = 2
  · refine g_tabIn (tgt := 94) (a := 2) hk dX5_mayStand_4 c840 (by decide) (by decide) rfl (by decide) ?_
    replace hF := FE.pos hF c840
    refine g_aload_n hk dX5_mayStand_94 rfl ?_
    refine g_callV (n := 0) hk (k145_X5_isNameAtHand l D zt q d I A  hIv) (SP.same _) (fun _ h => h) (gi_V (List.mem_cons_of_mem _ (List.mem_append_left _ (List.mem_of_getElem? (i := 14) rfl))) (List.mem_cons_of_mem _ (List.mem_append_left _ (List.mem_of_getElem? (i := 15) rfl))) (List.mem_cons_of_mem _ (List.mem_append_left _ (List.mem_of_getElem? (i := 16) rfl))) (List.mem_cons_of_mem _ (List.mem_append_left _ (List.mem_of_getElem? (i := 4) rfl))) (gi_sub (fun w h => (List.mem_cons_of_mem _ (List.mem_append_right _ (List.mem_append_right _ (List.mem_append_right _ (List.mem_append_right _ (List.mem_append_right _ (List.mem_append_right _ (List.mem_append_left _ h))))))))) zg_k145_X5_isNameAtHand)) rfl rfl rfl (by decide +kernel) ⟨Nat.le_of_ble_eq_true rfl, Nat.le_of_ble_eq_true rfl⟩ 3 rfl rfl rfl rfl (Nat.le_of_ble_eq_true rfl) ⟨Nat.le_of_ble_eq_true rfl, Nat.le_of_ble_eq_true rfl⟩ dX5_mayStand_95 (fun v ty' w' hp hk' => ?_)
    rcases hp with ⟨hC, rfl, rfl⟩ | ⟨hC, rfl, rfl⟩
    · skip
      replace hF := FE.pos hF hC
      show GW κ 1 0 0 (wX q d I A) 98 [(0, .ref (q 3))] [.int 0]
      exact g_iret hk hR rfl (Or.inl ⟨hF, rfl, rfl⟩) dX5_mayStand_98
    · skip
      replace hF := FE.neg hF (fe_ne hC (by decide))
      show GW κ 1 0 0 (wX q d I A) 98 [(0, .ref (q 3))] [.int 1]
      exact g_iret hk hR rfl (Or.inr (⟨hF, rfl, rfl⟩)) dX5_mayStand_98
  replace hF := FE.neg hF c840
  by_cases c880 : (I 6).toInt = 3
  · refine g_tabIn (tgt := 89) (a := 3) hk dX5_mayStand_4 c880 (by decide) (by decide) rfl (by decide) ?_
    replace hF := FE.pos hF c880
    refine g_aload_n hk dX5_mayStand_89 rfl ?_
    refine g_callV (n := 0) hk (k144_X5_mayStandInRow l D zt q d I A  hIv) (SP.same _) (fun _ h => h) (gi_V (List.mem_cons_of_mem _ (List.mem_append_left _ (List.mem_of_getElem? (i := 5) rfl))) (List.mem_cons_of_mem _ (List.mem_append_left _ (List.mem_of_getElem? (i := 6) rfl))) (List.mem_cons_of_mem _ (List.mem_append_left _ (List.mem_of_getElem? (i := 7) rfl))) (List.mem_cons_of_mem _ (List.mem_append_left _ (List.mem_of_getElem? (i := 4) rfl))) (gi_sub (fun w h => (List.mem_cons_of_mem _ (List.mem_append_right _ (List.mem_append_right _ (List.mem_append_right _ (List.mem_append_right _ (List.mem_append_left _ h))))))) zg_k144_X5_mayStandInRow)) rfl rfl rfl (by decide +kernel) ⟨Nat.le_of_ble_eq_true rfl, Nat.le_of_ble_eq_true rfl⟩ 3 rfl rfl rfl rfl (Nat.le_of_ble_eq_true rfl) ⟨Nat.le_of_ble_eq_true rfl, Nat.le_of_ble_eq_true rfl⟩ dX5_mayStand_90 (fun v ty' w' hp hk' => ?_)
    rcases hp with ⟨hC, rfl, rfl⟩ | ⟨hC, rfl, rfl⟩
    · skip
      replace hF := FE.pos hF hC
      show GW κ 1 0 0 (wX q d I A) 93 [(0, .ref (q 3))] [.int 0]
      exact g_iret hk hR rfl (Or.inl ⟨hF, rfl, rfl⟩) dX5_mayStand_93
    · skip
      replace hF := FE.neg hF (fe_ne hC (by decide))
      show GW κ 1 0 0 (wX q d I A) 93 [(0, .ref (q 3))] [.int 1]
      exact g_iret hk hR rfl (Or.inr (⟨hF, rfl, rfl⟩)) dX5_mayStand_93
  replace hF := FE.neg hF c880
  by_cases c883 : (I 6).toInt = 4
  · refine g_tabIn (tgt := 99) (a := 4) hk dX5_mayStand_4 c883 (by decide) (by decide) rfl (by decide) ?_
    replace hF := FE.pos hF c883
    refine g_aload_n hk dX5_mayStand_99 rfl ?_
    refine gX_r3_0 hk hin5 (List.mem_cons_of_mem _ (List.mem_append_left _ (List.mem_of_getElem? (i := 9) rfl))) dX5_mayStand_100 ?_
    refine gX_i1 (v := (I 1)) hk hin10 (List.mem_cons_of_mem _ (List.mem_append_left _ (List.mem_of_getElem? (i := 17) rfl))) dX5_mayStand_103 rfl ?_
    refine g_iconst (v := 2) hk dX5_mayStand_106 (by decide) ?_
    have b884l := Int32.le_toInt (I 1)
    have b884h := Int32.toInt_lt (I 1)
    refine g_icmp_ne (tgt := 114) (a := (I 1).toInt) (b := 2) hk dX5_mayStand_107 (by decide) rfl rfl (fun c885 => ?_) (fun c885 => ?_)
    · skip
      replace hF := FE.pos hF c885
      refine g_iconst (v := 0) hk dX5_mayStand_114 (by decide) ?_
      exact g_iret hk hR rfl (Or.inl ⟨hF, rfl, rfl⟩) dX5_mayStand_115
    · skip
      replace hF := FE.neg hF c885
      refine g_iconst (v := 1) hk dX5_mayStand_110 (by decide) ?_
      refine g_goto (tgt := 115) hk dX5_mayStand_111 (by decide) ?_
      exact g_iret hk hR rfl (Or.inr (⟨hF, rfl, rfl⟩)) dX5_mayStand_115
  replace hF := FE.neg hF c883
  by_cases c886 : (I 6).toInt = 5
  · refine g_tabIn (tgt := 116) (a := 5) hk dX5_mayStand_4 c886 (by decide) (by decide) rfl (by decide) ?_
    replace hF := FE.pos hF c886
    refine g_aload_n hk dX5_mayStand_116 rfl ?_
    refine g_callV (n := 0) hk (k148_X5_choiceAtHand l D zt q d I A  hIv) (SP.same _) (fun _ h => h) (gi_V (List.mem_cons_of_mem _ (List.mem_append_left _ (List.mem_of_getElem? (i := 18) rfl))) (List.mem_cons_of_mem _ (List.mem_append_left _ (List.mem_of_getElem? (i := 19) rfl))) (List.mem_cons_of_mem _ (List.mem_append_left _ (List.mem_of_getElem? (i := 20) rfl))) (List.mem_cons_of_mem _ (List.mem_append_left _ (List.mem_of_getElem? (i := 4) rfl))) (gi_sub (fun w h => (List.mem_cons_of_mem _ (List.mem_append_right _ (List.mem_append_right _ (List.mem_append_right _ (List.mem_append_right _ (List.mem_append_right _ (List.mem_append_right _ (List.mem_append_right _ (List.mem_append_left _ h)))))))))) zg_k148_X5_choiceAtHand)) rfl rfl rfl (by decide +kernel) ⟨Nat.le_of_ble_eq_true rfl, Nat.le_of_ble_eq_true rfl⟩ 3 rfl rfl rfl rfl (Nat.le_of_ble_eq_true rfl) ⟨Nat.le_of_ble_eq_true rfl, Nat.le_of_ble_eq_true rfl⟩ dX5_mayStand_117 (fun v ty' w' hp hk' => ?_)
    obtain ⟨y895, c896, c897, hC, rfl, rfl⟩ := hp
    replace hF := FE.lt hF (fe_s hC)
    show GW κ 1 0 0 (wX q d I A) 120 [(0, .ref (q 3))] [.int y895]
    refine g_if_lt (tgt := 127) (a := y895.toInt) hk dX5_mayStand_120 (by decide) rfl (fun c898 => ?_) (fun c898 => ?_)
    · skip
      replace hF := FE.pos hF c898
      refine g_iconst (v := 0) hk dX5_mayStand_127 (by decide) ?_
      exact g_iret hk hR rfl (Or.inl ⟨hF, rfl, rfl⟩) dX5_mayStand_128
    · skip
      replace hF := FE.neg hF c898
      refine g_iconst (v := 1) hk dX5_mayStand_123 (by decide) ?_
      refine g_goto (tgt := 128) hk dX5_mayStand_124 (by decide) ?_
      exact g_iret hk hR rfl (Or.inr (⟨hF, rfl, rfl⟩)) dX5_mayStand_128
  replace hF := FE.neg hF c886
  refine g_tabOut (tgt := 129) (a := (I 6).toInt) hk dX5_mayStand_4 rfl (by omega) (by decide) ?_
  refine g_aload_n hk dX5_mayStand_129 rfl ?_
  refine gX_r3_0 hk hin5 (List.mem_cons_of_mem _ (List.mem_append_left _ (List.mem_of_getElem? (i := 9) rfl))) dX5_mayStand_130 ?_
  refine gX_i1 (v := (I 1)) hk hin10 (List.mem_cons_of_mem _ (List.mem_append_left _ (List.mem_of_getElem? (i := 17) rfl))) dX5_mayStand_133 rfl ?_
  refine g_iconst (v := 3) hk dX5_mayStand_136 (by decide) ?_
  have b899l := Int32.le_toInt (I 1)
  have b899h := Int32.toInt_lt (I 1)
  refine g_icmp_ne (tgt := 144) (a := (I 1).toInt) (b := 3) hk dX5_mayStand_137 (by decide) rfl rfl (fun c900 => ?_) (fun c900 => ?_)
  · skip
    replace hF := FE.pos hF c900
    refine g_iconst (v := 0) hk dX5_mayStand_144 (by decide) ?_
    exact g_iret hk hR rfl (Or.inl ⟨hF, rfl, rfl⟩) dX5_mayStand_145
  · skip
    replace hF := FE.neg hF c900
    refine g_iconst (v := 1) hk dX5_mayStand_140 (by decide) ?_
    refine g_goto (tgt := 145) hk dX5_mayStand_141 (by decide) ?_
    exact g_iret hk hR rfl (Or.inr (⟨hF, rfl, rfl⟩)) dX5_mayStand_145
