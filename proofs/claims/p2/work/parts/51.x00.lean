def wo_k114_X10_addFour : List Cond := [Cond.fieldLink RX10 15 "WarpDesk$Tape" "size" "I", Cond.fieldLink RX10 9 "WarpDesk$Tape" "bytes" "[I"]
def wz_k114_X10_addFour : List Cond := .code yX10_addFour cX10_addFour 3 none :: (wo_k114_X10_addFour ++ (wsX100 ++ ([] : List Cond)))
theorem zg_k114_X10_addFour : ∀ w ∈ wz_k114_X10_addFour, goodWord w = true := zg_cons rfl (zg_app (by decide +kernel) (zg_app zgU_wsX100 zg_nil))
theorem zi_k114_X10_addFour : ∀ w ∈ wz_k114_X10_addFour, w ∈ lw_tbl := zi_cons zw_525 (zi_app (zi_cons zw_137 (zi_cons zw_135 zi_nil)) (zi_app inX10 zi_nil))
set_option maxHeartbeats 4000000 in
set_option maxRecDepth 100000 in
theorem k114_X10_addFour (l : Launch) (D : va_G) (zt : Nat × Nat × Nat × (Nat → Nat) × (Nat → Nat)) (q : Nat → Nat) (d : Nat → ClassId) (I : Nat → Int32) (A : Nat → Nat → Int32) (z1 : Int32) (hIv : IvX I A) (hp0 : (I 0).toInt ≤ 1996) : GM l D zt (tyX d) yX10_addFour wz_k114_X10_addFour ({ frames := 0, cells := 0, slots := 0, locals := 0 } : Room) [.ref (q 1), .int z1] (wX q d I A) (fun v _ w' => ∃ (I' : Nat → Int32) (A' : Nat → Nat → Int32), Md [0] I I' ∧ Md [0] A A' ∧ IvX I' A' ∧ ((I' 0).toInt = (I 0).toInt + 4) ∧ v = none ∧ w' = wX q d I' A') 0 0 := by
  refine GM.of (cc := cX10_addFour) (maxL := 3) (ret := none) (own := RX10) (lv := [(0, .ref (q 1)), (1, .int z1)]) (by decide) rfl rfl (Nat.le_of_ble_eq_true rfl) rfl (fun κ sz hk hR hN => ?_)
  have hin10 : ∀ w ∈ u_ws RX10 TX10 7, w ∈ wz_k114_X10_addFour := fun w h => (List.mem_cons_of_mem _ (List.mem_append_right _ (List.mem_append_left _ h)))
  refine g_bipush (v := 24) hk dX10_addFour_0 (by decide) ?_
  refine g_istore_n (lv' := [(2, .int 24), (0, .ref (q 1)), (1, .int z1)]) hk dX10_addFour_2 (by decide) rfl ?_
  have lp288 : ∀ (n289 : Nat) (x248 : Int32) (I251 : Nat → Int32) (A251 : Nat → Nat → Int32), (Md [0] I I251) → (Md [0] A A251) → (IvX I251 A251) → ((-8) ≤ x248.toInt) → (x248.toInt ≤ 24) → (8 * (I251 0).toInt - 8 * (I 0).toInt = 24 - x248.toInt) → (x248.toInt + 1 - 0 < (n289 : Int)) → (0 < n289) → GW κ 3 0 0 (wX q d I251 A251) 3 [(2, .int x248), (0, .ref (q 1)), (1, .int z1)] [] := by
    intro n289
    induction n289 with
    | zero =>
      intro x248 I251 A251 hI251 hA251 hV251 h285 h286 h287 m290 m290z
      exact absurd m290z (Nat.lt_irrefl 0)
    | succ n289 ih =>
      intro x248 I251 A251 hI251 hA251 hV251 h285 h286 h287 m290 m290z
      refine g_iload_n hk dX10_addFour_3 rfl ?_
      refine g_if_lt (tgt := 58) (a := x248.toInt) hk dX10_addFour_4 (by decide) rfl (fun c291 => ?_) (fun c291 => ?_)
      · skip
        have f292 := IvX_f0 hV251
        have f293 := IvX_f0 hIv
        exact g_vret hk hR ⟨I251, A251, (show Md [0] I I251 from (Md.tr Md.rf hI251 rfl)), (show Md [0] A A251 from (Md.tr Md.rf hA251 rfl)), hV251, (show ((I251 0)).toInt = (I 0).toInt + 4 from by omega), rfl, rfl⟩ dX10_addFour_58
      · skip
        refine g_aload_n hk dX10_addFour_7 rfl ?_
        refine gX_i0 (v := (I251 0)) hk hin10 (List.mem_cons_of_mem _ (List.mem_append_left _ (List.mem_of_getElem? (i := 0) rfl))) dX10_addFour_8 rfl ?_
        have f294 := IvX_f0 hV251
        refine g_if_lt (tgt := 52) (a := (I251 0).toInt) hk dX10_addFour_11 (by decide) rfl (fun z9 => absurd z9 (show ¬ ((I251 0).toInt < 0) from by omega)) (fun _ => ?_)
        refine g_aload_n hk dX10_addFour_14 rfl ?_
        refine gX_i0 (v := (I251 0)) hk hin10 (List.mem_cons_of_mem _ (List.mem_append_left _ (List.mem_of_getElem? (i := 0) rfl))) dX10_addFour_15 rfl ?_
        refine g_aload_n hk dX10_addFour_18 rfl ?_
        refine gX_r1_0 hk hin10 (List.mem_cons_of_mem _ (List.mem_append_left _ (List.mem_of_getElem? (i := 1) rfl))) dX10_addFour_19 ?_
        refine nX_0 hk dX10_addFour_22 ?_
        refine g_icmp_ge (tgt := 52) (a := (I251 0).toInt) (b := 2000) hk dX10_addFour_23 (by decide) rfl rfl (fun c295 => ?_) (fun c295 => ?_)
        · skip
          obtain ⟨y296, ey296⟩ : ∃ y : Int32, y = x248 + Int32.ofInt (-8) := ⟨_, rfl⟩
          have hy296 : y296.toInt = x248.toInt + (-8) := i32_add ey296 rfl (by decide) (by omega) (by omega)
          refine g_iinc (v := y296) (lv' := [(2, .int y296), (0, .ref (q 1)), (1, .int z1)]) hk 0 dX10_addFour_52 rfl ey296.symm (by decide) rfl ?_
          refine g_goto (tgt := 3) hk dX10_addFour_55 (by decide) ?_
          exact g_lv (List.forall_mem_cons.mpr ⟨List.mem_of_getElem? (i := 0) rfl, (List.forall_mem_cons.mpr ⟨List.mem_of_getElem? (i := 1) rfl, (List.forall_mem_cons.mpr ⟨List.mem_of_getElem? (i := 2) rfl, (fun _ h => absurd h List.not_mem_nil)⟩)⟩)⟩) (ih y296 I251 A251 (show Md [0] I I251 from Md.tr hI251 (show Md [0] I251 I251 from Md.rf) rfl) (show Md [0] A A251 from Md.tr hA251 (show Md [0] A251 A251 from Md.rf) rfl) hV251 (by omega) (by omega) (show 8 * (I251 0).toInt - 8 * (I 0).toInt = 24 - y296.toInt from by omega) (by omega) (by omega))
        · skip
          refine g_aload_n hk dX10_addFour_26 rfl ?_
          refine gX_r1_0 hk hin10 (List.mem_cons_of_mem _ (List.mem_append_left _ (List.mem_of_getElem? (i := 1) rfl))) dX10_addFour_27 ?_
          refine g_aload_n hk dX10_addFour_30 rfl ?_
          refine gX_i0 (v := (I251 0)) hk hin10 (List.mem_cons_of_mem _ (List.mem_append_left _ (List.mem_of_getElem? (i := 0) rfl))) dX10_addFour_31 rfl ?_
          refine g_iload_n hk dX10_addFour_34 rfl ?_
          refine g_iload_n hk dX10_addFour_35 rfl ?_
          refine g_iushr hk dX10_addFour_36 rfl ?_
          refine g_topi (fun y297 ey297 => ?_)
          refine g_sipush (v := 255) hk dX10_addFour_37 (by decide) ?_
          have b298l := Int32.le_toInt y297
          have b298h := Int32.toInt_lt y297
          refine g_iand hk dX10_addFour_40 ?_
          refine g_topi (fun y299 ey299 => ?_)
          have hy299 : 0 ≤ y299.toInt ∧ y299.toInt ≤ 255 := i32_mask 8 ey299 (by decide) (by decide)
          refine sX_0 (j := (I251 0).toNatClampNeg) hk (vp_in_iff.mpr ⟨by omega, by omega⟩) rfl dX10_addFour_41 ?_
          refine g_aload_n hk dX10_addFour_42 rfl ?_
          refine g_dup hk dX10_addFour_43 rfl ?_
          refine gX_i0 (v := (I251 0)) hk hin10 (List.mem_cons_of_mem _ (List.mem_append_left _ (List.mem_of_getElem? (i := 0) rfl))) dX10_addFour_44 rfl ?_
          refine g_iconst (v := 1) hk dX10_addFour_47 (by decide) ?_
          refine g_iadd hk dX10_addFour_48 ?_
          refine g_topi (fun y300 ey300 => ?_)
          have hy300 : y300.toInt = (I251 0).toInt + 1 := i32_add ey300 rfl rfl (by omega) (by omega)
          refine pX_i0 hk hin10 (List.mem_cons_of_mem _ (List.mem_append_left _ (List.mem_of_getElem? (i := 0) rfl))) dX10_addFour_49 ?_
          obtain ⟨y301, ey301⟩ : ∃ y : Int32, y = x248 + Int32.ofInt (-8) := ⟨_, rfl⟩
          have hy301 : y301.toInt = x248.toInt + (-8) := i32_add ey301 rfl (by decide) (by omega) (by omega)
          refine g_iinc (v := y301) (lv' := [(2, .int y301), (0, .ref (q 1)), (1, .int z1)]) hk 0 dX10_addFour_52 rfl ey301.symm (by decide) rfl ?_
          refine g_goto (tgt := 3) hk dX10_addFour_55 (by decide) ?_
          exact g_lv (List.forall_mem_cons.mpr ⟨List.mem_of_getElem? (i := 0) rfl, (List.forall_mem_cons.mpr ⟨List.mem_of_getElem? (i := 1) rfl, (List.forall_mem_cons.mpr ⟨List.mem_of_getElem? (i := 2) rfl, (fun _ h => absurd h List.not_mem_nil)⟩)⟩)⟩) (ih y301 (upd I251 0 y300) (up3 A251 0 ((I251 0).toNatClampNeg) y299) (show Md [0] I (upd I251 0 y300) from Md.tr hI251 (show Md [0] I251 (upd I251 0 y300) from (Md.up Md.rf rfl)) rfl) (show Md [0] A (up3 A251 0 ((I251 0).toNatClampNeg) y299) from Md.tr hA251 (show Md [0] A251 (up3 A251 0 ((I251 0).toNatClampNeg) y299) from (Md.up3 Md.rf rfl)) rfl) ⟨(show 0 ≤ y300.toInt ∧ y300.toInt ≤ 2000 from ⟨by omega, by omega⟩), (IvX_f18 (I := I251) (A := A251) hV251), (IvX_f30 (I := I251) (A := A251) hV251), (IvX_f31 (I := I251) (A := A251) hV251), (IvX_a4 (I := I251) (A := A251) hV251), (IvX_a9 (I := I251) (A := A251) hV251), trivial⟩ (by omega) (by omega) (show 8 * y300.toInt - 8 * (I 0).toInt = 24 - y301.toInt from by omega) (by omega) (by omega))
  have k303 : (24 : Int32).toInt = 24 := rfl
  obtain ⟨n302, n302a, n302b⟩ : ∃ n : Nat, 24 + 1 - 0 < (n : Int) ∧ 0 < n := ⟨((24 + 1 - 0 : Int)).toNat + 1, by omega, by omega⟩
  exact lp288 n302 24 I A Md.rf Md.rf hIv (by omega) (by omega) (show 8 * (I 0).toInt - 8 * (I 0).toInt = 24 - 24 from by omega) n302a n302b
def wo_k113_X11_feed : List Cond := [Cond.fieldLink RX11 10 "WarpDesk" "tape" "LWarpDesk$Tape;", Cond.fieldLink RX11 85 "WarpDesk$Tape" "size" "I", Cond.methodLink RX11 89 yX10_addFour, Cond.instanceMethod yX10_addFour, Cond.selects RX10 yX10_addFour yX10_addFour, Cond.initialized RX10]
def wz_k113_X11_feed : List Cond := .code yX11_feed cX11_feed 6 (some .int) :: (wo_k113_X11_feed ++ (wsX100 ++ (wsX110 ++ (wz_k114_X10_addFour ++ ([] : List Cond)))))
theorem zg_k113_X11_feed : ∀ w ∈ wz_k113_X11_feed, goodWord w = true := zg_cons rfl (zg_app (by decide +kernel) (zg_app zgU_wsX100 (zg_app zgU_wsX110 (zg_app zg_k114_X10_addFour zg_nil))))
theorem zi_k113_X11_feed : ∀ w ∈ wz_k113_X11_feed, w ∈ lw_tbl := zi_cons zw_521 (zi_app (zi_cons zw_487 (zi_cons zw_136 (zi_cons zw_522 (zi_cons zw_523 (zi_cons zw_524 (zi_cons zw_104 zi_nil)))))) (zi_app inX10 (zi_app inX11 (zi_app zi_k114_X10_addFour zi_nil))))
set_option maxHeartbeats 4000000 in
set_option maxRecDepth 100000 in
theorem k113_X11_feed (l : Launch) (D : va_G) (zt : Nat × Nat × Nat × (Nat → Nat) × (Nat → Nat)) (q : Nat → Nat) (d : Nat → ClassId) (I : Nat → Int32) (A : Nat → Nat → Int32) (z1 : Int32) (z2 : Int32) (z3 : Int32) (z4 : Int32) (z5 : Int32) (hIv : IvX I A) : GM l D zt (tyX d) yX11_feed wz_k113_X11_feed ({ frames := 1, cells := 0, slots := 0, locals := 22 } : Room) [.ref (q 0), .int z1, .int z2, .int z3, .int z4, .int z5] (wX q d I A) (fun v _ w' => ∃ (I' : Nat → Int32) (A' : Nat → Nat → Int32), Md [0] I I' ∧ Md [0] A A' ∧ IvX I' A' ∧ ∃ y0 : Int32, ((1980 < (I 0).toInt ∧ y0.toInt = -1 ∧ (I' 0).toInt = (I 0).toInt) ∨ ((I 0).toInt ≤ 1980 ∧ y0.toInt = (I 0).toInt + 20 ∧ (I' 0).toInt = (I 0).toInt + 20)) ∧ ((-1) ≤ y0.toInt) ∧ (y0.toInt ≤ 2000) ∧ v = some (.int y0) ∧ w' = wX q d I' A') 0 0 := by
  refine GM.of (cc := cX11_feed) (maxL := 6) (ret := (some .int)) (own := RX11) (lv := [(0, .ref (q 0)), (1, .int z1), (2, .int z2), (3, .int z3), (4, .int z4), (5, .int z5)]) (by decide) rfl rfl (Nat.le_of_ble_eq_true rfl) rfl (fun κ sz hk hR hN => ?_)
  have hin10 : ∀ w ∈ u_ws RX10 TX10 7, w ∈ wz_k113_X11_feed := fun w h => (List.mem_cons_of_mem _ (List.mem_append_right _ (List.mem_append_left _ h)))
  have hin11 : ∀ w ∈ u_ws RX11 TX11 10, w ∈ wz_k113_X11_feed := fun w h => (List.mem_cons_of_mem _ (List.mem_append_right _ (List.mem_append_right _ (List.mem_append_left _ h))))
  refine g_aload_n hk dX11_feed_0 rfl ?_
  refine gX_r0_0 hk hin11 (List.mem_cons_of_mem _ (List.mem_append_left _ (List.mem_of_getElem? (i := 0) rfl))) dX11_feed_1 ?_
  refine gX_i0 (v := (I 0)) hk hin10 (List.mem_cons_of_mem _ (List.mem_append_left _ (List.mem_of_getElem? (i := 1) rfl))) dX11_feed_4 rfl ?_
  have f246 := IvX_f0 hIv
  refine g_sipush (v := 1980) hk dX11_feed_7 (by decide) ?_
  refine g_icmp_le (tgt := 15) (a := (I 0).toInt) (b := 1980) hk dX11_feed_10 (by decide) rfl rfl (fun c247 => ?_) (fun c247 => ?_)
  · skip
    refine g_aload_n hk dX11_feed_15 rfl ?_
    refine gX_r0_0 hk hin11 (List.mem_cons_of_mem _ (List.mem_append_left _ (List.mem_of_getElem? (i := 0) rfl))) dX11_feed_16 ?_
    refine g_iload_n hk dX11_feed_19 rfl ?_
    refine g_callV (n := 1) hk (k114_X10_addFour l D zt q d I A z1 hIv (show (I 0).toInt ≤ 1996 from by omega)) (SP.same _) (fun _ h => h) (gi_V (List.mem_cons_of_mem _ (List.mem_append_left _ (List.mem_of_getElem? (i := 2) rfl))) (List.mem_cons_of_mem _ (List.mem_append_left _ (List.mem_of_getElem? (i := 3) rfl))) (List.mem_cons_of_mem _ (List.mem_append_left _ (List.mem_of_getElem? (i := 4) rfl))) (List.mem_cons_of_mem _ (List.mem_append_left _ (List.mem_of_getElem? (i := 5) rfl))) (gi_sub (fun w h => (List.mem_cons_of_mem _ (List.mem_append_right _ (List.mem_append_right _ (List.mem_append_right _ (List.mem_append_left _ h)))))) zg_k114_X10_addFour)) rfl rfl rfl (by decide +kernel) ⟨Nat.le_of_ble_eq_true rfl, Nat.le_of_ble_eq_true rfl⟩ 1 rfl rfl rfl rfl (Nat.le_of_ble_eq_true rfl) ⟨Nat.le_of_ble_eq_true rfl, Nat.le_of_ble_eq_true rfl⟩ dX11_feed_20 (fun v ty' w' hp hk' => ?_)
    obtain ⟨I305, A305, hI305, hA305, hV305, r306, rfl, rfl⟩ := hp
    have f307 := IvX_f0 hV305
    have r306 : (I305 0).toInt = (I 0).toInt + 4 := r306
    show GW κ 6 0 0 (wX q d I305 A305) 23 [(0, .ref (q 0)), (1, .int z1), (2, .int z2), (3, .int z3), (4, .int z4), (5, .int z5)] []
    refine g_aload_n hk dX11_feed_23 rfl ?_
    refine gX_r0_0 hk hin11 (List.mem_cons_of_mem _ (List.mem_append_left _ (List.mem_of_getElem? (i := 0) rfl))) dX11_feed_24 ?_
    refine g_iload_n hk dX11_feed_27 rfl ?_
    refine g_callV (n := 1) hk (k114_X10_addFour l D zt q d I305 A305 z2 hV305 (show (I305 0).toInt ≤ 1996 from by omega)) (SP.same _) (fun _ h => h) (gi_V (List.mem_cons_of_mem _ (List.mem_append_left _ (List.mem_of_getElem? (i := 2) rfl))) (List.mem_cons_of_mem _ (List.mem_append_left _ (List.mem_of_getElem? (i := 3) rfl))) (List.mem_cons_of_mem _ (List.mem_append_left _ (List.mem_of_getElem? (i := 4) rfl))) (List.mem_cons_of_mem _ (List.mem_append_left _ (List.mem_of_getElem? (i := 5) rfl))) (gi_sub (fun w h => (List.mem_cons_of_mem _ (List.mem_append_right _ (List.mem_append_right _ (List.mem_append_right _ (List.mem_append_left _ h)))))) zg_k114_X10_addFour)) rfl rfl rfl (by decide +kernel) ⟨Nat.le_of_ble_eq_true rfl, Nat.le_of_ble_eq_true rfl⟩ 1 rfl rfl rfl rfl (Nat.le_of_ble_eq_true rfl) ⟨Nat.le_of_ble_eq_true rfl, Nat.le_of_ble_eq_true rfl⟩ dX11_feed_28 (fun v ty' w' hp hk' => ?_)
    obtain ⟨I309, A309, hI309, hA309, hV309, r310, rfl, rfl⟩ := hp
    have f311 := IvX_f0 hV309
    have r310 : (I309 0).toInt = (I305 0).toInt + 4 := r310
    show GW κ 6 0 0 (wX q d I309 A309) 31 [(0, .ref (q 0)), (1, .int z1), (2, .int z2), (3, .int z3), (4, .int z4), (5, .int z5)] []
    refine g_aload_n hk dX11_feed_31 rfl ?_
    refine gX_r0_0 hk hin11 (List.mem_cons_of_mem _ (List.mem_append_left _ (List.mem_of_getElem? (i := 0) rfl))) dX11_feed_32 ?_
    refine g_iload_n hk dX11_feed_35 rfl ?_
    refine g_callV (n := 1) hk (k114_X10_addFour l D zt q d I309 A309 z3 hV309 (show (I309 0).toInt ≤ 1996 from by omega)) (SP.same _) (fun _ h => h) (gi_V (List.mem_cons_of_mem _ (List.mem_append_left _ (List.mem_of_getElem? (i := 2) rfl))) (List.mem_cons_of_mem _ (List.mem_append_left _ (List.mem_of_getElem? (i := 3) rfl))) (List.mem_cons_of_mem _ (List.mem_append_left _ (List.mem_of_getElem? (i := 4) rfl))) (List.mem_cons_of_mem _ (List.mem_append_left _ (List.mem_of_getElem? (i := 5) rfl))) (gi_sub (fun w h => (List.mem_cons_of_mem _ (List.mem_append_right _ (List.mem_append_right _ (List.mem_append_right _ (List.mem_append_left _ h)))))) zg_k114_X10_addFour)) rfl rfl rfl (by decide +kernel) ⟨Nat.le_of_ble_eq_true rfl, Nat.le_of_ble_eq_true rfl⟩ 1 rfl rfl rfl rfl (Nat.le_of_ble_eq_true rfl) ⟨Nat.le_of_ble_eq_true rfl, Nat.le_of_ble_eq_true rfl⟩ dX11_feed_36 (fun v ty' w' hp hk' => ?_)
    obtain ⟨I313, A313, hI313, hA313, hV313, r314, rfl, rfl⟩ := hp
    have f315 := IvX_f0 hV313
    have r314 : (I313 0).toInt = (I309 0).toInt + 4 := r314
    show GW κ 6 0 0 (wX q d I313 A313) 39 [(0, .ref (q 0)), (1, .int z1), (2, .int z2), (3, .int z3), (4, .int z4), (5, .int z5)] []
    refine g_aload_n hk dX11_feed_39 rfl ?_
    refine gX_r0_0 hk hin11 (List.mem_cons_of_mem _ (List.mem_append_left _ (List.mem_of_getElem? (i := 0) rfl))) dX11_feed_40 ?_
    refine g_iload hk dX11_feed_43 rfl ?_
    refine g_callV (n := 1) hk (k114_X10_addFour l D zt q d I313 A313 z4 hV313 (show (I313 0).toInt ≤ 1996 from by omega)) (SP.same _) (fun _ h => h) (gi_V (List.mem_cons_of_mem _ (List.mem_append_left _ (List.mem_of_getElem? (i := 2) rfl))) (List.mem_cons_of_mem _ (List.mem_append_left _ (List.mem_of_getElem? (i := 3) rfl))) (List.mem_cons_of_mem _ (List.mem_append_left _ (List.mem_of_getElem? (i := 4) rfl))) (List.mem_cons_of_mem _ (List.mem_append_left _ (List.mem_of_getElem? (i := 5) rfl))) (gi_sub (fun w h => (List.mem_cons_of_mem _ (List.mem_append_right _ (List.mem_append_right _ (List.mem_append_right _ (List.mem_append_left _ h)))))) zg_k114_X10_addFour)) rfl rfl rfl (by decide +kernel) ⟨Nat.le_of_ble_eq_true rfl, Nat.le_of_ble_eq_true rfl⟩ 1 rfl rfl rfl rfl (Nat.le_of_ble_eq_true rfl) ⟨Nat.le_of_ble_eq_true rfl, Nat.le_of_ble_eq_true rfl⟩ dX11_feed_45 (fun v ty' w' hp hk' => ?_)
    obtain ⟨I317, A317, hI317, hA317, hV317, r318, rfl, rfl⟩ := hp
    have f319 := IvX_f0 hV317
    have r318 : (I317 0).toInt = (I313 0).toInt + 4 := r318
    show GW κ 6 0 0 (wX q d I317 A317) 48 [(0, .ref (q 0)), (1, .int z1), (2, .int z2), (3, .int z3), (4, .int z4), (5, .int z5)] []
    refine g_aload_n hk dX11_feed_48 rfl ?_
    refine gX_r0_0 hk hin11 (List.mem_cons_of_mem _ (List.mem_append_left _ (List.mem_of_getElem? (i := 0) rfl))) dX11_feed_49 ?_
    refine g_iload hk dX11_feed_52 rfl ?_
    refine g_callV (n := 1) hk (k114_X10_addFour l D zt q d I317 A317 z5 hV317 (show (I317 0).toInt ≤ 1996 from by omega)) (SP.same _) (fun _ h => h) (gi_V (List.mem_cons_of_mem _ (List.mem_append_left _ (List.mem_of_getElem? (i := 2) rfl))) (List.mem_cons_of_mem _ (List.mem_append_left _ (List.mem_of_getElem? (i := 3) rfl))) (List.mem_cons_of_mem _ (List.mem_append_left _ (List.mem_of_getElem? (i := 4) rfl))) (List.mem_cons_of_mem _ (List.mem_append_left _ (List.mem_of_getElem? (i := 5) rfl))) (gi_sub (fun w h => (List.mem_cons_of_mem _ (List.mem_append_right _ (List.mem_append_right _ (List.mem_append_right _ (List.mem_append_left _ h)))))) zg_k114_X10_addFour)) rfl rfl rfl (by decide +kernel) ⟨Nat.le_of_ble_eq_true rfl, Nat.le_of_ble_eq_true rfl⟩ 1 rfl rfl rfl rfl (Nat.le_of_ble_eq_true rfl) ⟨Nat.le_of_ble_eq_true rfl, Nat.le_of_ble_eq_true rfl⟩ dX11_feed_54 (fun v ty' w' hp hk' => ?_)
    obtain ⟨I321, A321, hI321, hA321, hV321, r322, rfl, rfl⟩ := hp
    have f323 := IvX_f0 hV321
    have r322 : (I321 0).toInt = (I317 0).toInt + 4 := r322
    show GW κ 6 0 0 (wX q d I321 A321) 57 [(0, .ref (q 0)), (1, .int z1), (2, .int z2), (3, .int z3), (4, .int z4), (5, .int z5)] []
    refine g_aload_n hk dX11_feed_57 rfl ?_
    refine gX_r0_0 hk hin11 (List.mem_cons_of_mem _ (List.mem_append_left _ (List.mem_of_getElem? (i := 0) rfl))) dX11_feed_58 ?_
    refine gX_i0 (v := (I321 0)) hk hin10 (List.mem_cons_of_mem _ (List.mem_append_left _ (List.mem_of_getElem? (i := 1) rfl))) dX11_feed_61 rfl ?_
    exact g_iret hk hR rfl ⟨I321, A321, (show Md [0] I I321 from (Md.tr (Md.tr (Md.tr (Md.tr (Md.tr Md.rf hI305 rfl) hI309 rfl) hI313 rfl) hI317 rfl) hI321 rfl)), (show Md [0] A A321 from (Md.tr (Md.tr (Md.tr (Md.tr (Md.tr Md.rf hA305 rfl) hA309 rfl) hA313 rfl) hA317 rfl) hA321 rfl)), hV321, (I321 0), (show (1980 < (I 0).toInt ∧ (I321 0).toInt = -1 ∧ ((I321 0)).toInt = (I 0).toInt) ∨ ((I 0).toInt ≤ 1980 ∧ (I321 0).toInt = (I 0).toInt + 20 ∧ ((I321 0)).toInt = (I 0).toInt + 20) from by omega), (by omega), (by omega), rfl, rfl⟩ dX11_feed_64
  · skip
    refine g_iconst (v := (-1)) hk dX11_feed_13 (by decide) ?_
    have k324 : ((-1) : Int32).toInt = (-1) := rfl
    exact g_iret hk hR rfl ⟨I, A, (show Md [0] I I from Md.rf), (show Md [0] A A from Md.rf), hIv, (-1), (show (1980 < (I 0).toInt ∧ ((-1) : Int32).toInt = -1 ∧ ((I 0)).toInt = (I 0).toInt) ∨ ((I 0).toInt ≤ 1980 ∧ ((-1) : Int32).toInt = (I 0).toInt + 20 ∧ ((I 0)).toInt = (I 0).toInt + 20) from by omega), (by decide), (by decide), rfl, rfl⟩ dX11_feed_14
def wo_k115_X11_back : List Cond := [Cond.fieldLink RX11 10 "WarpDesk" "tape" "LWarpDesk$Tape;", Cond.fieldLink RX11 85 "WarpDesk$Tape" "size" "I"]
def wz_k115_X11_back : List Cond := .code yX11_back cX11_back 2 (some .int) :: (wo_k115_X11_back ++ (wsX100 ++ (wsX110 ++ ([] : List Cond))))
theorem zg_k115_X11_back : ∀ w ∈ wz_k115_X11_back, goodWord w = true := zg_cons rfl (zg_app (by decide +kernel) (zg_app zgU_wsX100 (zg_app zgU_wsX110 zg_nil)))
theorem zi_k115_X11_back : ∀ w ∈ wz_k115_X11_back, w ∈ lw_tbl := zi_cons zw_529 (zi_app (zi_cons zw_487 (zi_cons zw_136 zi_nil)) (zi_app inX10 (zi_app inX11 zi_nil)))
set_option maxHeartbeats 4000000 in
set_option maxRecDepth 100000 in
theorem k115_X11_back (l : Launch) (D : va_G) (zt : Nat × Nat × Nat × (Nat → Nat) × (Nat → Nat)) (q : Nat → Nat) (d : Nat → ClassId) (I : Nat → Int32) (A : Nat → Nat → Int32) (z1 : Int32) (hIv : IvX I A) : GM l D zt (tyX d) yX11_back wz_k115_X11_back ({ frames := 0, cells := 0, slots := 0, locals := 0 } : Room) [.ref (q 0), .int z1] (wX q d I A) (fun v _ w' => ∃ (I' : Nat → Int32) (A' : Nat → Nat → Int32), Md [0] I I' ∧ Md [] A A' ∧ IvX I' A' ∧ ∃ y0 : Int32, (((z1.toInt < 0 ∨ (I 0).toInt < z1.toInt) ∧ y0.toInt = -1 ∧ (I' 0).toInt = (I 0).toInt) ∨ (0 ≤ z1.toInt ∧ z1.toInt ≤ (I 0).toInt ∧ y0.toInt = (I 0).toInt - z1.toInt ∧ (I' 0).toInt = (I 0).toInt - z1.toInt)) ∧ ((-2000) ≤ y0.toInt) ∧ (y0.toInt ≤ 2000) ∧ v = some (.int y0) ∧ w' = wX q d I' A') 0 0 := by
  refine GM.of (cc := cX11_back) (maxL := 2) (ret := (some .int)) (own := RX11) (lv := [(0, .ref (q 0)), (1, .int z1)]) (by decide) rfl rfl (Nat.le_of_ble_eq_true rfl) rfl (fun κ sz hk hR hN => ?_)
  have hin10 : ∀ w ∈ u_ws RX10 TX10 7, w ∈ wz_k115_X11_back := fun w h => (List.mem_cons_of_mem _ (List.mem_append_right _ (List.mem_append_left _ h)))
  have hin11 : ∀ w ∈ u_ws RX11 TX11 10, w ∈ wz_k115_X11_back := fun w h => (List.mem_cons_of_mem _ (List.mem_append_right _ (List.mem_append_right _ (List.mem_append_left _ h))))
  refine g_iload_n hk dX11_back_0 rfl ?_
  have b325l := Int32.le_toInt z1
  have b325h := Int32.toInt_lt z1
  refine g_if_lt (tgt := 15) (a := z1.toInt) hk dX11_back_1 (by decide) rfl (fun c326 => ?_) (fun c326 => ?_)
  · skip
    refine g_iconst (v := (-1)) hk dX11_back_15 (by decide) ?_
    have f327 := IvX_f0 hIv
    have k328 : ((-1) : Int32).toInt = (-1) := rfl
    exact g_iret hk hR rfl ⟨I, A, (show Md [0] I I from Md.rf), (show Md [] A A from Md.rf), hIv, (-1), (show ((z1.toInt < 0 ∨ (I 0).toInt < z1.toInt) ∧ ((-1) : Int32).toInt = -1 ∧ ((I 0)).toInt = (I 0).toInt) ∨ (0 ≤ z1.toInt ∧ z1.toInt ≤ (I 0).toInt ∧ ((-1) : Int32).toInt = (I 0).toInt - z1.toInt ∧ ((I 0)).toInt = (I 0).toInt - z1.toInt) from by omega), (by decide), (by decide), rfl, rfl⟩ dX11_back_16
  · skip
    refine g_iload_n hk dX11_back_4 rfl ?_
    refine g_aload_n hk dX11_back_5 rfl ?_
    refine gX_r0_0 hk hin11 (List.mem_cons_of_mem _ (List.mem_append_left _ (List.mem_of_getElem? (i := 0) rfl))) dX11_back_6 ?_
    refine gX_i0 (v := (I 0)) hk hin10 (List.mem_cons_of_mem _ (List.mem_append_left _ (List.mem_of_getElem? (i := 1) rfl))) dX11_back_9 rfl ?_
    have f329 := IvX_f0 hIv
    refine g_icmp_le (tgt := 17) (a := z1.toInt) (b := (I 0).toInt) hk dX11_back_12 (by decide) rfl rfl (fun c330 => ?_) (fun c330 => ?_)
    · skip
      refine g_aload_n hk dX11_back_17 rfl ?_
      refine gX_r0_0 hk hin11 (List.mem_cons_of_mem _ (List.mem_append_left _ (List.mem_of_getElem? (i := 0) rfl))) dX11_back_18 ?_
      refine g_dup hk dX11_back_21 rfl ?_
      refine gX_i0 (v := (I 0)) hk hin10 (List.mem_cons_of_mem _ (List.mem_append_left _ (List.mem_of_getElem? (i := 1) rfl))) dX11_back_22 rfl ?_
      refine g_iload_n hk dX11_back_25 rfl ?_
      refine g_isub hk dX11_back_26 ?_
      refine g_topi (fun y331 ey331 => ?_)
      have hy331 : y331.toInt = (I 0).toInt - z1.toInt := i32_sub ey331 rfl rfl (by omega) (by omega)
      refine pX_i0 hk hin10 (List.mem_cons_of_mem _ (List.mem_append_left _ (List.mem_of_getElem? (i := 1) rfl))) dX11_back_27 ?_
      refine g_aload_n hk dX11_back_30 rfl ?_
      refine gX_r0_0 hk hin11 (List.mem_cons_of_mem _ (List.mem_append_left _ (List.mem_of_getElem? (i := 0) rfl))) dX11_back_31 ?_
      refine gX_i0 (v := y331) hk hin10 (List.mem_cons_of_mem _ (List.mem_append_left _ (List.mem_of_getElem? (i := 1) rfl))) dX11_back_34 rfl ?_
      exact g_iret hk hR rfl ⟨(upd I 0 y331), A, (show Md [0] I (upd I 0 y331) from (Md.up Md.rf rfl)), (show Md [] A A from Md.rf), ⟨(show 0 ≤ y331.toInt ∧ y331.toInt ≤ 2000 from ⟨by omega, by omega⟩), (IvX_f18 (I := I) (A := A) hIv), (IvX_f30 (I := I) (A := A) hIv), (IvX_f31 (I := I) (A := A) hIv), (IvX_a4 (I := I) (A := A) hIv), (IvX_a9 (I := I) (A := A) hIv), trivial⟩, y331, (show ((z1.toInt < 0 ∨ (I 0).toInt < z1.toInt) ∧ y331.toInt = -1 ∧ (y331).toInt = (I 0).toInt) ∨ (0 ≤ z1.toInt ∧ z1.toInt ≤ (I 0).toInt ∧ y331.toInt = (I 0).toInt - z1.toInt ∧ (y331).toInt = (I 0).toInt - z1.toInt) from by omega), (by omega), (by omega), rfl, rfl⟩ dX11_back_37
    · skip
      refine g_iconst (v := (-1)) hk dX11_back_15 (by decide) ?_
      have k332 : ((-1) : Int32).toInt = (-1) := rfl
      exact g_iret hk hR rfl ⟨I, A, (show Md [0] I I from Md.rf), (show Md [] A A from Md.rf), hIv, (-1), (show ((z1.toInt < 0 ∨ (I 0).toInt < z1.toInt) ∧ ((-1) : Int32).toInt = -1 ∧ ((I 0)).toInt = (I 0).toInt) ∨ (0 ≤ z1.toInt ∧ z1.toInt ≤ (I 0).toInt ∧ ((-1) : Int32).toInt = (I 0).toInt - z1.toInt ∧ ((I 0)).toInt = (I 0).toInt - z1.toInt) from by omega), (by decide), (by decide), rfl, rfl⟩ dX11_back_16
def wo_k121_X7_put : List Cond := [Cond.fieldLink RX7 20 "WarpDesk$Settings" "values" "[I"]
def wz_k121_X7_put : List Cond := .code yX7_put cX7_put 3 none :: (wo_k121_X7_put ++ (wsX70 ++ ([] : List Cond)))
theorem zg_k121_X7_put : ∀ w ∈ wz_k121_X7_put, goodWord w = true := zg_cons rfl (zg_app (by decide +kernel) (zg_app zgU_wsX70 zg_nil))
theorem zi_k121_X7_put : ∀ w ∈ wz_k121_X7_put, w ∈ lw_tbl := zi_cons zw_553 (zi_app (zi_cons zw_190 zi_nil) (zi_app inX7 zi_nil))
set_option maxHeartbeats 4000000 in
set_option maxRecDepth 100000 in
theorem k121_X7_put (l : Launch) (D : va_G) (zt : Nat × Nat × Nat × (Nat → Nat) × (Nat → Nat)) (q : Nat → Nat) (d : Nat → ClassId) (I : Nat → Int32) (A : Nat → Nat → Int32) (z1 : Int32) (z2 : Int32) (hIv : IvX I A) : GM l D zt (tyX d) yX7_put wz_k121_X7_put ({ frames := 0, cells := 0, slots := 0, locals := 0 } : Room) [.ref (q 6), .int z1, .int z2] (wX q d I A) (fun v _ w' => ∃ (I' : Nat → Int32) (A' : Nat → Nat → Int32), Md [] I I' ∧ Md [2] A A' ∧ IvX I' A' ∧ v = none ∧ w' = wX q d I' A') 0 0 := by
  refine GM.of (cc := cX7_put) (maxL := 3) (ret := none) (own := RX7) (lv := [(0, .ref (q 6)), (1, .int z1), (2, .int z2)]) (by decide) rfl rfl (Nat.le_of_ble_eq_true rfl) rfl (fun κ sz hk hR hN => ?_)
  have hin7 : ∀ w ∈ u_ws RX7 TX7 1, w ∈ wz_k121_X7_put := fun w h => (List.mem_cons_of_mem _ (List.mem_append_right _ (List.mem_append_left _ h)))
  refine g_iload_n hk dX7_put_0 rfl ?_
  have b336l := Int32.le_toInt z1
  have b336h := Int32.toInt_lt z1
  refine g_if_lt (tgt := 20) (a := z1.toInt) hk dX7_put_1 (by decide) rfl (fun c337 => ?_) (fun c337 => ?_)
  · skip
    exact g_vret hk hR ⟨I, A, (show Md [] I I from Md.rf), (show Md [2] A A from Md.rf), hIv, rfl, rfl⟩ dX7_put_20
  · skip
    refine g_iload_n hk dX7_put_4 rfl ?_
    refine g_aload_n hk dX7_put_5 rfl ?_
    refine gX_r6_0 hk hin7 (List.mem_cons_of_mem _ (List.mem_append_left _ (List.mem_of_getElem? (i := 0) rfl))) dX7_put_6 ?_
    refine nX_2 hk dX7_put_9 ?_
    refine g_icmp_ge (tgt := 20) (a := z1.toInt) (b := 4) hk dX7_put_10 (by decide) rfl rfl (fun c338 => ?_) (fun c338 => ?_)
    · skip
      exact g_vret hk hR ⟨I, A, (show Md [] I I from Md.rf), (show Md [2] A A from Md.rf), hIv, rfl, rfl⟩ dX7_put_20
    · skip
      refine g_aload_n hk dX7_put_13 rfl ?_
      refine gX_r6_0 hk hin7 (List.mem_cons_of_mem _ (List.mem_append_left _ (List.mem_of_getElem? (i := 0) rfl))) dX7_put_14 ?_
      refine g_iload_n hk dX7_put_17 rfl ?_
      refine g_iload_n hk dX7_put_18 rfl ?_
      refine sX_2 (j := z1.toNatClampNeg) hk (vp_in_iff.mpr ⟨by omega, by omega⟩) rfl dX7_put_19 ?_
      exact g_vret hk hR ⟨I, (up3 A 2 (z1.toNatClampNeg) z2), (show Md [] I I from Md.rf), (show Md [2] A (up3 A 2 (z1.toNatClampNeg) z2) from (Md.up3 Md.rf rfl)), ⟨(IvX_f0 (I := I) (A := A) hIv), (IvX_f18 (I := I) (A := A) hIv), (IvX_f30 (I := I) (A := A) hIv), (IvX_f31 (I := I) (A := A) hIv), (IvX_a4 (I := I) (A := A) hIv), (IvX_a9 (I := I) (A := A) hIv), trivial⟩, rfl, rfl⟩ dX7_put_20
def wo_k120_X7_clear : List Cond := [Cond.fieldLink RX7 9 "WarpDesk$Settings" "UNTOLD" "[I", Cond.methodLink RX7 29 yX7_put, Cond.instanceMethod yX7_put, Cond.selects RX7 yX7_put yX7_put, Cond.initialized RX7]
def wz_k120_X7_clear : List Cond := .code yX7_clear cX7_clear 2 none :: (wo_k120_X7_clear ++ (wz_k121_X7_put ++ ([] : List Cond)))
theorem zg_k120_X7_clear : ∀ w ∈ wz_k120_X7_clear, goodWord w = true := zg_cons rfl (zg_app (by decide +kernel) (zg_app zg_k121_X7_put zg_nil))
theorem zi_k120_X7_clear : ∀ w ∈ wz_k120_X7_clear, w ∈ lw_tbl := zi_cons zw_549 (zi_app (zi_cons zw_181 (zi_cons zw_550 (zi_cons zw_551 (zi_cons zw_552 (zi_cons zw_107 zi_nil))))) (zi_app zi_k121_X7_put zi_nil))
set_option maxHeartbeats 4000000 in
set_option maxRecDepth 100000 in
theorem k120_X7_clear (l : Launch) (D : va_G) (zt : Nat × Nat × Nat × (Nat → Nat) × (Nat → Nat)) (q : Nat → Nat) (d : Nat → ClassId) (I : Nat → Int32) (A : Nat → Nat → Int32) (hIv : IvX I A) : GM l D zt (tyX d) yX7_clear wz_k120_X7_clear ({ frames := 1, cells := 0, slots := 0, locals := 22 } : Room) [.ref (q 6)] (wX q d I A) (fun v _ w' => ∃ (I' : Nat → Int32) (A' : Nat → Nat → Int32), Md [] I I' ∧ Md [2] A A' ∧ IvX I' A' ∧ v = none ∧ w' = wX q d I' A') 0 0 := by
  refine GM.of (cc := cX7_clear) (maxL := 2) (ret := none) (own := RX7) (lv := [(0, .ref (q 6))]) (by decide) rfl rfl (Nat.le_of_ble_eq_true rfl) rfl (fun κ sz hk hR hN => ?_)
  refine g_iconst (v := 0) hk dX7_clear_0 (by decide) ?_
  refine g_istore_n (lv' := [(1, .int 0), (0, .ref (q 6))]) hk dX7_clear_1 (by decide) rfl ?_
  have lp411 : ∀ (n412 : Nat) (x333 : Int32) (I335 : Nat → Int32) (A335 : Nat → Nat → Int32), (Md [] I I335) → (Md [2] A A335) → (IvX I335 A335) → (0 ≤ x333.toInt) → (x333.toInt ≤ 4) → (4 - x333.toInt < (n412 : Int)) → (0 < n412) → GW κ 2 0 0 (wX q d I335 A335) 2 [(1, .int x333), (0, .ref (q 6))] [] := by
    intro n412
    induction n412 with
    | zero =>
      intro x333 I335 A335 hI335 hA335 hV335 h409 h410 m413 m413z
      exact absurd m413z (Nat.lt_irrefl 0)
    | succ n412 ih =>
      intro x333 I335 A335 hI335 hA335 hV335 h409 h410 m413 m413z
      refine g_iload_n hk dX7_clear_2 rfl ?_
      refine g_getsU hk (List.mem_cons_of_mem _ (List.mem_append_left _ (List.mem_of_getElem? (i := 0) rfl))) dX7_clear_3 ?_
      refine g_lenU hk dX7_clear_6 ?_
      refine g_icmp_ge (tgt := 26) (a := x333.toInt) (b := 4) hk dX7_clear_7 (by decide) rfl rfl (fun c414 => ?_) (fun c414 => ?_)
      · skip
        exact g_vret hk hR ⟨I335, A335, (show Md [] I I335 from (Md.tr Md.rf hI335 rfl)), (show Md [2] A A335 from (Md.tr Md.rf hA335 rfl)), hV335, rfl, rfl⟩ dX7_clear_26
      · skip
        refine g_aload_n hk dX7_clear_10 rfl ?_
        refine g_iload_n hk dX7_clear_11 rfl ?_
        refine g_getsU hk (List.mem_cons_of_mem _ (List.mem_append_left _ (List.mem_of_getElem? (i := 0) rfl))) dX7_clear_12 ?_
        refine g_iload_n hk dX7_clear_15 rfl ?_
        by_cases c415 : x333.toInt = 0
        · have ec415 : x333 = 0 := Int32.toInt_inj.mp c415
          rw [ec415]
          show GW κ 2 0 0 (wX q d I335 A335) 16 [(1, .int 0), (0, .ref (q 6))] [.int 0, .ref zt.2.2.1, .int 0, .ref (q 6)]
          refine g_sU (v := .int 2) hk (vp_in_iff.mpr ⟨by decide, by decide⟩) rfl dX7_clear_16 ?_
          have k416 : (0 : Int32).toInt = 0 := rfl
          have k417 : (2 : Int32).toInt = 2 := rfl
          refine g_callV (n := 2) hk (k121_X7_put l D zt q d I335 A335 0 2 hV335) (SP.same _) (fun _ h => h) (gi_V (List.mem_cons_of_mem _ (List.mem_append_left _ (List.mem_of_getElem? (i := 1) rfl))) (List.mem_cons_of_mem _ (List.mem_append_left _ (List.mem_of_getElem? (i := 2) rfl))) (List.mem_cons_of_mem _ (List.mem_append_left _ (List.mem_of_getElem? (i := 3) rfl))) (List.mem_cons_of_mem _ (List.mem_append_left _ (List.mem_of_getElem? (i := 4) rfl))) (gi_sub (fun w h => (List.mem_cons_of_mem _ (List.mem_append_right _ (List.mem_append_left _ h)))) zg_k121_X7_put)) rfl rfl rfl (by decide +kernel) ⟨Nat.le_of_ble_eq_true rfl, Nat.le_of_ble_eq_true rfl⟩ 6 rfl rfl rfl rfl (Nat.le_of_ble_eq_true rfl) ⟨Nat.le_of_ble_eq_true rfl, Nat.le_of_ble_eq_true rfl⟩ dX7_clear_17 (fun v ty' w' hp hk' => ?_)
          obtain ⟨I419, A419, hI419, hA419, hV419, rfl, rfl⟩ := hp
          show GW κ 2 0 0 (wX q d I419 A419) 20 [(1, .int 0), (0, .ref (q 6))] []
          refine g_iinc (v := 1) (lv' := [(1, .int 1), (0, .ref (q 6))]) hk 0 dX7_clear_20 rfl (by decide) (by decide) rfl ?_
          refine g_goto (tgt := 2) hk dX7_clear_23 (by decide) ?_
          have k420 : (1 : Int32).toInt = 1 := rfl
          exact g_lv (List.forall_mem_cons.mpr ⟨List.mem_of_getElem? (i := 0) rfl, (List.forall_mem_cons.mpr ⟨List.mem_of_getElem? (i := 1) rfl, (fun _ h => absurd h List.not_mem_nil)⟩)⟩) (ih 1 I419 A419 (show Md [] I I419 from Md.tr hI335 (show Md [] I335 I419 from (Md.tr Md.rf hI419 rfl)) rfl) (show Md [2] A A419 from Md.tr hA335 (show Md [2] A335 A419 from (Md.tr Md.rf hA419 rfl)) rfl) hV419 (by omega) (by omega) (by omega) (by omega))
        by_cases c421 : x333.toInt = 1
        · have ec421 : x333 = 1 := Int32.toInt_inj.mp c421
          rw [ec421]
          show GW κ 2 0 0 (wX q d I335 A335) 16 [(1, .int 1), (0, .ref (q 6))] [.int 1, .ref zt.2.2.1, .int 1, .ref (q 6)]
          refine g_sU (v := .int 0) hk (vp_in_iff.mpr ⟨by decide, by decide⟩) rfl dX7_clear_16 ?_
          have k422 : (1 : Int32).toInt = 1 := rfl
          have k423 : (0 : Int32).toInt = 0 := rfl
          refine g_callV (n := 2) hk (k121_X7_put l D zt q d I335 A335 1 0 hV335) (SP.same _) (fun _ h => h) (gi_V (List.mem_cons_of_mem _ (List.mem_append_left _ (List.mem_of_getElem? (i := 1) rfl))) (List.mem_cons_of_mem _ (List.mem_append_left _ (List.mem_of_getElem? (i := 2) rfl))) (List.mem_cons_of_mem _ (List.mem_append_left _ (List.mem_of_getElem? (i := 3) rfl))) (List.mem_cons_of_mem _ (List.mem_append_left _ (List.mem_of_getElem? (i := 4) rfl))) (gi_sub (fun w h => (List.mem_cons_of_mem _ (List.mem_append_right _ (List.mem_append_left _ h)))) zg_k121_X7_put)) rfl rfl rfl (by decide +kernel) ⟨Nat.le_of_ble_eq_true rfl, Nat.le_of_ble_eq_true rfl⟩ 6 rfl rfl rfl rfl (Nat.le_of_ble_eq_true rfl) ⟨Nat.le_of_ble_eq_true rfl, Nat.le_of_ble_eq_true rfl⟩ dX7_clear_17 (fun v ty' w' hp hk' => ?_)
          obtain ⟨I425, A425, hI425, hA425, hV425, rfl, rfl⟩ := hp
          show GW κ 2 0 0 (wX q d I425 A425) 20 [(1, .int 1), (0, .ref (q 6))] []
          refine g_iinc (v := 2) (lv' := [(1, .int 2), (0, .ref (q 6))]) hk 0 dX7_clear_20 rfl (by decide) (by decide) rfl ?_
          refine g_goto (tgt := 2) hk dX7_clear_23 (by decide) ?_
          have k426 : (2 : Int32).toInt = 2 := rfl
          exact g_lv (List.forall_mem_cons.mpr ⟨List.mem_of_getElem? (i := 0) rfl, (List.forall_mem_cons.mpr ⟨List.mem_of_getElem? (i := 1) rfl, (fun _ h => absurd h List.not_mem_nil)⟩)⟩) (ih 2 I425 A425 (show Md [] I I425 from Md.tr hI335 (show Md [] I335 I425 from (Md.tr Md.rf hI425 rfl)) rfl) (show Md [2] A A425 from Md.tr hA335 (show Md [2] A335 A425 from (Md.tr Md.rf hA425 rfl)) rfl) hV425 (by omega) (by omega) (by omega) (by omega))
        by_cases c427 : x333.toInt = 2
        · have ec427 : x333 = 2 := Int32.toInt_inj.mp c427
          rw [ec427]
          show GW κ 2 0 0 (wX q d I335 A335) 16 [(1, .int 2), (0, .ref (q 6))] [.int 2, .ref zt.2.2.1, .int 2, .ref (q 6)]
          refine g_sU (v := .int 0) hk (vp_in_iff.mpr ⟨by decide, by decide⟩) rfl dX7_clear_16 ?_
          have k428 : (2 : Int32).toInt = 2 := rfl
          have k429 : (0 : Int32).toInt = 0 := rfl
          refine g_callV (n := 2) hk (k121_X7_put l D zt q d I335 A335 2 0 hV335) (SP.same _) (fun _ h => h) (gi_V (List.mem_cons_of_mem _ (List.mem_append_left _ (List.mem_of_getElem? (i := 1) rfl))) (List.mem_cons_of_mem _ (List.mem_append_left _ (List.mem_of_getElem? (i := 2) rfl))) (List.mem_cons_of_mem _ (List.mem_append_left _ (List.mem_of_getElem? (i := 3) rfl))) (List.mem_cons_of_mem _ (List.mem_append_left _ (List.mem_of_getElem? (i := 4) rfl))) (gi_sub (fun w h => (List.mem_cons_of_mem _ (List.mem_append_right _ (List.mem_append_left _ h)))) zg_k121_X7_put)) rfl rfl rfl (by decide +kernel) ⟨Nat.le_of_ble_eq_true rfl, Nat.le_of_ble_eq_true rfl⟩ 6 rfl rfl rfl rfl (Nat.le_of_ble_eq_true rfl) ⟨Nat.le_of_ble_eq_true rfl, Nat.le_of_ble_eq_true rfl⟩ dX7_clear_17 (fun v ty' w' hp hk' => ?_)
          obtain ⟨I431, A431, hI431, hA431, hV431, rfl, rfl⟩ := hp
          show GW κ 2 0 0 (wX q d I431 A431) 20 [(1, .int 2), (0, .ref (q 6))] []
          refine g_iinc (v := 3) (lv' := [(1, .int 3), (0, .ref (q 6))]) hk 0 dX7_clear_20 rfl (by decide) (by decide) rfl ?_
          refine g_goto (tgt := 2) hk dX7_clear_23 (by decide) ?_
          have k432 : (3 : Int32).toInt = 3 := rfl
          exact g_lv (List.forall_mem_cons.mpr ⟨List.mem_of_getElem? (i := 0) rfl, (List.forall_mem_cons.mpr ⟨List.mem_of_getElem? (i := 1) rfl, (fun _ h => absurd h List.not_mem_nil)⟩)⟩) (ih 3 I431 A431 (show Md [] I I431 from Md.tr hI335 (show Md [] I335 I431 from (Md.tr Md.rf hI431 rfl)) rfl) (show Md [2] A A431 from Md.tr hA335 (show Md [2] A335 A431 from (Md.tr Md.rf hA431 rfl)) rfl) hV431 (by omega) (by omega) (by omega) (by omega))
        by_cases c433 : x333.toInt = 3
        · have ec433 : x333 = 3 := Int32.toInt_inj.mp c433
          rw [ec433]
          show GW κ 2 0 0 (wX q d I335 A335) 16 [(1, .int 3), (0, .ref (q 6))] [.int 3, .ref zt.2.2.1, .int 3, .ref (q 6)]
          refine g_sU (v := .int 8) hk (vp_in_iff.mpr ⟨by decide, by decide⟩) rfl dX7_clear_16 ?_
          have k434 : (3 : Int32).toInt = 3 := rfl
          have k435 : (8 : Int32).toInt = 8 := rfl
          refine g_callV (n := 2) hk (k121_X7_put l D zt q d I335 A335 3 8 hV335) (SP.same _) (fun _ h => h) (gi_V (List.mem_cons_of_mem _ (List.mem_append_left _ (List.mem_of_getElem? (i := 1) rfl))) (List.mem_cons_of_mem _ (List.mem_append_left _ (List.mem_of_getElem? (i := 2) rfl))) (List.mem_cons_of_mem _ (List.mem_append_left _ (List.mem_of_getElem? (i := 3) rfl))) (List.mem_cons_of_mem _ (List.mem_append_left _ (List.mem_of_getElem? (i := 4) rfl))) (gi_sub (fun w h => (List.mem_cons_of_mem _ (List.mem_append_right _ (List.mem_append_left _ h)))) zg_k121_X7_put)) rfl rfl rfl (by decide +kernel) ⟨Nat.le_of_ble_eq_true rfl, Nat.le_of_ble_eq_true rfl⟩ 6 rfl rfl rfl rfl (Nat.le_of_ble_eq_true rfl) ⟨Nat.le_of_ble_eq_true rfl, Nat.le_of_ble_eq_true rfl⟩ dX7_clear_17 (fun v ty' w' hp hk' => ?_)
          obtain ⟨I437, A437, hI437, hA437, hV437, rfl, rfl⟩ := hp
          show GW κ 2 0 0 (wX q d I437 A437) 20 [(1, .int 3), (0, .ref (q 6))] []
          refine g_iinc (v := 4) (lv' := [(1, .int 4), (0, .ref (q 6))]) hk 0 dX7_clear_20 rfl (by decide) (by decide) rfl ?_
          refine g_goto (tgt := 2) hk dX7_clear_23 (by decide) ?_
          have k438 : (4 : Int32).toInt = 4 := rfl
          exact g_lv (List.forall_mem_cons.mpr ⟨List.mem_of_getElem? (i := 0) rfl, (List.forall_mem_cons.mpr ⟨List.mem_of_getElem? (i := 1) rfl, (fun _ h => absurd h List.not_mem_nil)⟩)⟩) (ih 4 I437 A437 (show Md [] I I437 from Md.tr hI335 (show Md [] I335 I437 from (Md.tr Md.rf hI437 rfl)) rfl) (show Md [2] A A437 from Md.tr hA335 (show Md [2] A335 A437 from (Md.tr Md.rf hA437 rfl)) rfl) hV437 (by omega) (by omega) (by omega) (by omega))
        exfalso; omega
  have k440 : (0 : Int32).toInt = 0 := rfl
  obtain ⟨n439, n439a, n439b⟩ : ∃ n : Nat, 4 - 0 < (n : Int) ∧ 0 < n := ⟨((4 - 0 : Int)).toNat + 1, by omega, by omega⟩
  exact lp411 n439 0 I A Md.rf Md.rf hIv (by omega) (by omega) n439a n439b
def wo_k119_X8_clear : List Cond := [Cond.fieldLink RX8 22 "WarpDesk$Stand" "size" "I", Cond.fieldLink RX8 18 "WarpDesk$Stand" "settings" "LWarpDesk$Settings;", Cond.methodLink RX8 26 yX7_clear, Cond.instanceMethod yX7_clear, Cond.selects RX7 yX7_clear yX7_clear, Cond.initialized RX7]
def wz_k119_X8_clear : List Cond := .code yX8_clear cX8_clear 1 none :: (wo_k119_X8_clear ++ (wsX80 ++ (wz_k120_X7_clear ++ ([] : List Cond))))
theorem zg_k119_X8_clear : ∀ w ∈ wz_k119_X8_clear, goodWord w = true := zg_cons rfl (zg_app (by decide +kernel) (zg_app zgU_wsX80 (zg_app zg_k120_X7_clear zg_nil)))
theorem zi_k119_X8_clear : ∀ w ∈ wz_k119_X8_clear, w ∈ lw_tbl := zi_cons zw_545 (zi_app (zi_cons zw_195 (zi_cons zw_198 (zi_cons zw_546 (zi_cons zw_547 (zi_cons zw_548 (zi_cons zw_107 zi_nil)))))) (zi_app inX8 (zi_app zi_k120_X7_clear zi_nil)))
set_option maxHeartbeats 4000000 in
set_option maxRecDepth 100000 in
theorem k119_X8_clear (l : Launch) (D : va_G) (zt : Nat × Nat × Nat × (Nat → Nat) × (Nat → Nat)) (q : Nat → Nat) (d : Nat → ClassId) (I : Nat → Int32) (A : Nat → Nat → Int32) (hIv : IvX I A) : GM l D zt (tyX d) yX8_clear wz_k119_X8_clear ({ frames := 2, cells := 0, slots := 0, locals := 43 } : Room) [.ref (q 4)] (wX q d I A) (fun v _ w' => ∃ (I' : Nat → Int32) (A' : Nat → Nat → Int32), Md [14] I I' ∧ Md [2] A A' ∧ IvX I' A' ∧ v = none ∧ w' = wX q d I' A') 0 0 := by
  refine GM.of (cc := cX8_clear) (maxL := 1) (ret := none) (own := RX8) (lv := [(0, .ref (q 4))]) (by decide) rfl rfl (Nat.le_of_ble_eq_true rfl) rfl (fun κ sz hk hR hN => ?_)
  have hin8 : ∀ w ∈ u_ws RX8 TX8 4, w ∈ wz_k119_X8_clear := fun w h => (List.mem_cons_of_mem _ (List.mem_append_right _ (List.mem_append_left _ h)))
  refine g_aload_n hk dX8_clear_0 rfl ?_
  refine g_iconst (v := 0) hk dX8_clear_1 (by decide) ?_
  refine pX_i14 hk hin8 (List.mem_cons_of_mem _ (List.mem_append_left _ (List.mem_of_getElem? (i := 0) rfl))) dX8_clear_2 ?_
  refine g_aload_n hk dX8_clear_5 rfl ?_
  refine gX_r4_2 hk hin8 (List.mem_cons_of_mem _ (List.mem_append_left _ (List.mem_of_getElem? (i := 1) rfl))) dX8_clear_6 ?_
  refine g_callV (n := 0) hk (k120_X7_clear l D zt q d (upd I 14 0) A  ⟨(IvX_f0 (I := I) (A := A) hIv), (IvX_f18 (I := I) (A := A) hIv), (IvX_f30 (I := I) (A := A) hIv), (IvX_f31 (I := I) (A := A) hIv), (IvX_a4 (I := I) (A := A) hIv), (IvX_a9 (I := I) (A := A) hIv), trivial⟩) (SP.same _) (fun _ h => h) (gi_V (List.mem_cons_of_mem _ (List.mem_append_left _ (List.mem_of_getElem? (i := 2) rfl))) (List.mem_cons_of_mem _ (List.mem_append_left _ (List.mem_of_getElem? (i := 3) rfl))) (List.mem_cons_of_mem _ (List.mem_append_left _ (List.mem_of_getElem? (i := 4) rfl))) (List.mem_cons_of_mem _ (List.mem_append_left _ (List.mem_of_getElem? (i := 5) rfl))) (gi_sub (fun w h => (List.mem_cons_of_mem _ (List.mem_append_right _ (List.mem_append_right _ (List.mem_append_left _ h))))) zg_k120_X7_clear)) rfl rfl rfl (by decide +kernel) ⟨Nat.le_of_ble_eq_true rfl, Nat.le_of_ble_eq_true rfl⟩ 6 rfl rfl rfl rfl (Nat.le_of_ble_eq_true rfl) ⟨Nat.le_of_ble_eq_true rfl, Nat.le_of_ble_eq_true rfl⟩ dX8_clear_9 (fun v ty' w' hp hk' => ?_)
  obtain ⟨I442, A442, hI442, hA442, hV442, rfl, rfl⟩ := hp
  show GW κ 1 0 0 (wX q d I442 A442) 12 [(0, .ref (q 4))] []
  exact g_vret hk hR ⟨I442, A442, (show Md [14] I I442 from (Md.tr (Md.up Md.rf rfl) hI442 rfl)), (show Md [2] A A442 from (Md.tr Md.rf hA442 rfl)), hV442, rfl, rfl⟩ dX8_clear_12
def wo_k125_X10_byteAt : List Cond := [Cond.fieldLink RX10 15 "WarpDesk$Tape" "size" "I", Cond.fieldLink RX10 9 "WarpDesk$Tape" "bytes" "[I"]
def wz_k125_X10_byteAt : List Cond := .code yX10_byteAt cX10_byteAt 2 (some .int) :: (wo_k125_X10_byteAt ++ (wsX100 ++ ([] : List Cond)))
theorem zg_k125_X10_byteAt : ∀ w ∈ wz_k125_X10_byteAt, goodWord w = true := zg_cons rfl (zg_app (by decide +kernel) (zg_app zgU_wsX100 zg_nil))
theorem zi_k125_X10_byteAt : ∀ w ∈ wz_k125_X10_byteAt, w ∈ lw_tbl := zi_cons zw_569 (zi_app (zi_cons zw_137 (zi_cons zw_135 zi_nil)) (zi_app inX10 zi_nil))
set_option maxHeartbeats 4000000 in
set_option maxRecDepth 100000 in
theorem k125_X10_byteAt (l : Launch) (D : va_G) (zt : Nat × Nat × Nat × (Nat → Nat) × (Nat → Nat)) (q : Nat → Nat) (d : Nat → ClassId) (I : Nat → Int32) (A : Nat → Nat → Int32) (z1 : Int32) (hIv : IvX I A) : GM l D zt (tyX d) yX10_byteAt wz_k125_X10_byteAt ({ frames := 0, cells := 0, slots := 0, locals := 0 } : Room) [.ref (q 1), .int z1] (wX q d I A) (fun v _ w' => ∃ y0 : Int32, v = some (.int y0) ∧ w' = wX q d I A) 0 0 := by
  refine GM.of (cc := cX10_byteAt) (maxL := 2) (ret := (some .int)) (own := RX10) (lv := [(0, .ref (q 1)), (1, .int z1)]) (by decide) rfl rfl (Nat.le_of_ble_eq_true rfl) rfl (fun κ sz hk hR hN => ?_)
  have hin10 : ∀ w ∈ u_ws RX10 TX10 7, w ∈ wz_k125_X10_byteAt := fun w h => (List.mem_cons_of_mem _ (List.mem_append_right _ (List.mem_append_left _ h)))
  refine g_iload_n hk dX10_byteAt_0 rfl ?_
  have b452l := Int32.le_toInt z1
  have b452h := Int32.toInt_lt z1
  refine g_if_lt (tgt := 30) (a := z1.toInt) hk dX10_byteAt_1 (by decide) rfl (fun c453 => ?_) (fun c453 => ?_)
  · skip
    refine g_iconst (v := (-1)) hk dX10_byteAt_30 (by decide) ?_
    exact g_iret hk hR rfl ⟨(-1), rfl, rfl⟩ dX10_byteAt_31
  · skip
    refine g_iload_n hk dX10_byteAt_4 rfl ?_
    refine g_aload_n hk dX10_byteAt_5 rfl ?_
    refine gX_i0 (v := (I 0)) hk hin10 (List.mem_cons_of_mem _ (List.mem_append_left _ (List.mem_of_getElem? (i := 0) rfl))) dX10_byteAt_6 rfl ?_
    have f454 := IvX_f0 hIv
    refine g_icmp_ge (tgt := 30) (a := z1.toInt) (b := (I 0).toInt) hk dX10_byteAt_9 (by decide) rfl rfl (fun c455 => ?_) (fun c455 => ?_)
    · skip
      refine g_iconst (v := (-1)) hk dX10_byteAt_30 (by decide) ?_
      exact g_iret hk hR rfl ⟨(-1), rfl, rfl⟩ dX10_byteAt_31
    · skip
      refine g_iload_n hk dX10_byteAt_12 rfl ?_
      refine g_aload_n hk dX10_byteAt_13 rfl ?_
      refine gX_r1_0 hk hin10 (List.mem_cons_of_mem _ (List.mem_append_left _ (List.mem_of_getElem? (i := 1) rfl))) dX10_byteAt_14 ?_
      refine nX_0 hk dX10_byteAt_17 ?_
      refine g_icmp_ge (tgt := 30) (a := z1.toInt) (b := 2000) hk dX10_byteAt_18 (by decide) rfl rfl (fun z9 => absurd z9 (show ¬ (2000 ≤ z1.toInt) from by omega)) (fun _ => ?_)
      refine g_aload_n hk dX10_byteAt_21 rfl ?_
      refine gX_r1_0 hk hin10 (List.mem_cons_of_mem _ (List.mem_append_left _ (List.mem_of_getElem? (i := 1) rfl))) dX10_byteAt_22 ?_
      refine g_iload_n hk dX10_byteAt_25 rfl ?_
      refine lX_0 (v := (A 0 z1.toNatClampNeg)) hk (vp_in_iff.mpr ⟨by omega, by omega⟩) rfl dX10_byteAt_26 ?_
      refine g_goto (tgt := 31) hk dX10_byteAt_27 (by decide) ?_
      have b456l := Int32.le_toInt (A 0 z1.toNatClampNeg)
      have b456h := Int32.toInt_lt (A 0 z1.toNatClampNeg)
      exact g_iret hk hR rfl ⟨(A 0 z1.toNatClampNeg), rfl, rfl⟩ dX10_byteAt_31
def wo_k124_X10_behindBlanks : List Cond := [Cond.fieldLink RX10 15 "WarpDesk$Tape" "size" "I", Cond.methodLink RX10 38 yX10_byteAt, Cond.instanceMethod yX10_byteAt, Cond.selects RX10 yX10_byteAt yX10_byteAt, Cond.initialized RX10]
def wz_k124_X10_behindBlanks : List Cond := .code yX10_behindBlanks cX10_behindBlanks 4 (some .int) :: (wo_k124_X10_behindBlanks ++ (wsX100 ++ (wz_k125_X10_byteAt ++ ([] : List Cond))))
theorem zg_k124_X10_behindBlanks : ∀ w ∈ wz_k124_X10_behindBlanks, goodWord w = true := zg_cons rfl (zg_app (by decide +kernel) (zg_app zgU_wsX100 (zg_app zg_k125_X10_byteAt zg_nil)))
theorem zi_k124_X10_behindBlanks : ∀ w ∈ wz_k124_X10_behindBlanks, w ∈ lw_tbl := zi_cons zw_565 (zi_app (zi_cons zw_137 (zi_cons zw_566 (zi_cons zw_568 (zi_cons zw_2 (zi_cons zw_104 zi_nil))))) (zi_app inX10 (zi_app zi_k125_X10_byteAt zi_nil)))
set_option maxHeartbeats 4000000 in
set_option maxRecDepth 100000 in
theorem k124_X10_behindBlanks (l : Launch) (D : va_G) (zt : Nat × Nat × Nat × (Nat → Nat) × (Nat → Nat)) (q : Nat → Nat) (d : Nat → ClassId) (I : Nat → Int32) (A : Nat → Nat → Int32) (z1 : Int32) (hIv : IvX I A) : GM l D zt (tyX d) yX10_behindBlanks wz_k124_X10_behindBlanks ({ frames := 1, cells := 0, slots := 0, locals := 21 } : Room) [.ref (q 1), .int z1] (wX q d I A) (fun v _ w' => ∃ y0 : Int32, (y0.toInt ≤ 2000) ∧ v = some (.int y0) ∧ w' = wX q d I A) 0 0 := by
  refine GM.of (cc := cX10_behindBlanks) (maxL := 4) (ret := (some .int)) (own := RX10) (lv := [(0, .ref (q 1)), (1, .int z1)]) (by decide) rfl rfl (Nat.le_of_ble_eq_true rfl) rfl (fun κ sz hk hR hN => ?_)
  have hin10 : ∀ w ∈ u_ws RX10 TX10 7, w ∈ wz_k124_X10_behindBlanks := fun w h => (List.mem_cons_of_mem _ (List.mem_append_right _ (List.mem_append_left _ h)))
  refine g_iload_n hk dX10_behindBlanks_0 rfl ?_
  refine g_istore_n (lv' := [(2, .int z1), (0, .ref (q 1)), (1, .int z1)]) hk dX10_behindBlanks_1 (by decide) rfl ?_
  have lp480 : ∀ (n481 : Nat) (x445 : Int32), (2001 - x445.toInt < (n481 : Int)) → (0 < n481) → GW κ 4 0 0 (wX q d I A) 2 [(2, .int x445), (0, .ref (q 1)), (1, .int z1)] [] := by
    intro n481
    induction n481 with
    | zero =>
      intro x445 m482 m482z
      exact absurd m482z (Nat.lt_irrefl 0)
    | succ n481 ih =>
      intro x445 m482 m482z
      refine g_iload_n hk dX10_behindBlanks_2 rfl ?_
      refine g_aload_n hk dX10_behindBlanks_3 rfl ?_
      refine gX_i0 (v := (I 0)) hk hin10 (List.mem_cons_of_mem _ (List.mem_append_left _ (List.mem_of_getElem? (i := 0) rfl))) dX10_behindBlanks_4 rfl ?_
      have f483 := IvX_f0 hIv
      have b484l := Int32.le_toInt x445
      have b484h := Int32.toInt_lt x445
      refine g_icmp_ge (tgt := 48) (a := x445.toInt) (b := (I 0).toInt) hk dX10_behindBlanks_7 (by decide) rfl rfl (fun c485 => ?_) (fun c485 => ?_)
      · skip
        refine g_aload_n hk dX10_behindBlanks_48 rfl ?_
        refine gX_i0 (v := (I 0)) hk hin10 (List.mem_cons_of_mem _ (List.mem_append_left _ (List.mem_of_getElem? (i := 0) rfl))) dX10_behindBlanks_49 rfl ?_
        exact g_iret hk hR rfl ⟨(I 0), (by omega), rfl, rfl⟩ dX10_behindBlanks_52
      · skip
        refine g_aload_n hk dX10_behindBlanks_10 rfl ?_
        refine g_iload_n hk dX10_behindBlanks_11 rfl ?_
        refine g_callV (n := 1) hk (k125_X10_byteAt l D zt q d I A x445 hIv) (SP.same _) (fun _ h => h) (gi_V (List.mem_cons_of_mem _ (List.mem_append_left _ (List.mem_of_getElem? (i := 1) rfl))) (List.mem_cons_of_mem _ (List.mem_append_left _ (List.mem_of_getElem? (i := 2) rfl))) (List.mem_cons_of_mem _ (List.mem_append_left _ (List.mem_of_getElem? (i := 3) rfl))) (List.mem_cons_of_mem _ (List.mem_append_left _ (List.mem_of_getElem? (i := 4) rfl))) (gi_sub (fun w h => (List.mem_cons_of_mem _ (List.mem_append_right _ (List.mem_append_right _ (List.mem_append_left _ h))))) zg_k125_X10_byteAt)) rfl rfl rfl (by decide +kernel) ⟨Nat.le_of_ble_eq_true rfl, Nat.le_of_ble_eq_true rfl⟩ 1 rfl rfl rfl rfl (Nat.le_of_ble_eq_true rfl) ⟨Nat.le_of_ble_eq_true rfl, Nat.le_of_ble_eq_true rfl⟩ dX10_behindBlanks_12 (fun v ty' w' hp hk' => ?_)
        obtain ⟨y486, rfl, rfl⟩ := hp
        show GW κ 4 0 0 (wX q d I A) 15 [(2, .int x445), (0, .ref (q 1)), (1, .int z1)] [.int y486]
        refine g_istore_n (lv' := [(3, .int y486), (2, .int x445), (0, .ref (q 1)), (1, .int z1)]) hk dX10_behindBlanks_15 (by decide) rfl ?_
        refine g_iload_n hk dX10_behindBlanks_16 rfl ?_
        refine g_bipush (v := 9) hk dX10_behindBlanks_17 (by decide) ?_
        have b487l := Int32.le_toInt y486
        have b487h := Int32.toInt_lt y486
        refine g_icmp_eq (tgt := 42) (a := y486.toInt) (b := 9) hk dX10_behindBlanks_19 (by decide) rfl rfl (fun c488 => ?_) (fun c488 => ?_)
        · skip
          obtain ⟨y489, ey489⟩ : ∃ y : Int32, y = x445 + Int32.ofInt 1 := ⟨_, rfl⟩
          have hy489 : y489.toInt = x445.toInt + 1 := i32_add ey489 rfl (by decide) (by omega) (by omega)
          refine g_iinc (v := y489) (lv' := [(2, .int y489), (3, .int y486), (0, .ref (q 1)), (1, .int z1)]) hk 1 dX10_behindBlanks_42 rfl ey489.symm (by decide) rfl ?_
          refine g_goto (tgt := 2) hk dX10_behindBlanks_45 (by decide) ?_
          exact g_lv (List.forall_mem_cons.mpr ⟨List.mem_of_getElem? (i := 0) rfl, (List.forall_mem_cons.mpr ⟨List.mem_of_getElem? (i := 2) rfl, (List.forall_mem_cons.mpr ⟨List.mem_of_getElem? (i := 3) rfl, (fun _ h => absurd h List.not_mem_nil)⟩)⟩)⟩) (ih y489 (by omega) (by omega))
        · skip
          refine g_iload_n hk dX10_behindBlanks_22 rfl ?_
          refine g_bipush (v := 10) hk dX10_behindBlanks_23 (by decide) ?_
          refine g_icmp_eq (tgt := 42) (a := y486.toInt) (b := 10) hk dX10_behindBlanks_25 (by decide) rfl rfl (fun c490 => ?_) (fun c490 => ?_)
          · skip
            obtain ⟨y491, ey491⟩ : ∃ y : Int32, y = x445 + Int32.ofInt 1 := ⟨_, rfl⟩
            have hy491 : y491.toInt = x445.toInt + 1 := i32_add ey491 rfl (by decide) (by omega) (by omega)
            refine g_iinc (v := y491) (lv' := [(2, .int y491), (3, .int y486), (0, .ref (q 1)), (1, .int z1)]) hk 1 dX10_behindBlanks_42 rfl ey491.symm (by decide) rfl ?_
            refine g_goto (tgt := 2) hk dX10_behindBlanks_45 (by decide) ?_
            exact g_lv (List.forall_mem_cons.mpr ⟨List.mem_of_getElem? (i := 0) rfl, (List.forall_mem_cons.mpr ⟨List.mem_of_getElem? (i := 2) rfl, (List.forall_mem_cons.mpr ⟨List.mem_of_getElem? (i := 3) rfl, (fun _ h => absurd h List.not_mem_nil)⟩)⟩)⟩) (ih y491 (by omega) (by omega))
          · skip
            refine g_iload_n hk dX10_behindBlanks_28 rfl ?_
            refine g_bipush (v := 13) hk dX10_behindBlanks_29 (by decide) ?_
            refine g_icmp_eq (tgt := 42) (a := y486.toInt) (b := 13) hk dX10_behindBlanks_31 (by decide) rfl rfl (fun c492 => ?_) (fun c492 => ?_)
            · skip
              obtain ⟨y493, ey493⟩ : ∃ y : Int32, y = x445 + Int32.ofInt 1 := ⟨_, rfl⟩
              have hy493 : y493.toInt = x445.toInt + 1 := i32_add ey493 rfl (by decide) (by omega) (by omega)
              refine g_iinc (v := y493) (lv' := [(2, .int y493), (3, .int y486), (0, .ref (q 1)), (1, .int z1)]) hk 1 dX10_behindBlanks_42 rfl ey493.symm (by decide) rfl ?_
              refine g_goto (tgt := 2) hk dX10_behindBlanks_45 (by decide) ?_
              exact g_lv (List.forall_mem_cons.mpr ⟨List.mem_of_getElem? (i := 0) rfl, (List.forall_mem_cons.mpr ⟨List.mem_of_getElem? (i := 2) rfl, (List.forall_mem_cons.mpr ⟨List.mem_of_getElem? (i := 3) rfl, (fun _ h => absurd h List.not_mem_nil)⟩)⟩)⟩) (ih y493 (by omega) (by omega))
            · skip
              refine g_iload_n hk dX10_behindBlanks_34 rfl ?_
              refine g_bipush (v := 32) hk dX10_behindBlanks_35 (by decide) ?_
              refine g_icmp_eq (tgt := 42) (a := y486.toInt) (b := 32) hk dX10_behindBlanks_37 (by decide) rfl rfl (fun c494 => ?_) (fun c494 => ?_)
              · skip
                obtain ⟨y495, ey495⟩ : ∃ y : Int32, y = x445 + Int32.ofInt 1 := ⟨_, rfl⟩
                have hy495 : y495.toInt = x445.toInt + 1 := i32_add ey495 rfl (by decide) (by omega) (by omega)
                refine g_iinc (v := y495) (lv' := [(2, .int y495), (3, .int y486), (0, .ref (q 1)), (1, .int z1)]) hk 1 dX10_behindBlanks_42 rfl ey495.symm (by decide) rfl ?_
                refine g_goto (tgt := 2) hk dX10_behindBlanks_45 (by decide) ?_
                exact g_lv (List.forall_mem_cons.mpr ⟨List.mem_of_getElem? (i := 0) rfl, (List.forall_mem_cons.mpr ⟨List.mem_of_getElem? (i := 2) rfl, (List.forall_mem_cons.mpr ⟨List.mem_of_getElem? (i := 3) rfl, (fun _ h => absurd h List.not_mem_nil)⟩)⟩)⟩) (ih y495 (by omega) (by omega))
              · skip
                refine g_iload_n hk dX10_behindBlanks_40 rfl ?_
                exact g_iret hk hR rfl ⟨x445, (by omega), rfl, rfl⟩ dX10_behindBlanks_41
  have b497l := Int32.le_toInt z1
  have b497h := Int32.toInt_lt z1
  obtain ⟨n496, n496a, n496b⟩ : ∃ n : Nat, 2001 - z1.toInt < (n : Int) ∧ 0 < n := ⟨((2001 - z1.toInt : Int)).toNat + 1, by omega, by omega⟩
  exact lp480 n496 z1 n496a n496b
def wo_k126_X10_isLetter : List Cond := []
def wz_k126_X10_isLetter : List Cond := .code yX10_isLetter cX10_isLetter 1 (some .boolean) :: (wo_k126_X10_isLetter ++ ([] : List Cond))
theorem zg_k126_X10_isLetter : ∀ w ∈ wz_k126_X10_isLetter, goodWord w = true := zg_cons rfl (zg_app (by decide +kernel) zg_nil)
theorem zi_k126_X10_isLetter : ∀ w ∈ wz_k126_X10_isLetter, w ∈ lw_tbl := zi_cons zw_572 (zi_app zi_nil zi_nil)
set_option maxHeartbeats 4000000 in
set_option maxRecDepth 100000 in
theorem k126_X10_isLetter (l : Launch) (D : va_G) (zt : Nat × Nat × Nat × (Nat → Nat) × (Nat → Nat)) (q : Nat → Nat) (d : Nat → ClassId) (I : Nat → Int32) (A : Nat → Nat → Int32) (z0 : Int32) (hIv : IvX I A) : GM l D zt (tyX d) yX10_isLetter wz_k126_X10_isLetter ({ frames := 0, cells := 0, slots := 0, locals := 0 } : Room) [.int z0] (wX q d I A) (fun v _ w' => (v = some (.int 0) ∧ w' = wX q d I A) ∨ ((¬ (z0.toInt < 97)) ∧ (¬ (122 < z0.toInt)) ∧ (97 ≤ z0.toInt) ∧ (z0.toInt ≤ 122) ∧ v = some (.int 1) ∧ w' = wX q d I A)) 0 0 := by
  refine GM.of (cc := cX10_isLetter) (maxL := 1) (ret := (some .boolean)) (own := RX10) (lv := [(0, .int z0)]) (by decide) rfl rfl (Nat.le_of_ble_eq_true rfl) rfl (fun κ sz hk hR hN => ?_)
  refine g_iload_n hk dX10_isLetter_0 rfl ?_
  refine g_bipush (v := 97) hk dX10_isLetter_1 (by decide) ?_
  have b505l := Int32.le_toInt z0
  have b505h := Int32.toInt_lt z0
  refine g_icmp_lt (tgt := 16) (a := z0.toInt) (b := 97) hk dX10_isLetter_3 (by decide) rfl rfl (fun c506 => ?_) (fun c506 => ?_)
  · skip
    refine g_iconst (v := 0) hk dX10_isLetter_16 (by decide) ?_
    exact g_iret hk hR rfl (Or.inl ⟨rfl, rfl⟩) dX10_isLetter_17
  · skip
    refine g_iload_n hk dX10_isLetter_6 rfl ?_
    refine g_bipush (v := 122) hk dX10_isLetter_7 (by decide) ?_
    refine g_icmp_gt (tgt := 16) (a := z0.toInt) (b := 122) hk dX10_isLetter_9 (by decide) rfl rfl (fun c507 => ?_) (fun c507 => ?_)
    · skip
      refine g_iconst (v := 0) hk dX10_isLetter_16 (by decide) ?_
      exact g_iret hk hR rfl (Or.inl ⟨rfl, rfl⟩) dX10_isLetter_17
    · skip
      refine g_iconst (v := 1) hk dX10_isLetter_12 (by decide) ?_
      refine g_goto (tgt := 17) hk dX10_isLetter_13 (by decide) ?_
      exact g_iret hk hR rfl (Or.inr (⟨c506, c507, (by omega), (by omega), rfl, rfl⟩)) dX10_isLetter_17
def wo_k127_X10_isDigit : List Cond := []
def wz_k127_X10_isDigit : List Cond := .code yX10_isDigit cX10_isDigit 1 (some .boolean) :: (wo_k127_X10_isDigit ++ ([] : List Cond))
theorem zg_k127_X10_isDigit : ∀ w ∈ wz_k127_X10_isDigit, goodWord w = true := zg_cons rfl (zg_app (by decide +kernel) zg_nil)
theorem zi_k127_X10_isDigit : ∀ w ∈ wz_k127_X10_isDigit, w ∈ lw_tbl := zi_cons zw_579 (zi_app zi_nil zi_nil)
set_option maxHeartbeats 4000000 in
set_option maxRecDepth 100000 in
theorem k127_X10_isDigit (l : Launch) (D : va_G) (zt : Nat × Nat × Nat × (Nat → Nat) × (Nat → Nat)) (q : Nat → Nat) (d : Nat → ClassId) (I : Nat → Int32) (A : Nat → Nat → Int32) (z0 : Int32) (hIv : IvX I A) : GM l D zt (tyX d) yX10_isDigit wz_k127_X10_isDigit ({ frames := 0, cells := 0, slots := 0, locals := 0 } : Room) [.int z0] (wX q d I A) (fun v _ w' => (v = some (.int 0) ∧ w' = wX q d I A) ∨ ((¬ (z0.toInt < 48)) ∧ (¬ (57 < z0.toInt)) ∧ (48 ≤ z0.toInt) ∧ (z0.toInt ≤ 57) ∧ v = some (.int 1) ∧ w' = wX q d I A)) 0 0 := by
  refine GM.of (cc := cX10_isDigit) (maxL := 1) (ret := (some .boolean)) (own := RX10) (lv := [(0, .int z0)]) (by decide) rfl rfl (Nat.le_of_ble_eq_true rfl) rfl (fun κ sz hk hR hN => ?_)
  refine g_iload_n hk dX10_isDigit_0 rfl ?_
  refine g_bipush (v := 48) hk dX10_isDigit_1 (by decide) ?_
  have b514l := Int32.le_toInt z0
  have b514h := Int32.toInt_lt z0
  refine g_icmp_lt (tgt := 16) (a := z0.toInt) (b := 48) hk dX10_isDigit_3 (by decide) rfl rfl (fun c515 => ?_) (fun c515 => ?_)
  · skip
    refine g_iconst (v := 0) hk dX10_isDigit_16 (by decide) ?_
    exact g_iret hk hR rfl (Or.inl ⟨rfl, rfl⟩) dX10_isDigit_17
  · skip
    refine g_iload_n hk dX10_isDigit_6 rfl ?_
    refine g_bipush (v := 57) hk dX10_isDigit_7 (by decide) ?_
    refine g_icmp_gt (tgt := 16) (a := z0.toInt) (b := 57) hk dX10_isDigit_9 (by decide) rfl rfl (fun c516 => ?_) (fun c516 => ?_)
    · skip
      refine g_iconst (v := 0) hk dX10_isDigit_16 (by decide) ?_
      exact g_iret hk hR rfl (Or.inl ⟨rfl, rfl⟩) dX10_isDigit_17
    · skip
      refine g_iconst (v := 1) hk dX10_isDigit_12 (by decide) ?_
      refine g_goto (tgt := 17) hk dX10_isDigit_13 (by decide) ?_
      exact g_iret hk hR rfl (Or.inr (⟨c515, c516, (by omega), (by omega), rfl, rfl⟩)) dX10_isDigit_17
def wo_k128_X10_takeDigits : List Cond := [Cond.fieldLink RX10 32 "WarpDesk$Tape" "start" "I", Cond.fieldLink RX10 15 "WarpDesk$Tape" "size" "I", Cond.fieldLink RX10 19 "WarpDesk$Tape" "behind" "I", Cond.fieldLink RX10 41 "WarpDesk$Tape" "kind" "I", Cond.methodLink RX10 38 yX10_byteAt, Cond.instanceMethod yX10_byteAt, Cond.selects RX10 yX10_byteAt yX10_byteAt, Cond.initialized RX10, Cond.methodLink RX10 51 yX10_isDigit, Cond.static yX10_isDigit, Cond.fieldLink RX10 35 "WarpDesk$Tape" "value" "I"]
def wz_k128_X10_takeDigits : List Cond := .code yX10_takeDigits cX10_takeDigits 2 none :: (wo_k128_X10_takeDigits ++ (wsX100 ++ (wz_k125_X10_byteAt ++ (wz_k127_X10_isDigit ++ ([] : List Cond)))))
theorem zg_k128_X10_takeDigits : ∀ w ∈ wz_k128_X10_takeDigits, goodWord w = true := zg_cons rfl (zg_app (by decide +kernel) (zg_app zgU_wsX100 (zg_app zg_k125_X10_byteAt (zg_app zg_k127_X10_isDigit zg_nil))))
theorem zi_k128_X10_takeDigits : ∀ w ∈ wz_k128_X10_takeDigits, w ∈ lw_tbl := zi_cons zw_583 (zi_app (zi_cons zw_140 (zi_cons zw_137 (zi_cons zw_146 (zi_cons zw_139 (zi_cons zw_566 (zi_cons zw_568 (zi_cons zw_2 (zi_cons zw_104 (zi_cons zw_577 (zi_cons zw_578 (zi_cons zw_142 zi_nil))))))))))) (zi_app inX10 (zi_app zi_k125_X10_byteAt (zi_app zi_k127_X10_isDigit zi_nil))))
set_option maxHeartbeats 4000000 in
set_option maxRecDepth 100000 in
theorem k128_X10_takeDigits (l : Launch) (D : va_G) (zt : Nat × Nat × Nat × (Nat → Nat) × (Nat → Nat)) (q : Nat → Nat) (d : Nat → ClassId) (I : Nat → Int32) (A : Nat → Nat → Int32) (hIv : IvX I A) : GM l D zt (tyX d) yX10_takeDigits wz_k128_X10_takeDigits ({ frames := 1, cells := 0, slots := 0, locals := 21 } : Room) [.ref (q 1)] (wX q d I A) (fun v _ w' => ∃ (I' : Nat → Int32) (A' : Nat → Nat → Int32), Md [1, 3, 5] I I' ∧ Md [] A A' ∧ IvX I' A' ∧ v = none ∧ w' = wX q d I' A') 0 0 := by
  refine GM.of (cc := cX10_takeDigits) (maxL := 2) (ret := none) (own := RX10) (lv := [(0, .ref (q 1))]) (by decide) rfl rfl (Nat.le_of_ble_eq_true rfl) rfl (fun κ sz hk hR hN => ?_)
  have hin10 : ∀ w ∈ u_ws RX10 TX10 7, w ∈ wz_k128_X10_takeDigits := fun w h => (List.mem_cons_of_mem _ (List.mem_append_right _ (List.mem_append_left _ h)))
  refine g_aload_n hk dX10_takeDigits_0 rfl ?_
  refine gX_i2 (v := (I 2)) hk hin10 (List.mem_cons_of_mem _ (List.mem_append_left _ (List.mem_of_getElem? (i := 0) rfl))) dX10_takeDigits_1 rfl ?_
  refine g_istore_n (lv' := [(1, .int (I 2)), (0, .ref (q 1))]) hk dX10_takeDigits_4 (by decide) rfl ?_
  have lp582 : ∀ (n583 : Nat) (x527 : Int32) (I529 : Nat → Int32) (A529 : Nat → Nat → Int32), (Md [3] I I529) → (Md [] A A529) → (IvX I529 A529) → (2001 - x527.toInt < (n583 : Int)) → (0 < n583) → GW κ 2 0 0 (wX q d I529 A529) 5 [(1, .int x527), (0, .ref (q 1))] [] := by
    intro n583
    induction n583 with
    | zero =>
      intro x527 I529 A529 hI529 hA529 hV529 m584 m584z
      exact absurd m584z (Nat.lt_irrefl 0)
    | succ n583 ih =>
      intro x527 I529 A529 hI529 hA529 hV529 m584 m584z
      refine g_iload_n hk dX10_takeDigits_5 rfl ?_
      refine g_aload_n hk dX10_takeDigits_6 rfl ?_
      refine gX_i0 (v := (I 0)) hk hin10 (List.mem_cons_of_mem _ (List.mem_append_left _ (List.mem_of_getElem? (i := 1) rfl))) dX10_takeDigits_7 (hI529 0 rfl) ?_
      have f585 := IvX_f0 hIv
      have b586l := Int32.le_toInt x527
      have b586h := Int32.toInt_lt x527
      refine g_icmp_ge (tgt := 50) (a := x527.toInt) (b := (I 0).toInt) hk dX10_takeDigits_10 (by decide) rfl rfl (fun c587 => ?_) (fun c587 => ?_)
      · skip
        refine g_aload_n hk dX10_takeDigits_50 rfl ?_
        refine g_iload_n hk dX10_takeDigits_51 rfl ?_
        refine pX_i5 hk hin10 (List.mem_cons_of_mem _ (List.mem_append_left _ (List.mem_of_getElem? (i := 2) rfl))) dX10_takeDigits_52 ?_
        refine g_aload_n hk dX10_takeDigits_55 rfl ?_
        refine g_aload_n hk dX10_takeDigits_56 rfl ?_
        refine gX_i5 (v := x527) hk hin10 (List.mem_cons_of_mem _ (List.mem_append_left _ (List.mem_of_getElem? (i := 2) rfl))) dX10_takeDigits_57 rfl ?_
        refine g_aload_n hk dX10_takeDigits_60 rfl ?_
        refine gX_i2 (v := (I 2)) hk hin10 (List.mem_cons_of_mem _ (List.mem_append_left _ (List.mem_of_getElem? (i := 0) rfl))) dX10_takeDigits_61 (hI529 2 rfl) ?_
        have b588l := Int32.le_toInt (I 2)
        have b588h := Int32.toInt_lt (I 2)
        refine g_isub hk dX10_takeDigits_64 ?_
        refine g_topi (fun y589 ey589 => ?_)
        have hy589 := i32_sub0 ey589
        refine g_iconst (v := 4) hk dX10_takeDigits_65 (by decide) ?_
        have b590l := Int32.le_toInt y589
        have b590h := Int32.toInt_lt y589
        refine g_icmp_gt (tgt := 73) (a := y589.toInt) (b := 4) hk dX10_takeDigits_66 (by decide) rfl rfl (fun c591 => ?_) (fun c591 => ?_)
        · skip
          refine g_iconst (v := 5) hk dX10_takeDigits_73 (by decide) ?_
          refine pX_i1 hk hin10 (List.mem_cons_of_mem _ (List.mem_append_left _ (List.mem_of_getElem? (i := 3) rfl))) dX10_takeDigits_74 ?_
          exact g_vret hk hR ⟨(upd (upd I529 5 x527) 1 5), A529, (show Md [1, 3, 5] I (upd (upd I529 5 x527) 1 5) from (Md.up (Md.up (Md.tr Md.rf hI529 rfl) rfl) rfl)), (show Md [] A A529 from (Md.tr Md.rf hA529 rfl)), ⟨(IvX_f0 (I := I529) (A := A529) hV529), (IvX_f18 (I := I529) (A := A529) hV529), (IvX_f30 (I := I529) (A := A529) hV529), (IvX_f31 (I := I529) (A := A529) hV529), (IvX_a4 (I := I529) (A := A529) hV529), (IvX_a9 (I := I529) (A := A529) hV529), trivial⟩, rfl, rfl⟩ dX10_takeDigits_77
        · skip
          refine g_iconst (v := 2) hk dX10_takeDigits_69 (by decide) ?_
          refine g_goto (tgt := 74) hk dX10_takeDigits_70 (by decide) ?_
          refine pX_i1 hk hin10 (List.mem_cons_of_mem _ (List.mem_append_left _ (List.mem_of_getElem? (i := 3) rfl))) dX10_takeDigits_74 ?_
          exact g_vret hk hR ⟨(upd (upd I529 5 x527) 1 2), A529, (show Md [1, 3, 5] I (upd (upd I529 5 x527) 1 2) from (Md.up (Md.up (Md.tr Md.rf hI529 rfl) rfl) rfl)), (show Md [] A A529 from (Md.tr Md.rf hA529 rfl)), ⟨(IvX_f0 (I := I529) (A := A529) hV529), (IvX_f18 (I := I529) (A := A529) hV529), (IvX_f30 (I := I529) (A := A529) hV529), (IvX_f31 (I := I529) (A := A529) hV529), (IvX_a4 (I := I529) (A := A529) hV529), (IvX_a9 (I := I529) (A := A529) hV529), trivial⟩, rfl, rfl⟩ dX10_takeDigits_77
      · skip
        refine g_aload_n hk dX10_takeDigits_13 rfl ?_
        refine g_iload_n hk dX10_takeDigits_14 rfl ?_
        refine g_callV (n := 1) hk (k125_X10_byteAt l D zt q d I529 A529 x527 hV529) (SP.same _) (fun _ h => h) (gi_V (List.mem_cons_of_mem _ (List.mem_append_left _ (List.mem_of_getElem? (i := 4) rfl))) (List.mem_cons_of_mem _ (List.mem_append_left _ (List.mem_of_getElem? (i := 5) rfl))) (List.mem_cons_of_mem _ (List.mem_append_left _ (List.mem_of_getElem? (i := 6) rfl))) (List.mem_cons_of_mem _ (List.mem_append_left _ (List.mem_of_getElem? (i := 7) rfl))) (gi_sub (fun w h => (List.mem_cons_of_mem _ (List.mem_append_right _ (List.mem_append_right _ (List.mem_append_left _ h))))) zg_k125_X10_byteAt)) rfl rfl rfl (by decide +kernel) ⟨Nat.le_of_ble_eq_true rfl, Nat.le_of_ble_eq_true rfl⟩ 1 rfl rfl rfl rfl (Nat.le_of_ble_eq_true rfl) ⟨Nat.le_of_ble_eq_true rfl, Nat.le_of_ble_eq_true rfl⟩ dX10_takeDigits_15 (fun v ty' w' hp hk' => ?_)
        obtain ⟨y592, rfl, rfl⟩ := hp
        show GW κ 2 0 0 (wX q d I529 A529) 18 [(1, .int x527), (0, .ref (q 1))] [.int y592]
        refine g_callS (n := 1) hk (k127_X10_isDigit l D zt q d I529 A529 y592 hV529) (SP.same _) (fun _ h => h) (gi_S (List.mem_cons_of_mem _ (List.mem_append_left _ (List.mem_of_getElem? (i := 8) rfl))) (List.mem_cons_of_mem _ (List.mem_append_left _ (List.mem_of_getElem? (i := 9) rfl))) (List.mem_cons_of_mem _ (List.mem_append_left _ (List.mem_of_getElem? (i := 7) rfl))) (gi_sub (fun w h => (List.mem_cons_of_mem _ (List.mem_append_right _ (List.mem_append_right _ (List.mem_append_right _ (List.mem_append_left _ h)))))) zg_k127_X10_isDigit)) rfl rfl rfl (by decide +kernel) ⟨Nat.le_of_ble_eq_true rfl, Nat.le_of_ble_eq_true rfl⟩ rfl rfl (Nat.le_of_ble_eq_true rfl) ⟨Nat.le_of_ble_eq_true rfl, Nat.le_of_ble_eq_true rfl⟩ dX10_takeDigits_18 (fun v ty' w' hp hk' => ?_)
        rcases hp with ⟨rfl, rfl⟩ | ⟨c594, c595, c596, c597, rfl, rfl⟩
        · skip
          show GW κ 2 0 0 (wX q d I529 A529) 21 [(1, .int x527), (0, .ref (q 1))] [.int 0]
          refine g_if_eq (tgt := 50) (a := 0) hk dX10_takeDigits_21 (by decide) rfl (fun _ => ?_) (fun z9 => absurd (show (0 : Int) = (0 : Int) from by decide) z9)
          refine g_aload_n hk dX10_takeDigits_50 rfl ?_
          refine g_iload_n hk dX10_takeDigits_51 rfl ?_
          refine pX_i5 hk hin10 (List.mem_cons_of_mem _ (List.mem_append_left _ (List.mem_of_getElem? (i := 2) rfl))) dX10_takeDigits_52 ?_
          refine g_aload_n hk dX10_takeDigits_55 rfl ?_
          refine g_aload_n hk dX10_takeDigits_56 rfl ?_
          refine gX_i5 (v := x527) hk hin10 (List.mem_cons_of_mem _ (List.mem_append_left _ (List.mem_of_getElem? (i := 2) rfl))) dX10_takeDigits_57 rfl ?_
          refine g_aload_n hk dX10_takeDigits_60 rfl ?_
          refine gX_i2 (v := (I 2)) hk hin10 (List.mem_cons_of_mem _ (List.mem_append_left _ (List.mem_of_getElem? (i := 0) rfl))) dX10_takeDigits_61 (hI529 2 rfl) ?_
          have b599l := Int32.le_toInt (I 2)
          have b599h := Int32.toInt_lt (I 2)
          refine g_isub hk dX10_takeDigits_64 ?_
          refine g_topi (fun y600 ey600 => ?_)
          have hy600 := i32_sub0 ey600
          refine g_iconst (v := 4) hk dX10_takeDigits_65 (by decide) ?_
          have b601l := Int32.le_toInt y600
          have b601h := Int32.toInt_lt y600
          refine g_icmp_gt (tgt := 73) (a := y600.toInt) (b := 4) hk dX10_takeDigits_66 (by decide) rfl rfl (fun c602 => ?_) (fun c602 => ?_)
          · skip
            refine g_iconst (v := 5) hk dX10_takeDigits_73 (by decide) ?_
            refine pX_i1 hk hin10 (List.mem_cons_of_mem _ (List.mem_append_left _ (List.mem_of_getElem? (i := 3) rfl))) dX10_takeDigits_74 ?_
            exact g_vret hk hR ⟨(upd (upd I529 5 x527) 1 5), A529, (show Md [1, 3, 5] I (upd (upd I529 5 x527) 1 5) from (Md.up (Md.up (Md.tr Md.rf hI529 rfl) rfl) rfl)), (show Md [] A A529 from (Md.tr Md.rf hA529 rfl)), ⟨(IvX_f0 (I := I529) (A := A529) hV529), (IvX_f18 (I := I529) (A := A529) hV529), (IvX_f30 (I := I529) (A := A529) hV529), (IvX_f31 (I := I529) (A := A529) hV529), (IvX_a4 (I := I529) (A := A529) hV529), (IvX_a9 (I := I529) (A := A529) hV529), trivial⟩, rfl, rfl⟩ dX10_takeDigits_77
          · skip
            refine g_iconst (v := 2) hk dX10_takeDigits_69 (by decide) ?_
            refine g_goto (tgt := 74) hk dX10_takeDigits_70 (by decide) ?_
            refine pX_i1 hk hin10 (List.mem_cons_of_mem _ (List.mem_append_left _ (List.mem_of_getElem? (i := 3) rfl))) dX10_takeDigits_74 ?_
            exact g_vret hk hR ⟨(upd (upd I529 5 x527) 1 2), A529, (show Md [1, 3, 5] I (upd (upd I529 5 x527) 1 2) from (Md.up (Md.up (Md.tr Md.rf hI529 rfl) rfl) rfl)), (show Md [] A A529 from (Md.tr Md.rf hA529 rfl)), ⟨(IvX_f0 (I := I529) (A := A529) hV529), (IvX_f18 (I := I529) (A := A529) hV529), (IvX_f30 (I := I529) (A := A529) hV529), (IvX_f31 (I := I529) (A := A529) hV529), (IvX_a4 (I := I529) (A := A529) hV529), (IvX_a9 (I := I529) (A := A529) hV529), trivial⟩, rfl, rfl⟩ dX10_takeDigits_77
        · skip
          show GW κ 2 0 0 (wX q d I529 A529) 21 [(1, .int x527), (0, .ref (q 1))] [.int 1]
          refine g_if_eq (tgt := 50) (a := 1) hk dX10_takeDigits_21 (by decide) rfl (fun z9 => absurd z9 (show ¬ ((1 : Int) = (0 : Int)) from by decide)) (fun _ => ?_)
          refine g_aload_n hk dX10_takeDigits_24 rfl ?_
          refine g_aload_n hk dX10_takeDigits_25 rfl ?_
          refine gX_i3 (v := (I529 3)) hk hin10 (List.mem_cons_of_mem _ (List.mem_append_left _ (List.mem_of_getElem? (i := 10) rfl))) dX10_takeDigits_26 rfl ?_
          refine g_bipush (v := 10) hk dX10_takeDigits_29 (by decide) ?_
          have b603l := Int32.le_toInt (I529 3)
          have b603h := Int32.toInt_lt (I529 3)
          refine g_imul hk dX10_takeDigits_31 ?_
          refine g_topi (fun y604 ey604 => ?_)
          refine g_aload_n hk dX10_takeDigits_32 rfl ?_
          refine g_iload_n hk dX10_takeDigits_33 rfl ?_
          refine g_callV (n := 1) hk (k125_X10_byteAt l D zt q d I529 A529 x527 hV529) (SP.same _) (fun _ h => h) (gi_V (List.mem_cons_of_mem _ (List.mem_append_left _ (List.mem_of_getElem? (i := 4) rfl))) (List.mem_cons_of_mem _ (List.mem_append_left _ (List.mem_of_getElem? (i := 5) rfl))) (List.mem_cons_of_mem _ (List.mem_append_left _ (List.mem_of_getElem? (i := 6) rfl))) (List.mem_cons_of_mem _ (List.mem_append_left _ (List.mem_of_getElem? (i := 7) rfl))) (gi_sub (fun w h => (List.mem_cons_of_mem _ (List.mem_append_right _ (List.mem_append_right _ (List.mem_append_left _ h))))) zg_k125_X10_byteAt)) rfl rfl rfl (by decide +kernel) ⟨Nat.le_of_ble_eq_true rfl, Nat.le_of_ble_eq_true rfl⟩ 1 rfl rfl rfl rfl (Nat.le_of_ble_eq_true rfl) ⟨Nat.le_of_ble_eq_true rfl, Nat.le_of_ble_eq_true rfl⟩ dX10_takeDigits_34 (fun v ty' w' hp hk' => ?_)
          obtain ⟨y605, rfl, rfl⟩ := hp
          show GW κ 2 0 0 (wX q d I529 A529) 37 [(1, .int x527), (0, .ref (q 1))] [.int y605, .int y604, .ref (q 1)]
          have b606l := Int32.le_toInt y604
          have b606h := Int32.toInt_lt y604
          have b607l := Int32.le_toInt y605
          have b607h := Int32.toInt_lt y605
          refine g_iadd hk dX10_takeDigits_37 ?_
          refine g_topi (fun y608 ey608 => ?_)
          refine g_bipush (v := 48) hk dX10_takeDigits_38 (by decide) ?_
          have b609l := Int32.le_toInt y608
          have b609h := Int32.toInt_lt y608
          refine g_isub hk dX10_takeDigits_40 ?_
          refine g_topi (fun y610 ey610 => ?_)
          have hy610 := i32_sub0 ey610
          refine pX_i3 hk hin10 (List.mem_cons_of_mem _ (List.mem_append_left _ (List.mem_of_getElem? (i := 10) rfl))) dX10_takeDigits_41 ?_
          obtain ⟨y611, ey611⟩ : ∃ y : Int32, y = x527 + Int32.ofInt 1 := ⟨_, rfl⟩
          have hy611 : y611.toInt = x527.toInt + 1 := i32_add ey611 rfl (by decide) (by omega) (by omega)
          refine g_iinc (v := y611) (lv' := [(1, .int y611), (0, .ref (q 1))]) hk 0 dX10_takeDigits_44 rfl ey611.symm (by decide) rfl ?_
          refine g_goto (tgt := 5) hk dX10_takeDigits_47 (by decide) ?_
          exact g_lv (List.forall_mem_cons.mpr ⟨List.mem_of_getElem? (i := 0) rfl, (List.forall_mem_cons.mpr ⟨List.mem_of_getElem? (i := 1) rfl, (fun _ h => absurd h List.not_mem_nil)⟩)⟩) (ih y611 (upd I529 3 y610) A529 (show Md [3] I (upd I529 3 y610) from Md.tr hI529 (show Md [3] I529 (upd I529 3 y610) from (Md.up Md.rf rfl)) rfl) (show Md [] A A529 from Md.tr hA529 (show Md [] A529 A529 from Md.rf) rfl) ⟨(IvX_f0 (I := I529) (A := A529) hV529), (IvX_f18 (I := I529) (A := A529) hV529), (IvX_f30 (I := I529) (A := A529) hV529), (IvX_f31 (I := I529) (A := A529) hV529), (IvX_a4 (I := I529) (A := A529) hV529), (IvX_a9 (I := I529) (A := A529) hV529), trivial⟩ (by omega) (by omega))
  have b613l := Int32.le_toInt (I 2)
  have b613h := Int32.toInt_lt (I 2)
  obtain ⟨n612, n612a, n612b⟩ : ∃ n : Nat, 2001 - (I 2).toInt < (n : Int) ∧ 0 < n := ⟨((2001 - (I 2).toInt : Int)).toNat + 1, by omega, by omega⟩
  exact lp582 n612 (I 2) I A Md.rf Md.rf hIv n612a n612b
def wo_k129_X10_takeLetters : List Cond := [Cond.fieldLink RX10 32 "WarpDesk$Tape" "start" "I", Cond.fieldLink RX10 15 "WarpDesk$Tape" "size" "I", Cond.fieldLink RX10 19 "WarpDesk$Tape" "behind" "I", Cond.fieldLink RX10 41 "WarpDesk$Tape" "kind" "I", Cond.methodLink RX10 38 yX10_byteAt, Cond.instanceMethod yX10_byteAt, Cond.selects RX10 yX10_byteAt yX10_byteAt, Cond.initialized RX10, Cond.methodLink RX10 44 yX10_isLetter, Cond.static yX10_isLetter]
def wz_k129_X10_takeLetters : List Cond := .code yX10_takeLetters cX10_takeLetters 2 none :: (wo_k129_X10_takeLetters ++ (wsX100 ++ (wz_k125_X10_byteAt ++ (wz_k126_X10_isLetter ++ ([] : List Cond)))))
theorem zg_k129_X10_takeLetters : ∀ w ∈ wz_k129_X10_takeLetters, goodWord w = true := zg_cons rfl (zg_app (by decide +kernel) (zg_app zgU_wsX100 (zg_app zg_k125_X10_byteAt (zg_app zg_k126_X10_isLetter zg_nil))))
theorem zi_k129_X10_takeLetters : ∀ w ∈ wz_k129_X10_takeLetters, w ∈ lw_tbl := zi_cons zw_576 (zi_app (zi_cons zw_140 (zi_cons zw_137 (zi_cons zw_146 (zi_cons zw_139 (zi_cons zw_566 (zi_cons zw_568 (zi_cons zw_2 (zi_cons zw_104 (zi_cons zw_570 (zi_cons zw_571 zi_nil)))))))))) (zi_app inX10 (zi_app zi_k125_X10_byteAt (zi_app zi_k126_X10_isLetter zi_nil))))
set_option maxHeartbeats 4000000 in
set_option maxRecDepth 100000 in
theorem k129_X10_takeLetters (l : Launch) (D : va_G) (zt : Nat × Nat × Nat × (Nat → Nat) × (Nat → Nat)) (q : Nat → Nat) (d : Nat → ClassId) (I : Nat → Int32) (A : Nat → Nat → Int32) (hIv : IvX I A) : GM l D zt (tyX d) yX10_takeLetters wz_k129_X10_takeLetters ({ frames := 1, cells := 0, slots := 0, locals := 21 } : Room) [.ref (q 1)] (wX q d I A) (fun v _ w' => ∃ (I' : Nat → Int32) (A' : Nat → Nat → Int32), Md [1, 5] I I' ∧ Md [] A A' ∧ IvX I' A' ∧ v = none ∧ w' = wX q d I' A') 0 0 := by
  refine GM.of (cc := cX10_takeLetters) (maxL := 2) (ret := none) (own := RX10) (lv := [(0, .ref (q 1))]) (by decide) rfl rfl (Nat.le_of_ble_eq_true rfl) rfl (fun κ sz hk hR hN => ?_)
  have hin10 : ∀ w ∈ u_ws RX10 TX10 7, w ∈ wz_k129_X10_takeLetters := fun w h => (List.mem_cons_of_mem _ (List.mem_append_right _ (List.mem_append_left _ h)))
  refine g_aload_n hk dX10_takeLetters_0 rfl ?_
  refine gX_i2 (v := (I 2)) hk hin10 (List.mem_cons_of_mem _ (List.mem_append_left _ (List.mem_of_getElem? (i := 0) rfl))) dX10_takeLetters_1 rfl ?_
  refine g_istore_n (lv' := [(1, .int (I 2)), (0, .ref (q 1))]) hk dX10_takeLetters_4 (by decide) rfl ?_
  have lp655 : ∀ (n656 : Nat) (x616 : Int32), (2001 - x616.toInt < (n656 : Int)) → (0 < n656) → GW κ 2 0 0 (wX q d I A) 5 [(1, .int x616), (0, .ref (q 1))] [] := by
    intro n656
    induction n656 with
    | zero =>
      intro x616 m657 m657z
      exact absurd m657z (Nat.lt_irrefl 0)
    | succ n656 ih =>
      intro x616 m657 m657z
      refine g_iload_n hk dX10_takeLetters_5 rfl ?_
      refine g_aload_n hk dX10_takeLetters_6 rfl ?_
      refine gX_i0 (v := (I 0)) hk hin10 (List.mem_cons_of_mem _ (List.mem_append_left _ (List.mem_of_getElem? (i := 1) rfl))) dX10_takeLetters_7 rfl ?_
      have f658 := IvX_f0 hIv
      have b659l := Int32.le_toInt x616
      have b659h := Int32.toInt_lt x616
      refine g_icmp_ge (tgt := 30) (a := x616.toInt) (b := (I 0).toInt) hk dX10_takeLetters_10 (by decide) rfl rfl (fun c660 => ?_) (fun c660 => ?_)
      · skip
        refine g_aload_n hk dX10_takeLetters_30 rfl ?_
        refine g_iload_n hk dX10_takeLetters_31 rfl ?_
        refine pX_i5 hk hin10 (List.mem_cons_of_mem _ (List.mem_append_left _ (List.mem_of_getElem? (i := 2) rfl))) dX10_takeLetters_32 ?_
        refine g_aload_n hk dX10_takeLetters_35 rfl ?_
        refine g_aload_n hk dX10_takeLetters_36 rfl ?_
        refine gX_i5 (v := x616) hk hin10 (List.mem_cons_of_mem _ (List.mem_append_left _ (List.mem_of_getElem? (i := 2) rfl))) dX10_takeLetters_37 rfl ?_
        refine g_aload_n hk dX10_takeLetters_40 rfl ?_
        refine gX_i2 (v := (I 2)) hk hin10 (List.mem_cons_of_mem _ (List.mem_append_left _ (List.mem_of_getElem? (i := 0) rfl))) dX10_takeLetters_41 rfl ?_
        have b661l := Int32.le_toInt (I 2)
        have b661h := Int32.toInt_lt (I 2)
        refine g_isub hk dX10_takeLetters_44 ?_
        refine g_topi (fun y662 ey662 => ?_)
        have hy662 := i32_sub0 ey662
        refine g_bipush (v := 8) hk dX10_takeLetters_45 (by decide) ?_
        have b663l := Int32.le_toInt y662
        have b663h := Int32.toInt_lt y662
        refine g_icmp_gt (tgt := 54) (a := y662.toInt) (b := 8) hk dX10_takeLetters_47 (by decide) rfl rfl (fun c664 => ?_) (fun c664 => ?_)
        · skip
          refine g_iconst (v := 5) hk dX10_takeLetters_54 (by decide) ?_
          refine pX_i1 hk hin10 (List.mem_cons_of_mem _ (List.mem_append_left _ (List.mem_of_getElem? (i := 3) rfl))) dX10_takeLetters_55 ?_
          exact g_vret hk hR ⟨(upd (upd I 5 x616) 1 5), A, (show Md [1, 5] I (upd (upd I 5 x616) 1 5) from (Md.up (Md.up Md.rf rfl) rfl)), (show Md [] A A from Md.rf), ⟨(IvX_f0 (I := I) (A := A) hIv), (IvX_f18 (I := I) (A := A) hIv), (IvX_f30 (I := I) (A := A) hIv), (IvX_f31 (I := I) (A := A) hIv), (IvX_a4 (I := I) (A := A) hIv), (IvX_a9 (I := I) (A := A) hIv), trivial⟩, rfl, rfl⟩ dX10_takeLetters_58
        · skip
          refine g_iconst (v := 1) hk dX10_takeLetters_50 (by decide) ?_
          refine g_goto (tgt := 55) hk dX10_takeLetters_51 (by decide) ?_
          refine pX_i1 hk hin10 (List.mem_cons_of_mem _ (List.mem_append_left _ (List.mem_of_getElem? (i := 3) rfl))) dX10_takeLetters_55 ?_
          exact g_vret hk hR ⟨(upd (upd I 5 x616) 1 1), A, (show Md [1, 5] I (upd (upd I 5 x616) 1 1) from (Md.up (Md.up Md.rf rfl) rfl)), (show Md [] A A from Md.rf), ⟨(IvX_f0 (I := I) (A := A) hIv), (IvX_f18 (I := I) (A := A) hIv), (IvX_f30 (I := I) (A := A) hIv), (IvX_f31 (I := I) (A := A) hIv), (IvX_a4 (I := I) (A := A) hIv), (IvX_a9 (I := I) (A := A) hIv), trivial⟩, rfl, rfl⟩ dX10_takeLetters_58
      · skip
        refine g_aload_n hk dX10_takeLetters_13 rfl ?_
        refine g_iload_n hk dX10_takeLetters_14 rfl ?_
        refine g_callV (n := 1) hk (k125_X10_byteAt l D zt q d I A x616 hIv) (SP.same _) (fun _ h => h) (gi_V (List.mem_cons_of_mem _ (List.mem_append_left _ (List.mem_of_getElem? (i := 4) rfl))) (List.mem_cons_of_mem _ (List.mem_append_left _ (List.mem_of_getElem? (i := 5) rfl))) (List.mem_cons_of_mem _ (List.mem_append_left _ (List.mem_of_getElem? (i := 6) rfl))) (List.mem_cons_of_mem _ (List.mem_append_left _ (List.mem_of_getElem? (i := 7) rfl))) (gi_sub (fun w h => (List.mem_cons_of_mem _ (List.mem_append_right _ (List.mem_append_right _ (List.mem_append_left _ h))))) zg_k125_X10_byteAt)) rfl rfl rfl (by decide +kernel) ⟨Nat.le_of_ble_eq_true rfl, Nat.le_of_ble_eq_true rfl⟩ 1 rfl rfl rfl rfl (Nat.le_of_ble_eq_true rfl) ⟨Nat.le_of_ble_eq_true rfl, Nat.le_of_ble_eq_true rfl⟩ dX10_takeLetters_15 (fun v ty' w' hp hk' => ?_)
        obtain ⟨y665, rfl, rfl⟩ := hp
        show GW κ 2 0 0 (wX q d I A) 18 [(1, .int x616), (0, .ref (q 1))] [.int y665]
        refine g_callS (n := 1) hk (k126_X10_isLetter l D zt q d I A y665 hIv) (SP.same _) (fun _ h => h) (gi_S (List.mem_cons_of_mem _ (List.mem_append_left _ (List.mem_of_getElem? (i := 8) rfl))) (List.mem_cons_of_mem _ (List.mem_append_left _ (List.mem_of_getElem? (i := 9) rfl))) (List.mem_cons_of_mem _ (List.mem_append_left _ (List.mem_of_getElem? (i := 7) rfl))) (gi_sub (fun w h => (List.mem_cons_of_mem _ (List.mem_append_right _ (List.mem_append_right _ (List.mem_append_right _ (List.mem_append_left _ h)))))) zg_k126_X10_isLetter)) rfl rfl rfl (by decide +kernel) ⟨Nat.le_of_ble_eq_true rfl, Nat.le_of_ble_eq_true rfl⟩ rfl rfl (Nat.le_of_ble_eq_true rfl) ⟨Nat.le_of_ble_eq_true rfl, Nat.le_of_ble_eq_true rfl⟩ dX10_takeLetters_18 (fun v ty' w' hp hk' => ?_)
        rcases hp with ⟨rfl, rfl⟩ | ⟨c667, c668, c669, c670, rfl, rfl⟩
        · skip
          show GW κ 2 0 0 (wX q d I A) 21 [(1, .int x616), (0, .ref (q 1))] [.int 0]
          refine g_if_eq (tgt := 30) (a := 0) hk dX10_takeLetters_21 (by decide) rfl (fun _ => ?_) (fun z9 => absurd (show (0 : Int) = (0 : Int) from by decide) z9)
          refine g_aload_n hk dX10_takeLetters_30 rfl ?_
          refine g_iload_n hk dX10_takeLetters_31 rfl ?_
          refine pX_i5 hk hin10 (List.mem_cons_of_mem _ (List.mem_append_left _ (List.mem_of_getElem? (i := 2) rfl))) dX10_takeLetters_32 ?_
          refine g_aload_n hk dX10_takeLetters_35 rfl ?_
          refine g_aload_n hk dX10_takeLetters_36 rfl ?_
          refine gX_i5 (v := x616) hk hin10 (List.mem_cons_of_mem _ (List.mem_append_left _ (List.mem_of_getElem? (i := 2) rfl))) dX10_takeLetters_37 rfl ?_
          refine g_aload_n hk dX10_takeLetters_40 rfl ?_
          refine gX_i2 (v := (I 2)) hk hin10 (List.mem_cons_of_mem _ (List.mem_append_left _ (List.mem_of_getElem? (i := 0) rfl))) dX10_takeLetters_41 rfl ?_
          have b672l := Int32.le_toInt (I 2)
          have b672h := Int32.toInt_lt (I 2)
          refine g_isub hk dX10_takeLetters_44 ?_
          refine g_topi (fun y673 ey673 => ?_)
          have hy673 := i32_sub0 ey673
          refine g_bipush (v := 8) hk dX10_takeLetters_45 (by decide) ?_
          have b674l := Int32.le_toInt y673
          have b674h := Int32.toInt_lt y673
          refine g_icmp_gt (tgt := 54) (a := y673.toInt) (b := 8) hk dX10_takeLetters_47 (by decide) rfl rfl (fun c675 => ?_) (fun c675 => ?_)
          · skip
            refine g_iconst (v := 5) hk dX10_takeLetters_54 (by decide) ?_
            refine pX_i1 hk hin10 (List.mem_cons_of_mem _ (List.mem_append_left _ (List.mem_of_getElem? (i := 3) rfl))) dX10_takeLetters_55 ?_
            exact g_vret hk hR ⟨(upd (upd I 5 x616) 1 5), A, (show Md [1, 5] I (upd (upd I 5 x616) 1 5) from (Md.up (Md.up Md.rf rfl) rfl)), (show Md [] A A from Md.rf), ⟨(IvX_f0 (I := I) (A := A) hIv), (IvX_f18 (I := I) (A := A) hIv), (IvX_f30 (I := I) (A := A) hIv), (IvX_f31 (I := I) (A := A) hIv), (IvX_a4 (I := I) (A := A) hIv), (IvX_a9 (I := I) (A := A) hIv), trivial⟩, rfl, rfl⟩ dX10_takeLetters_58
          · skip
            refine g_iconst (v := 1) hk dX10_takeLetters_50 (by decide) ?_
            refine g_goto (tgt := 55) hk dX10_takeLetters_51 (by decide) ?_
            refine pX_i1 hk hin10 (List.mem_cons_of_mem _ (List.mem_append_left _ (List.mem_of_getElem? (i := 3) rfl))) dX10_takeLetters_55 ?_
            exact g_vret hk hR ⟨(upd (upd I 5 x616) 1 1), A, (show Md [1, 5] I (upd (upd I 5 x616) 1 1) from (Md.up (Md.up Md.rf rfl) rfl)), (show Md [] A A from Md.rf), ⟨(IvX_f0 (I := I) (A := A) hIv), (IvX_f18 (I := I) (A := A) hIv), (IvX_f30 (I := I) (A := A) hIv), (IvX_f31 (I := I) (A := A) hIv), (IvX_a4 (I := I) (A := A) hIv), (IvX_a9 (I := I) (A := A) hIv), trivial⟩, rfl, rfl⟩ dX10_takeLetters_58
        · skip
          show GW κ 2 0 0 (wX q d I A) 21 [(1, .int x616), (0, .ref (q 1))] [.int 1]
          refine g_if_eq (tgt := 30) (a := 1) hk dX10_takeLetters_21 (by decide) rfl (fun z9 => absurd z9 (show ¬ ((1 : Int) = (0 : Int)) from by decide)) (fun _ => ?_)
          obtain ⟨y676, ey676⟩ : ∃ y : Int32, y = x616 + Int32.ofInt 1 := ⟨_, rfl⟩
          have hy676 : y676.toInt = x616.toInt + 1 := i32_add ey676 rfl (by decide) (by omega) (by omega)
          refine g_iinc (v := y676) (lv' := [(1, .int y676), (0, .ref (q 1))]) hk 0 dX10_takeLetters_24 rfl ey676.symm (by decide) rfl ?_
          refine g_goto (tgt := 5) hk dX10_takeLetters_27 (by decide) ?_
          exact g_lv (List.forall_mem_cons.mpr ⟨List.mem_of_getElem? (i := 0) rfl, (List.forall_mem_cons.mpr ⟨List.mem_of_getElem? (i := 1) rfl, (fun _ h => absurd h List.not_mem_nil)⟩)⟩) (ih y676 (by omega) (by omega))
  have b678l := Int32.le_toInt (I 2)
  have b678h := Int32.toInt_lt (I 2)
  obtain ⟨n677, n677a, n677b⟩ : ∃ n : Nat, 2001 - (I 2).toInt < (n : Int) ∧ 0 < n := ⟨((2001 - (I 2).toInt : Int)).toNat + 1, by omega, by omega⟩
  exact lp655 n677 (I 2) n677a n677b
def wo_k123_X10_toNextToken : List Cond := [Cond.fieldLink RX10 19 "WarpDesk$Tape" "behind" "I", Cond.methodLink RX10 28 yX10_behindBlanks, Cond.instanceMethod yX10_behindBlanks, Cond.selects RX10 yX10_behindBlanks yX10_behindBlanks, Cond.initialized RX10, Cond.fieldLink RX10 32 "WarpDesk$Tape" "start" "I", Cond.fieldLink RX10 22 "WarpDesk$Tape" "number" "I", Cond.fieldLink RX10 35 "WarpDesk$Tape" "value" "I", Cond.methodLink RX10 38 yX10_byteAt, Cond.instanceMethod yX10_byteAt, Cond.selects RX10 yX10_byteAt yX10_byteAt, Cond.methodLink RX10 44 yX10_isLetter, Cond.static yX10_isLetter, Cond.methodLink RX10 51 yX10_isDigit, Cond.static yX10_isDigit, Cond.fieldLink RX10 41 "WarpDesk$Tape" "kind" "I", Cond.methodLink RX10 54 yX10_takeDigits, Cond.instanceMethod yX10_takeDigits, Cond.selects RX10 yX10_takeDigits yX10_takeDigits, Cond.methodLink RX10 48 yX10_takeLetters, Cond.instanceMethod yX10_takeLetters, Cond.selects RX10 yX10_takeLetters yX10_takeLetters]
def wz_k123_X10_toNextToken : List Cond := .code yX10_toNextToken cX10_toNextToken 2 none :: (wo_k123_X10_toNextToken ++ (wsX100 ++ (wz_k124_X10_behindBlanks ++ (wz_k125_X10_byteAt ++ (wz_k126_X10_isLetter ++ (wz_k127_X10_isDigit ++ (wz_k128_X10_takeDigits ++ (wz_k129_X10_takeLetters ++ ([] : List Cond)))))))))
theorem zg_k123_X10_toNextToken : ∀ w ∈ wz_k123_X10_toNextToken, goodWord w = true := zg_cons rfl (zg_app (by decide +kernel) (zg_app zgU_wsX100 (zg_app zg_k124_X10_behindBlanks (zg_app zg_k125_X10_byteAt (zg_app zg_k126_X10_isLetter (zg_app zg_k127_X10_isDigit (zg_app zg_k128_X10_takeDigits (zg_app zg_k129_X10_takeLetters zg_nil))))))))
theorem zi_k123_X10_toNextToken : ∀ w ∈ wz_k123_X10_toNextToken, w ∈ lw_tbl := zi_cons zw_561 (zi_app (zi_cons zw_146 (zi_cons zw_562 (zi_cons zw_564 (zi_cons zw_1 (zi_cons zw_104 (zi_cons zw_140 (zi_cons zw_144 (zi_cons zw_142 (zi_cons zw_566 (zi_cons zw_568 (zi_cons zw_2 (zi_cons zw_570 (zi_cons zw_571 (zi_cons zw_577 (zi_cons zw_578 (zi_cons zw_139 (zi_cons zw_580 (zi_cons zw_582 (zi_cons zw_4 (zi_cons zw_573 (zi_cons zw_575 (zi_cons zw_3 zi_nil)))))))))))))))))))))) (zi_app inX10 (zi_app zi_k124_X10_behindBlanks (zi_app zi_k125_X10_byteAt (zi_app zi_k126_X10_isLetter (zi_app zi_k127_X10_isDigit (zi_app zi_k128_X10_takeDigits (zi_app zi_k129_X10_takeLetters zi_nil))))))))
set_option maxHeartbeats 4000000 in
set_option maxRecDepth 100000 in
theorem k123_X10_toNextToken (l : Launch) (D : va_G) (zt : Nat × Nat × Nat × (Nat → Nat) × (Nat → Nat)) (q : Nat → Nat) (d : Nat → ClassId) (I : Nat → Int32) (A : Nat → Nat → Int32) (hIv : IvX I A) : GM l D zt (tyX d) yX10_toNextToken wz_k123_X10_toNextToken ({ frames := 2, cells := 0, slots := 0, locals := 44 } : Room) [.ref (q 1)] (wX q d I A) (fun v _ w' => ∃ (I' : Nat → Int32) (A' : Nat → Nat → Int32), Md [1, 2, 3, 4, 5] I I' ∧ Md [] A A' ∧ IvX I' A' ∧ v = none ∧ w' = wX q d I' A') 0 0 := by
  refine GM.of (cc := cX10_toNextToken) (maxL := 2) (ret := none) (own := RX10) (lv := [(0, .ref (q 1))]) (by decide) rfl rfl (Nat.le_of_ble_eq_true rfl) rfl (fun κ sz hk hR hN => ?_)
  have hin10 : ∀ w ∈ u_ws RX10 TX10 7, w ∈ wz_k123_X10_toNextToken := fun w h => (List.mem_cons_of_mem _ (List.mem_append_right _ (List.mem_append_left _ h)))
  refine g_aload_n hk dX10_toNextToken_0 rfl ?_
  refine g_aload_n hk dX10_toNextToken_1 rfl ?_
  refine g_aload_n hk dX10_toNextToken_2 rfl ?_
  refine gX_i5 (v := (I 5)) hk hin10 (List.mem_cons_of_mem _ (List.mem_append_left _ (List.mem_of_getElem? (i := 0) rfl))) dX10_toNextToken_3 rfl ?_
  refine g_callV (n := 1) hk (k124_X10_behindBlanks l D zt q d I A (I 5) hIv) (SP.same _) (fun _ h => h) (gi_V (List.mem_cons_of_mem _ (List.mem_append_left _ (List.mem_of_getElem? (i := 1) rfl))) (List.mem_cons_of_mem _ (List.mem_append_left _ (List.mem_of_getElem? (i := 2) rfl))) (List.mem_cons_of_mem _ (List.mem_append_left _ (List.mem_of_getElem? (i := 3) rfl))) (List.mem_cons_of_mem _ (List.mem_append_left _ (List.mem_of_getElem? (i := 4) rfl))) (gi_sub (fun w h => (List.mem_cons_of_mem _ (List.mem_append_right _ (List.mem_append_right _ (List.mem_append_left _ h))))) zg_k124_X10_behindBlanks)) rfl rfl rfl (by decide +kernel) ⟨Nat.le_of_ble_eq_true rfl, Nat.le_of_ble_eq_true rfl⟩ 1 rfl rfl rfl rfl (Nat.le_of_ble_eq_true rfl) ⟨Nat.le_of_ble_eq_true rfl, Nat.le_of_ble_eq_true rfl⟩ dX10_toNextToken_6 (fun v ty' w' hp hk' => ?_)
  obtain ⟨y498, c499, rfl, rfl⟩ := hp
  show GW κ 2 0 0 (wX q d I A) 9 [(0, .ref (q 1))] [.int y498, .ref (q 1)]
  refine pX_i2 hk hin10 (List.mem_cons_of_mem _ (List.mem_append_left _ (List.mem_of_getElem? (i := 5) rfl))) dX10_toNextToken_9 ?_
  refine g_aload_n hk dX10_toNextToken_12 rfl ?_
  refine g_dup hk dX10_toNextToken_13 rfl ?_
  refine gX_i4 (v := (I 4)) hk hin10 (List.mem_cons_of_mem _ (List.mem_append_left _ (List.mem_of_getElem? (i := 6) rfl))) dX10_toNextToken_14 rfl ?_
  refine g_iconst (v := 1) hk dX10_toNextToken_17 (by decide) ?_
  have b500l := Int32.le_toInt (I 4)
  have b500h := Int32.toInt_lt (I 4)
  refine g_iadd hk dX10_toNextToken_18 ?_
  refine g_topi (fun y501 ey501 => ?_)
  refine pX_i4 hk hin10 (List.mem_cons_of_mem _ (List.mem_append_left _ (List.mem_of_getElem? (i := 6) rfl))) dX10_toNextToken_19 ?_
  refine g_aload_n hk dX10_toNextToken_22 rfl ?_
  refine g_iconst (v := 0) hk dX10_toNextToken_23 (by decide) ?_
  refine pX_i3 hk hin10 (List.mem_cons_of_mem _ (List.mem_append_left _ (List.mem_of_getElem? (i := 7) rfl))) dX10_toNextToken_24 ?_
  refine g_aload_n hk dX10_toNextToken_27 rfl ?_
  refine g_aload_n hk dX10_toNextToken_28 rfl ?_
  refine gX_i2 (v := y498) hk hin10 (List.mem_cons_of_mem _ (List.mem_append_left _ (List.mem_of_getElem? (i := 5) rfl))) dX10_toNextToken_29 rfl ?_
  refine g_callV (n := 1) hk (k125_X10_byteAt l D zt q d (upd (upd (upd I 2 y498) 4 y501) 3 0) A y498 ⟨(IvX_f0 (I := I) (A := A) hIv), (IvX_f18 (I := I) (A := A) hIv), (IvX_f30 (I := I) (A := A) hIv), (IvX_f31 (I := I) (A := A) hIv), (IvX_a4 (I := I) (A := A) hIv), (IvX_a9 (I := I) (A := A) hIv), trivial⟩) (SP.same _) (fun _ h => h) (gi_V (List.mem_cons_of_mem _ (List.mem_append_left _ (List.mem_of_getElem? (i := 8) rfl))) (List.mem_cons_of_mem _ (List.mem_append_left _ (List.mem_of_getElem? (i := 9) rfl))) (List.mem_cons_of_mem _ (List.mem_append_left _ (List.mem_of_getElem? (i := 10) rfl))) (List.mem_cons_of_mem _ (List.mem_append_left _ (List.mem_of_getElem? (i := 4) rfl))) (gi_sub (fun w h => (List.mem_cons_of_mem _ (List.mem_append_right _ (List.mem_append_right _ (List.mem_append_right _ (List.mem_append_left _ h)))))) zg_k125_X10_byteAt)) rfl rfl rfl (by decide +kernel) ⟨Nat.le_of_ble_eq_true rfl, Nat.le_of_ble_eq_true rfl⟩ 1 rfl rfl rfl rfl (Nat.le_of_ble_eq_true rfl) ⟨Nat.le_of_ble_eq_true rfl, Nat.le_of_ble_eq_true rfl⟩ dX10_toNextToken_32 (fun v ty' w' hp hk' => ?_)
  obtain ⟨y502, rfl, rfl⟩ := hp
  show GW κ 2 0 0 (wX q d (upd (upd (upd I 2 y498) 4 y501) 3 0) A) 35 [(0, .ref (q 1))] [.int y502]
  refine g_istore_n (lv' := [(1, .int y502), (0, .ref (q 1))]) hk dX10_toNextToken_35 (by decide) rfl ?_
  refine g_iload_n hk dX10_toNextToken_36 rfl ?_
  have b503l := Int32.le_toInt y502
  have b503h := Int32.toInt_lt y502
  refine g_if_ge (tgt := 56) (a := y502.toInt) hk dX10_toNextToken_37 (by decide) rfl (fun c504 => ?_) (fun c504 => ?_)
  · skip
    refine g_iload_n hk dX10_toNextToken_56 rfl ?_
    refine g_callS (n := 1) hk (k126_X10_isLetter l D zt q d (upd (upd (upd I 2 y498) 4 y501) 3 0) A y502 ⟨(IvX_f0 (I := I) (A := A) hIv), (IvX_f18 (I := I) (A := A) hIv), (IvX_f30 (I := I) (A := A) hIv), (IvX_f31 (I := I) (A := A) hIv), (IvX_a4 (I := I) (A := A) hIv), (IvX_a9 (I := I) (A := A) hIv), trivial⟩) (SP.same _) (fun _ h => h) (gi_S (List.mem_cons_of_mem _ (List.mem_append_left _ (List.mem_of_getElem? (i := 11) rfl))) (List.mem_cons_of_mem _ (List.mem_append_left _ (List.mem_of_getElem? (i := 12) rfl))) (List.mem_cons_of_mem _ (List.mem_append_left _ (List.mem_of_getElem? (i := 4) rfl))) (gi_sub (fun w h => (List.mem_cons_of_mem _ (List.mem_append_right _ (List.mem_append_right _ (List.mem_append_right _ (List.mem_append_right _ (List.mem_append_left _ h))))))) zg_k126_X10_isLetter)) rfl rfl rfl (by decide +kernel) ⟨Nat.le_of_ble_eq_true rfl, Nat.le_of_ble_eq_true rfl⟩ rfl rfl (Nat.le_of_ble_eq_true rfl) ⟨Nat.le_of_ble_eq_true rfl, Nat.le_of_ble_eq_true rfl⟩ dX10_toNextToken_57 (fun v ty' w' hp hk' => ?_)
    rcases hp with ⟨rfl, rfl⟩ | ⟨c509, c510, c511, c512, rfl, rfl⟩
    · skip
      show GW κ 2 0 0 (wX q d (upd (upd (upd I 2 y498) 4 y501) 3 0) A) 60 [(1, .int y502), (0, .ref (q 1))] [.int 0]
      refine g_if_eq (tgt := 70) (a := 0) hk dX10_toNextToken_60 (by decide) rfl (fun _ => ?_) (fun z9 => absurd (show (0 : Int) = (0 : Int) from by decide) z9)
      refine g_iload_n hk dX10_toNextToken_70 rfl ?_
      refine g_callS (n := 1) hk (k127_X10_isDigit l D zt q d (upd (upd (upd I 2 y498) 4 y501) 3 0) A y502 ⟨(IvX_f0 (I := I) (A := A) hIv), (IvX_f18 (I := I) (A := A) hIv), (IvX_f30 (I := I) (A := A) hIv), (IvX_f31 (I := I) (A := A) hIv), (IvX_a4 (I := I) (A := A) hIv), (IvX_a9 (I := I) (A := A) hIv), trivial⟩) (SP.same _) (fun _ h => h) (gi_S (List.mem_cons_of_mem _ (List.mem_append_left _ (List.mem_of_getElem? (i := 13) rfl))) (List.mem_cons_of_mem _ (List.mem_append_left _ (List.mem_of_getElem? (i := 14) rfl))) (List.mem_cons_of_mem _ (List.mem_append_left _ (List.mem_of_getElem? (i := 4) rfl))) (gi_sub (fun w h => (List.mem_cons_of_mem _ (List.mem_append_right _ (List.mem_append_right _ (List.mem_append_right _ (List.mem_append_right _ (List.mem_append_right _ (List.mem_append_left _ h)))))))) zg_k127_X10_isDigit)) rfl rfl rfl (by decide +kernel) ⟨Nat.le_of_ble_eq_true rfl, Nat.le_of_ble_eq_true rfl⟩ rfl rfl (Nat.le_of_ble_eq_true rfl) ⟨Nat.le_of_ble_eq_true rfl, Nat.le_of_ble_eq_true rfl⟩ dX10_toNextToken_71 (fun v ty' w' hp hk' => ?_)
      rcases hp with ⟨rfl, rfl⟩ | ⟨c518, c519, c520, c521, rfl, rfl⟩
      · skip
        show GW κ 2 0 0 (wX q d (upd (upd (upd I 2 y498) 4 y501) 3 0) A) 74 [(1, .int y502), (0, .ref (q 1))] [.int 0]
        refine g_if_eq (tgt := 84) (a := 0) hk dX10_toNextToken_74 (by decide) rfl (fun _ => ?_) (fun z9 => absurd (show (0 : Int) = (0 : Int) from by decide) z9)
        refine g_aload_n hk dX10_toNextToken_84 rfl ?_
        refine g_aload_n hk dX10_toNextToken_85 rfl ?_
        refine gX_i2 (v := y498) hk hin10 (List.mem_cons_of_mem _ (List.mem_append_left _ (List.mem_of_getElem? (i := 5) rfl))) dX10_toNextToken_86 rfl ?_
        refine g_iconst (v := 1) hk dX10_toNextToken_89 (by decide) ?_
        have b523l := Int32.le_toInt y498
        have b523h := Int32.toInt_lt y498
        refine g_iadd hk dX10_toNextToken_90 ?_
        refine g_topi (fun y524 ey524 => ?_)
        have hy524 : y524.toInt = y498.toInt + 1 := i32_add ey524 rfl rfl (by omega) (by omega)
        refine pX_i5 hk hin10 (List.mem_cons_of_mem _ (List.mem_append_left _ (List.mem_of_getElem? (i := 0) rfl))) dX10_toNextToken_91 ?_
        refine g_aload_n hk dX10_toNextToken_94 rfl ?_
        refine g_iload_n hk dX10_toNextToken_95 rfl ?_
        refine g_bipush (v := 59) hk dX10_toNextToken_96 (by decide) ?_
        refine g_icmp_ne (tgt := 105) (a := y502.toInt) (b := 59) hk dX10_toNextToken_98 (by decide) rfl rfl (fun c525 => ?_) (fun c525 => ?_)
        · skip
          refine g_iload_n hk dX10_toNextToken_105 rfl ?_
          refine g_bipush (v := 45) hk dX10_toNextToken_106 (by decide) ?_
          refine g_icmp_ne (tgt := 115) (a := y502.toInt) (b := 45) hk dX10_toNextToken_108 (by decide) rfl rfl (fun c526 => ?_) (fun c526 => ?_)
          · skip
            refine g_iconst (v := 5) hk dX10_toNextToken_115 (by decide) ?_
            refine pX_i1 hk hin10 (List.mem_cons_of_mem _ (List.mem_append_left _ (List.mem_of_getElem? (i := 15) rfl))) dX10_toNextToken_116 ?_
            exact g_vret hk hR ⟨(upd (upd (upd (upd (upd I 2 y498) 4 y501) 3 0) 5 y524) 1 5), A, (show Md [1, 2, 3, 4, 5] I (upd (upd (upd (upd (upd I 2 y498) 4 y501) 3 0) 5 y524) 1 5) from (Md.up (Md.up (Md.up (Md.up (Md.up Md.rf rfl) rfl) rfl) rfl) rfl)), (show Md [] A A from Md.rf), ⟨(IvX_f0 (I := I) (A := A) hIv), (IvX_f18 (I := I) (A := A) hIv), (IvX_f30 (I := I) (A := A) hIv), (IvX_f31 (I := I) (A := A) hIv), (IvX_a4 (I := I) (A := A) hIv), (IvX_a9 (I := I) (A := A) hIv), trivial⟩, rfl, rfl⟩ dX10_toNextToken_119
          · skip
            refine g_iconst (v := 4) hk dX10_toNextToken_111 (by decide) ?_
            refine g_goto (tgt := 116) hk dX10_toNextToken_112 (by decide) ?_
            refine pX_i1 hk hin10 (List.mem_cons_of_mem _ (List.mem_append_left _ (List.mem_of_getElem? (i := 15) rfl))) dX10_toNextToken_116 ?_
            exact g_vret hk hR ⟨(upd (upd (upd (upd (upd I 2 y498) 4 y501) 3 0) 5 y524) 1 4), A, (show Md [1, 2, 3, 4, 5] I (upd (upd (upd (upd (upd I 2 y498) 4 y501) 3 0) 5 y524) 1 4) from (Md.up (Md.up (Md.up (Md.up (Md.up Md.rf rfl) rfl) rfl) rfl) rfl)), (show Md [] A A from Md.rf), ⟨(IvX_f0 (I := I) (A := A) hIv), (IvX_f18 (I := I) (A := A) hIv), (IvX_f30 (I := I) (A := A) hIv), (IvX_f31 (I := I) (A := A) hIv), (IvX_a4 (I := I) (A := A) hIv), (IvX_a9 (I := I) (A := A) hIv), trivial⟩, rfl, rfl⟩ dX10_toNextToken_119
        · skip
          refine g_iconst (v := 3) hk dX10_toNextToken_101 (by decide) ?_
          refine g_goto (tgt := 116) hk dX10_toNextToken_102 (by decide) ?_
          refine pX_i1 hk hin10 (List.mem_cons_of_mem _ (List.mem_append_left _ (List.mem_of_getElem? (i := 15) rfl))) dX10_toNextToken_116 ?_
          exact g_vret hk hR ⟨(upd (upd (upd (upd (upd I 2 y498) 4 y501) 3 0) 5 y524) 1 3), A, (show Md [1, 2, 3, 4, 5] I (upd (upd (upd (upd (upd I 2 y498) 4 y501) 3 0) 5 y524) 1 3) from (Md.up (Md.up (Md.up (Md.up (Md.up Md.rf rfl) rfl) rfl) rfl) rfl)), (show Md [] A A from Md.rf), ⟨(IvX_f0 (I := I) (A := A) hIv), (IvX_f18 (I := I) (A := A) hIv), (IvX_f30 (I := I) (A := A) hIv), (IvX_f31 (I := I) (A := A) hIv), (IvX_a4 (I := I) (A := A) hIv), (IvX_a9 (I := I) (A := A) hIv), trivial⟩, rfl, rfl⟩ dX10_toNextToken_119
      · skip
        show GW κ 2 0 0 (wX q d (upd (upd (upd I 2 y498) 4 y501) 3 0) A) 74 [(1, .int y502), (0, .ref (q 1))] [.int 1]
        refine g_if_eq (tgt := 84) (a := 1) hk dX10_toNextToken_74 (by decide) rfl (fun z9 => absurd z9 (show ¬ ((1 : Int) = (0 : Int)) from by decide)) (fun _ => ?_)
        refine g_aload_n hk dX10_toNextToken_77 rfl ?_
        refine g_callV (n := 0) hk (k128_X10_takeDigits l D zt q d (upd (upd (upd I 2 y498) 4 y501) 3 0) A  ⟨(IvX_f0 (I := I) (A := A) hIv), (IvX_f18 (I := I) (A := A) hIv), (IvX_f30 (I := I) (A := A) hIv), (IvX_f31 (I := I) (A := A) hIv), (IvX_a4 (I := I) (A := A) hIv), (IvX_a9 (I := I) (A := A) hIv), trivial⟩) (SP.same _) (fun _ h => h) (gi_V (List.mem_cons_of_mem _ (List.mem_append_left _ (List.mem_of_getElem? (i := 16) rfl))) (List.mem_cons_of_mem _ (List.mem_append_left _ (List.mem_of_getElem? (i := 17) rfl))) (List.mem_cons_of_mem _ (List.mem_append_left _ (List.mem_of_getElem? (i := 18) rfl))) (List.mem_cons_of_mem _ (List.mem_append_left _ (List.mem_of_getElem? (i := 4) rfl))) (gi_sub (fun w h => (List.mem_cons_of_mem _ (List.mem_append_right _ (List.mem_append_right _ (List.mem_append_right _ (List.mem_append_right _ (List.mem_append_right _ (List.mem_append_right _ (List.mem_append_left _ h))))))))) zg_k128_X10_takeDigits)) rfl rfl rfl (by decide +kernel) ⟨Nat.le_of_ble_eq_true rfl, Nat.le_of_ble_eq_true rfl⟩ 1 rfl rfl rfl rfl (Nat.le_of_ble_eq_true rfl) ⟨Nat.le_of_ble_eq_true rfl, Nat.le_of_ble_eq_true rfl⟩ dX10_toNextToken_78 (fun v ty' w' hp hk' => ?_)
        obtain ⟨I615, A615, hI615, hA615, hV615, rfl, rfl⟩ := hp
        show GW κ 2 0 0 (wX q d I615 A615) 81 [(1, .int y502), (0, .ref (q 1))] []
        refine g_goto (tgt := 119) hk dX10_toNextToken_81 (by decide) ?_
        exact g_vret hk hR ⟨I615, A615, (show Md [1, 2, 3, 4, 5] I I615 from (Md.tr (Md.up (Md.up (Md.up Md.rf rfl) rfl) rfl) hI615 rfl)), (show Md [] A A615 from (Md.tr Md.rf hA615 rfl)), hV615, rfl, rfl⟩ dX10_toNextToken_119
    · skip
      show GW κ 2 0 0 (wX q d (upd (upd (upd I 2 y498) 4 y501) 3 0) A) 60 [(1, .int y502), (0, .ref (q 1))] [.int 1]
      refine g_if_eq (tgt := 70) (a := 1) hk dX10_toNextToken_60 (by decide) rfl (fun z9 => absurd z9 (show ¬ ((1 : Int) = (0 : Int)) from by decide)) (fun _ => ?_)
      refine g_aload_n hk dX10_toNextToken_63 rfl ?_
      refine g_callV (n := 0) hk (k129_X10_takeLetters l D zt q d (upd (upd (upd I 2 y498) 4 y501) 3 0) A  ⟨(IvX_f0 (I := I) (A := A) hIv), (IvX_f18 (I := I) (A := A) hIv), (IvX_f30 (I := I) (A := A) hIv), (IvX_f31 (I := I) (A := A) hIv), (IvX_a4 (I := I) (A := A) hIv), (IvX_a9 (I := I) (A := A) hIv), trivial⟩) (SP.same _) (fun _ h => h) (gi_V (List.mem_cons_of_mem _ (List.mem_append_left _ (List.mem_of_getElem? (i := 19) rfl))) (List.mem_cons_of_mem _ (List.mem_append_left _ (List.mem_of_getElem? (i := 20) rfl))) (List.mem_cons_of_mem _ (List.mem_append_left _ (List.mem_of_getElem? (i := 21) rfl))) (List.mem_cons_of_mem _ (List.mem_append_left _ (List.mem_of_getElem? (i := 4) rfl))) (gi_sub (fun w h => (List.mem_cons_of_mem _ (List.mem_append_right _ (List.mem_append_right _ (List.mem_append_right _ (List.mem_append_right _ (List.mem_append_right _ (List.mem_append_right _ (List.mem_append_right _ (List.mem_append_left _ h)))))))))) zg_k129_X10_takeLetters)) rfl rfl rfl (by decide +kernel) ⟨Nat.le_of_ble_eq_true rfl, Nat.le_of_ble_eq_true rfl⟩ 1 rfl rfl rfl rfl (Nat.le_of_ble_eq_true rfl) ⟨Nat.le_of_ble_eq_true rfl, Nat.le_of_ble_eq_true rfl⟩ dX10_toNextToken_64 (fun v ty' w' hp hk' => ?_)
      obtain ⟨I680, A680, hI680, hA680, hV680, rfl, rfl⟩ := hp
      show GW κ 2 0 0 (wX q d I680 A680) 67 [(1, .int y502), (0, .ref (q 1))] []
      refine g_goto (tgt := 119) hk dX10_toNextToken_67 (by decide) ?_
      exact g_vret hk hR ⟨I680, A680, (show Md [1, 2, 3, 4, 5] I I680 from (Md.tr (Md.up (Md.up (Md.up Md.rf rfl) rfl) rfl) hI680 rfl)), (show Md [] A A680 from (Md.tr Md.rf hA680 rfl)), hV680, rfl, rfl⟩ dX10_toNextToken_119
  · skip
    refine g_aload_n hk dX10_toNextToken_40 rfl ?_
    refine g_iconst (v := 0) hk dX10_toNextToken_41 (by decide) ?_
    refine pX_i1 hk hin10 (List.mem_cons_of_mem _ (List.mem_append_left _ (List.mem_of_getElem? (i := 15) rfl))) dX10_toNextToken_42 ?_
    refine g_aload_n hk dX10_toNextToken_45 rfl ?_
    refine g_aload_n hk dX10_toNextToken_46 rfl ?_
    refine gX_i2 (v := y498) hk hin10 (List.mem_cons_of_mem _ (List.mem_append_left _ (List.mem_of_getElem? (i := 5) rfl))) dX10_toNextToken_47 rfl ?_
    refine pX_i5 hk hin10 (List.mem_cons_of_mem _ (List.mem_append_left _ (List.mem_of_getElem? (i := 0) rfl))) dX10_toNextToken_50 ?_
    refine g_goto (tgt := 119) hk dX10_toNextToken_53 (by decide) ?_
    exact g_vret hk hR ⟨(upd (upd (upd (upd (upd I 2 y498) 4 y501) 3 0) 1 0) 5 y498), A, (show Md [1, 2, 3, 4, 5] I (upd (upd (upd (upd (upd I 2 y498) 4 y501) 3 0) 1 0) 5 y498) from (Md.up (Md.up (Md.up (Md.up (Md.up Md.rf rfl) rfl) rfl) rfl) rfl)), (show Md [] A A from Md.rf), ⟨(IvX_f0 (I := I) (A := A) hIv), (IvX_f18 (I := I) (A := A) hIv), (IvX_f30 (I := I) (A := A) hIv), (IvX_f31 (I := I) (A := A) hIv), (IvX_a4 (I := I) (A := A) hIv), (IvX_a9 (I := I) (A := A) hIv), trivial⟩, rfl, rfl⟩ dX10_toNextToken_119
def wo_k122_X10_toFirstToken : List Cond := [Cond.fieldLink RX10 19 "WarpDesk$Tape" "behind" "I", Cond.fieldLink RX10 22 "WarpDesk$Tape" "number" "I", Cond.methodLink RX10 25 yX10_toNextToken, Cond.instanceMethod yX10_toNextToken, Cond.selects RX10 yX10_toNextToken yX10_toNextToken, Cond.initialized RX10]
def wz_k122_X10_toFirstToken : List Cond := .code yX10_toFirstToken cX10_toFirstToken 1 none :: (wo_k122_X10_toFirstToken ++ (wsX100 ++ (wz_k123_X10_toNextToken ++ ([] : List Cond))))
theorem zg_k122_X10_toFirstToken : ∀ w ∈ wz_k122_X10_toFirstToken, goodWord w = true := zg_cons rfl (zg_app (by decide +kernel) (zg_app zgU_wsX100 (zg_app zg_k123_X10_toNextToken zg_nil)))
theorem zi_k122_X10_toFirstToken : ∀ w ∈ wz_k122_X10_toFirstToken, w ∈ lw_tbl := zi_cons zw_557 (zi_app (zi_cons zw_146 (zi_cons zw_144 (zi_cons zw_558 (zi_cons zw_559 (zi_cons zw_560 (zi_cons zw_104 zi_nil)))))) (zi_app inX10 (zi_app zi_k123_X10_toNextToken zi_nil)))
set_option maxHeartbeats 4000000 in
set_option maxRecDepth 100000 in
theorem k122_X10_toFirstToken (l : Launch) (D : va_G) (zt : Nat × Nat × Nat × (Nat → Nat) × (Nat → Nat)) (q : Nat → Nat) (d : Nat → ClassId) (I : Nat → Int32) (A : Nat → Nat → Int32) (hIv : IvX I A) : GM l D zt (tyX d) yX10_toFirstToken wz_k122_X10_toFirstToken ({ frames := 3, cells := 0, slots := 0, locals := 65 } : Room) [.ref (q 1)] (wX q d I A) (fun v _ w' => ∃ (I' : Nat → Int32) (A' : Nat → Nat → Int32), Md [1, 2, 3, 4, 5] I I' ∧ Md [] A A' ∧ IvX I' A' ∧ v = none ∧ w' = wX q d I' A') 0 0 := by
  refine GM.of (cc := cX10_toFirstToken) (maxL := 1) (ret := none) (own := RX10) (lv := [(0, .ref (q 1))]) (by decide) rfl rfl (Nat.le_of_ble_eq_true rfl) rfl (fun κ sz hk hR hN => ?_)
  have hin10 : ∀ w ∈ u_ws RX10 TX10 7, w ∈ wz_k122_X10_toFirstToken := fun w h => (List.mem_cons_of_mem _ (List.mem_append_right _ (List.mem_append_left _ h)))
  refine g_aload_n hk dX10_toFirstToken_0 rfl ?_
  refine g_iconst (v := 0) hk dX10_toFirstToken_1 (by decide) ?_
  refine pX_i5 hk hin10 (List.mem_cons_of_mem _ (List.mem_append_left _ (List.mem_of_getElem? (i := 0) rfl))) dX10_toFirstToken_2 ?_
  refine g_aload_n hk dX10_toFirstToken_5 rfl ?_
  refine g_iconst (v := 0) hk dX10_toFirstToken_6 (by decide) ?_
  refine pX_i4 hk hin10 (List.mem_cons_of_mem _ (List.mem_append_left _ (List.mem_of_getElem? (i := 1) rfl))) dX10_toFirstToken_7 ?_
  refine g_aload_n hk dX10_toFirstToken_10 rfl ?_
  refine g_callV (n := 0) hk (k123_X10_toNextToken l D zt q d (upd (upd I 5 0) 4 0) A  ⟨(IvX_f0 (I := I) (A := A) hIv), (IvX_f18 (I := I) (A := A) hIv), (IvX_f30 (I := I) (A := A) hIv), (IvX_f31 (I := I) (A := A) hIv), (IvX_a4 (I := I) (A := A) hIv), (IvX_a9 (I := I) (A := A) hIv), trivial⟩) (SP.same _) (fun _ h => h) (gi_V (List.mem_cons_of_mem _ (List.mem_append_left _ (List.mem_of_getElem? (i := 2) rfl))) (List.mem_cons_of_mem _ (List.mem_append_left _ (List.mem_of_getElem? (i := 3) rfl))) (List.mem_cons_of_mem _ (List.mem_append_left _ (List.mem_of_getElem? (i := 4) rfl))) (List.mem_cons_of_mem _ (List.mem_append_left _ (List.mem_of_getElem? (i := 5) rfl))) (gi_sub (fun w h => (List.mem_cons_of_mem _ (List.mem_append_right _ (List.mem_append_right _ (List.mem_append_left _ h))))) zg_k123_X10_toNextToken)) rfl rfl rfl (by decide +kernel) ⟨Nat.le_of_ble_eq_true rfl, Nat.le_of_ble_eq_true rfl⟩ 1 rfl rfl rfl rfl (Nat.le_of_ble_eq_true rfl) ⟨Nat.le_of_ble_eq_true rfl, Nat.le_of_ble_eq_true rfl⟩ dX10_toFirstToken_11 (fun v ty' w' hp hk' => ?_)
  obtain ⟨I682, A682, hI682, hA682, hV682, rfl, rfl⟩ := hp
  show GW κ 1 0 0 (wX q d I682 A682) 14 [(0, .ref (q 1))] []
  exact g_vret hk hR ⟨I682, A682, (show Md [1, 2, 3, 4, 5] I I682 from (Md.tr (Md.up (Md.up Md.rf rfl) rfl) hI682 rfl)), (show Md [] A A682 from (Md.tr Md.rf hA682 rfl)), hV682, rfl, rfl⟩ dX10_toFirstToken_14
def wo_k118_X5_begin : List Cond := [Cond.fieldLink RX5 12 "WarpDesk$Reader" "draft" "LWarpDesk$Stand;", Cond.methodLink RX5 81 yX8_clear, Cond.instanceMethod yX8_clear, Cond.selects RX8 yX8_clear yX8_clear, Cond.initialized RX8, Cond.fieldLink RX5 21 "WarpDesk$Reader" "queries" "LWarpDesk$Queries;", Cond.fieldLink RX5 84 "WarpDesk$Queries" "size" "I", Cond.fieldLink RX5 75 "WarpDesk$Reader" "state" "I", Cond.fieldLink RX5 87 "WarpDesk$Reader" "isNegative" "Z", Cond.fieldLink RX5 32 "WarpDesk$Reader" "told" "I", Cond.fieldLink RX5 49 "WarpDesk$Reader" "isStopped" "Z", Cond.fieldLink RX5 78 "WarpDesk$Reader" "fault" "I", Cond.fieldLink RX5 36 "WarpDesk$Reader" "faultPlace" "I", Cond.fieldLink RX5 39 "WarpDesk$Reader" "faultCause" "I", Cond.fieldLink RX5 42 "WarpDesk$Reader" "tape" "LWarpDesk$Tape;", Cond.methodLink RX5 90 yX10_toFirstToken, Cond.instanceMethod yX10_toFirstToken, Cond.selects RX10 yX10_toFirstToken yX10_toFirstToken, Cond.initialized RX10]
def wz_k118_X5_begin : List Cond := .code yX5_begin cX5_begin 1 none :: (wo_k118_X5_begin ++ (wsX40 ++ (wsX50 ++ (wz_k119_X8_clear ++ (wz_k122_X10_toFirstToken ++ ([] : List Cond))))))
theorem zg_k118_X5_begin : ∀ w ∈ wz_k118_X5_begin, goodWord w = true := zg_cons rfl (zg_app (by decide +kernel) (zg_app zgU_wsX40 (zg_app zgU_wsX50 (zg_app zg_k119_X8_clear (zg_app zg_k122_X10_toFirstToken zg_nil)))))
theorem zi_k118_X5_begin : ∀ w ∈ wz_k118_X5_begin, w ∈ lw_tbl := zi_cons zw_541 (zi_app (zi_cons zw_231 (zi_cons zw_542 (zi_cons zw_543 (zi_cons zw_544 (zi_cons zw_106 (zi_cons zw_233 (zi_cons zw_220 (zi_cons zw_237 (zi_cons zw_239 (zi_cons zw_240 (zi_cons zw_241 (zi_cons zw_242 (zi_cons zw_243 (zi_cons zw_245 (zi_cons zw_230 (zi_cons zw_554 (zi_cons zw_555 (zi_cons zw_556 (zi_cons zw_104 zi_nil))))))))))))))))))) (zi_app inX4 (zi_app inX5 (zi_app zi_k119_X8_clear (zi_app zi_k122_X10_toFirstToken zi_nil)))))
set_option maxHeartbeats 4000000 in
set_option maxRecDepth 100000 in
theorem k118_X5_begin (l : Launch) (D : va_G) (zt : Nat × Nat × Nat × (Nat → Nat) × (Nat → Nat)) (q : Nat → Nat) (d : Nat → ClassId) (I : Nat → Int32) (A : Nat → Nat → Int32) (hIv : IvX I A) : GM l D zt (tyX d) yX5_begin wz_k118_X5_begin ({ frames := 4, cells := 0, slots := 0, locals := 85 } : Room) [.ref (q 3)] (wX q d I A) (fun v _ w' => ∃ (I' : Nat → Int32) (A' : Nat → Nat → Int32), Md [1, 2, 3, 4, 5, 6, 8, 9, 10, 11, 12, 13, 14, 16] I I' ∧ Md [2] A A' ∧ IvX I' A' ∧ v = none ∧ w' = wX q d I' A') 0 0 := by
  refine GM.of (cc := cX5_begin) (maxL := 1) (ret := none) (own := RX5) (lv := [(0, .ref (q 3))]) (by decide) rfl rfl (Nat.le_of_ble_eq_true rfl) rfl (fun κ sz hk hR hN => ?_)
  have hin4 : ∀ w ∈ u_ws RX4 TX4 3, w ∈ wz_k118_X5_begin := fun w h => (List.mem_cons_of_mem _ (List.mem_append_right _ (List.mem_append_left _ h)))
  have hin5 : ∀ w ∈ u_ws RX5 TX5 13, w ∈ wz_k118_X5_begin := fun w h => (List.mem_cons_of_mem _ (List.mem_append_right _ (List.mem_append_right _ (List.mem_append_left _ h))))
  refine g_aload_n hk dX5_begin_0 rfl ?_
  refine gX_r3_1 hk hin5 (List.mem_cons_of_mem _ (List.mem_append_left _ (List.mem_of_getElem? (i := 0) rfl))) dX5_begin_1 ?_
  refine g_callV (n := 0) hk (k119_X8_clear l D zt q d I A  hIv) (SP.same _) (fun _ h => h) (gi_V (List.mem_cons_of_mem _ (List.mem_append_left _ (List.mem_of_getElem? (i := 1) rfl))) (List.mem_cons_of_mem _ (List.mem_append_left _ (List.mem_of_getElem? (i := 2) rfl))) (List.mem_cons_of_mem _ (List.mem_append_left _ (List.mem_of_getElem? (i := 3) rfl))) (List.mem_cons_of_mem _ (List.mem_append_left _ (List.mem_of_getElem? (i := 4) rfl))) (gi_sub (fun w h => (List.mem_cons_of_mem _ (List.mem_append_right _ (List.mem_append_right _ (List.mem_append_right _ (List.mem_append_left _ h)))))) zg_k119_X8_clear)) rfl rfl rfl (by decide +kernel) ⟨Nat.le_of_ble_eq_true rfl, Nat.le_of_ble_eq_true rfl⟩ 4 rfl rfl rfl rfl (Nat.le_of_ble_eq_true rfl) ⟨Nat.le_of_ble_eq_true rfl, Nat.le_of_ble_eq_true rfl⟩ dX5_begin_4 (fun v ty' w' hp hk' => ?_)
  obtain ⟨I444, A444, hI444, hA444, hV444, rfl, rfl⟩ := hp
  show GW κ 1 0 0 (wX q d I444 A444) 7 [(0, .ref (q 3))] []
  refine g_aload_n hk dX5_begin_7 rfl ?_
  refine gX_r3_2 hk hin5 (List.mem_cons_of_mem _ (List.mem_append_left _ (List.mem_of_getElem? (i := 5) rfl))) dX5_begin_8 ?_
  refine g_iconst (v := 0) hk dX5_begin_11 (by decide) ?_
  refine pX_i16 hk hin4 (List.mem_cons_of_mem _ (List.mem_append_left _ (List.mem_of_getElem? (i := 6) rfl))) dX5_begin_12 ?_
  refine g_aload_n hk dX5_begin_15 rfl ?_
  refine g_iconst (v := 0) hk dX5_begin_16 (by decide) ?_
  refine pX_i6 hk hin5 (List.mem_cons_of_mem _ (List.mem_append_left _ (List.mem_of_getElem? (i := 7) rfl))) dX5_begin_17 ?_
  refine g_aload_n hk dX5_begin_20 rfl ?_
  refine g_iconst (v := 0) hk dX5_begin_21 (by decide) ?_
  refine pX_i8 hk hin5 (List.mem_cons_of_mem _ (List.mem_append_left _ (List.mem_of_getElem? (i := 8) rfl))) ⟨rfl, rfl⟩ dX5_begin_22 ?_
  refine g_aload_n hk dX5_begin_25 rfl ?_
  refine g_bipush (v := (-2)) hk dX5_begin_26 (by decide) ?_
  refine pX_i9 hk hin5 (List.mem_cons_of_mem _ (List.mem_append_left _ (List.mem_of_getElem? (i := 9) rfl))) dX5_begin_28 ?_
  refine g_aload_n hk dX5_begin_31 rfl ?_
  refine g_iconst (v := 0) hk dX5_begin_32 (by decide) ?_
  refine pX_i10 hk hin5 (List.mem_cons_of_mem _ (List.mem_append_left _ (List.mem_of_getElem? (i := 10) rfl))) ⟨rfl, rfl⟩ dX5_begin_33 ?_
  refine g_aload_n hk dX5_begin_36 rfl ?_
  refine g_iconst (v := 0) hk dX5_begin_37 (by decide) ?_
  refine pX_i11 hk hin5 (List.mem_cons_of_mem _ (List.mem_append_left _ (List.mem_of_getElem? (i := 11) rfl))) dX5_begin_38 ?_
  refine g_aload_n hk dX5_begin_41 rfl ?_
  refine g_iconst (v := (-1)) hk dX5_begin_42 (by decide) ?_
  refine pX_i12 hk hin5 (List.mem_cons_of_mem _ (List.mem_append_left _ (List.mem_of_getElem? (i := 12) rfl))) dX5_begin_43 ?_
  refine g_aload_n hk dX5_begin_46 rfl ?_
  refine g_iconst (v := (-1)) hk dX5_begin_47 (by decide) ?_
  refine pX_i13 hk hin5 (List.mem_cons_of_mem _ (List.mem_append_left _ (List.mem_of_getElem? (i := 13) rfl))) dX5_begin_48 ?_
  refine g_aload_n hk dX5_begin_51 rfl ?_
  refine gX_r3_0 hk hin5 (List.mem_cons_of_mem _ (List.mem_append_left _ (List.mem_of_getElem? (i := 14) rfl))) dX5_begin_52 ?_
  refine g_callV (n := 0) hk (k122_X10_toFirstToken l D zt q d (upd (upd (upd (upd (upd (upd (upd (upd I444 16 0) 6 0) 8 0) 9 (-2)) 10 0) 11 0) 12 (-1)) 13 (-1)) A444  ⟨(IvX_f0 (I := I444) (A := A444) hV444), (IvX_f18 (I := I444) (A := A444) hV444), (IvX_f30 (I := I444) (A := A444) hV444), (IvX_f31 (I := I444) (A := A444) hV444), (IvX_a4 (I := I444) (A := A444) hV444), (IvX_a9 (I := I444) (A := A444) hV444), trivial⟩) (SP.same _) (fun _ h => h) (gi_V (List.mem_cons_of_mem _ (List.mem_append_left _ (List.mem_of_getElem? (i := 15) rfl))) (List.mem_cons_of_mem _ (List.mem_append_left _ (List.mem_of_getElem? (i := 16) rfl))) (List.mem_cons_of_mem _ (List.mem_append_left _ (List.mem_of_getElem? (i := 17) rfl))) (List.mem_cons_of_mem _ (List.mem_append_left _ (List.mem_of_getElem? (i := 18) rfl))) (gi_sub (fun w h => (List.mem_cons_of_mem _ (List.mem_append_right _ (List.mem_append_right _ (List.mem_append_right _ (List.mem_append_right _ (List.mem_append_left _ h))))))) zg_k122_X10_toFirstToken)) rfl rfl rfl (by decide +kernel) ⟨Nat.le_of_ble_eq_true rfl, Nat.le_of_ble_eq_true rfl⟩ 1 rfl rfl rfl rfl (Nat.le_of_ble_eq_true rfl) ⟨Nat.le_of_ble_eq_true rfl, Nat.le_of_ble_eq_true rfl⟩ dX5_begin_55 (fun v ty' w' hp hk' => ?_)
  obtain ⟨I684, A684, hI684, hA684, hV684, rfl, rfl⟩ := hp
  show GW κ 1 0 0 (wX q d I684 A684) 58 [(0, .ref (q 3))] []
  exact g_vret hk hR ⟨I684, A684, (show Md [1, 2, 3, 4, 5, 6, 8, 9, 10, 11, 12, 13, 14, 16] I I684 from (Md.tr (Md.up (Md.up (Md.up (Md.up (Md.up (Md.up (Md.up (Md.up (Md.tr Md.rf hI444 rfl) rfl) rfl) rfl) rfl) rfl) rfl) rfl) rfl) hI684 rfl)), (show Md [2] A A684 from (Md.tr (Md.tr Md.rf hA444 rfl) hA684 rfl)), hV684, rfl, rfl⟩ dX5_begin_58
def wo_k131_X5_keepFault : List Cond := [Cond.fieldLink RX5 78 "WarpDesk$Reader" "fault" "I", Cond.fieldLink RX5 42 "WarpDesk$Reader" "tape" "LWarpDesk$Tape;", Cond.fieldLink RX5 96 "WarpDesk$Tape" "start" "I", Cond.fieldLink RX5 36 "WarpDesk$Reader" "faultPlace" "I", Cond.fieldLink RX5 32 "WarpDesk$Reader" "told" "I", Cond.fieldLink RX5 39 "WarpDesk$Reader" "faultCause" "I"]
def wz_k131_X5_keepFault : List Cond := .code yX5_keepFault cX5_keepFault 2 none :: (wo_k131_X5_keepFault ++ (wsX50 ++ (wsX100 ++ ([] : List Cond))))
theorem zg_k131_X5_keepFault : ∀ w ∈ wz_k131_X5_keepFault, goodWord w = true := zg_cons rfl (zg_app (by decide +kernel) (zg_app zgU_wsX50 (zg_app zgU_wsX100 zg_nil)))
theorem zi_k131_X5_keepFault : ∀ w ∈ wz_k131_X5_keepFault, w ∈ lw_tbl := zi_cons zw_688 (zi_app (zi_cons zw_242 (zi_cons zw_230 (zi_cons zw_141 (zi_cons zw_243 (zi_cons zw_240 (zi_cons zw_245 zi_nil)))))) (zi_app inX5 (zi_app inX10 zi_nil)))
set_option maxHeartbeats 4000000 in
set_option maxRecDepth 100000 in
theorem k131_X5_keepFault (l : Launch) (D : va_G) (zt : Nat × Nat × Nat × (Nat → Nat) × (Nat → Nat)) (q : Nat → Nat) (d : Nat → ClassId) (I : Nat → Int32) (A : Nat → Nat → Int32) (z1 : Int32) (hIv : IvX I A) : GM l D zt (tyX d) yX5_keepFault wz_k131_X5_keepFault ({ frames := 0, cells := 0, slots := 0, locals := 0 } : Room) [.ref (q 3), .int z1] (wX q d I A) (fun v _ w' => ∃ (I' : Nat → Int32) (A' : Nat → Nat → Int32), Md [11, 12, 13] I I' ∧ Md [] A A' ∧ IvX I' A' ∧ v = none ∧ w' = wX q d I' A') 0 0 := by
  refine GM.of (cc := cX5_keepFault) (maxL := 2) (ret := none) (own := RX5) (lv := [(0, .ref (q 3)), (1, .int z1)]) (by decide) rfl rfl (Nat.le_of_ble_eq_true rfl) rfl (fun κ sz hk hR hN => ?_)
  have hin5 : ∀ w ∈ u_ws RX5 TX5 13, w ∈ wz_k131_X5_keepFault := fun w h => (List.mem_cons_of_mem _ (List.mem_append_right _ (List.mem_append_left _ h)))
  have hin10 : ∀ w ∈ u_ws RX10 TX10 7, w ∈ wz_k131_X5_keepFault := fun w h => (List.mem_cons_of_mem _ (List.mem_append_right _ (List.mem_append_right _ (List.mem_append_left _ h))))
  refine g_aload_n hk dX5_keepFault_0 rfl ?_
  refine g_iload_n hk dX5_keepFault_1 rfl ?_
  refine pX_i11 hk hin5 (List.mem_cons_of_mem _ (List.mem_append_left _ (List.mem_of_getElem? (i := 0) rfl))) dX5_keepFault_2 ?_
  refine g_aload_n hk dX5_keepFault_5 rfl ?_
  refine g_aload_n hk dX5_keepFault_6 rfl ?_
  refine gX_r3_0 hk hin5 (List.mem_cons_of_mem _ (List.mem_append_left _ (List.mem_of_getElem? (i := 1) rfl))) dX5_keepFault_7 ?_
  refine gX_i2 (v := (I 2)) hk hin10 (List.mem_cons_of_mem _ (List.mem_append_left _ (List.mem_of_getElem? (i := 2) rfl))) dX5_keepFault_10 rfl ?_
  refine pX_i12 hk hin5 (List.mem_cons_of_mem _ (List.mem_append_left _ (List.mem_of_getElem? (i := 3) rfl))) dX5_keepFault_13 ?_
  refine g_aload_n hk dX5_keepFault_16 rfl ?_
  refine g_aload_n hk dX5_keepFault_17 rfl ?_
  refine gX_i9 (v := (I 9)) hk hin5 (List.mem_cons_of_mem _ (List.mem_append_left _ (List.mem_of_getElem? (i := 4) rfl))) dX5_keepFault_18 rfl ?_
  refine pX_i13 hk hin5 (List.mem_cons_of_mem _ (List.mem_append_left _ (List.mem_of_getElem? (i := 5) rfl))) dX5_keepFault_21 ?_
  exact g_vret hk hR ⟨(upd (upd (upd I 11 z1) 12 (I 2)) 13 (I 9)), A, (show Md [11, 12, 13] I (upd (upd (upd I 11 z1) 12 (I 2)) 13 (I 9)) from (Md.up (Md.up (Md.up Md.rf rfl) rfl) rfl)), (show Md [] A A from Md.rf), ⟨(IvX_f0 (I := I) (A := A) hIv), (IvX_f18 (I := I) (A := A) hIv), (IvX_f30 (I := I) (A := A) hIv), (IvX_f31 (I := I) (A := A) hIv), (IvX_a4 (I := I) (A := A) hIv), (IvX_a9 (I := I) (A := A) hIv), trivial⟩, rfl, rfl⟩ dX5_keepFault_24
def wo_k130_X5_stop : List Cond := [Cond.fieldLink RX5 49 "WarpDesk$Reader" "isStopped" "Z", Cond.methodLink RX5 93 yX5_keepFault, Cond.instanceMethod yX5_keepFault, Cond.selects RX5 yX5_keepFault yX5_keepFault, Cond.initialized RX5]
def wz_k130_X5_stop : List Cond := .code yX5_stop cX5_stop 2 none :: (wo_k130_X5_stop ++ (wsX50 ++ (wz_k131_X5_keepFault ++ ([] : List Cond))))
theorem zg_k130_X5_stop : ∀ w ∈ wz_k130_X5_stop, goodWord w = true := zg_cons rfl (zg_app (by decide +kernel) (zg_app zgU_wsX50 (zg_app zg_k131_X5_keepFault zg_nil)))
theorem zi_k130_X5_stop : ∀ w ∈ wz_k130_X5_stop, w ∈ lw_tbl := zi_cons zw_684 (zi_app (zi_cons zw_241 (zi_cons zw_685 (zi_cons zw_687 (zi_cons zw_13 (zi_cons zw_105 zi_nil))))) (zi_app inX5 (zi_app zi_k131_X5_keepFault zi_nil)))
set_option maxHeartbeats 4000000 in
set_option maxRecDepth 100000 in
theorem k130_X5_stop (l : Launch) (D : va_G) (zt : Nat × Nat × Nat × (Nat → Nat) × (Nat → Nat)) (q : Nat → Nat) (d : Nat → ClassId) (I : Nat → Int32) (A : Nat → Nat → Int32) (z1 : Int32) (hIv : IvX I A) : GM l D zt (tyX d) yX5_stop wz_k130_X5_stop ({ frames := 1, cells := 0, slots := 0, locals := 21 } : Room) [.ref (q 3), .int z1] (wX q d I A) (fun v _ w' => ∃ (I' : Nat → Int32) (A' : Nat → Nat → Int32), Md [10, 11, 12, 13] I I' ∧ Md [] A A' ∧ IvX I' A' ∧ v = none ∧ w' = wX q d I' A') 0 0 := by
  refine GM.of (cc := cX5_stop) (maxL := 2) (ret := none) (own := RX5) (lv := [(0, .ref (q 3)), (1, .int z1)]) (by decide) rfl rfl (Nat.le_of_ble_eq_true rfl) rfl (fun κ sz hk hR hN => ?_)
  have hin5 : ∀ w ∈ u_ws RX5 TX5 13, w ∈ wz_k130_X5_stop := fun w h => (List.mem_cons_of_mem _ (List.mem_append_right _ (List.mem_append_left _ h)))
  refine g_aload_n hk dX5_stop_0 rfl ?_
  refine g_iconst (v := 1) hk dX5_stop_1 (by decide) ?_
  refine pX_i10 hk hin5 (List.mem_cons_of_mem _ (List.mem_append_left _ (List.mem_of_getElem? (i := 0) rfl))) ⟨rfl, rfl⟩ dX5_stop_2 ?_
  refine g_aload_n hk dX5_stop_5 rfl ?_
  refine g_iload_n hk dX5_stop_6 rfl ?_
  refine g_callV (n := 1) hk (k131_X5_keepFault l D zt q d (upd I 10 1) A z1 ⟨(IvX_f0 (I := I) (A := A) hIv), (IvX_f18 (I := I) (A := A) hIv), (IvX_f30 (I := I) (A := A) hIv), (IvX_f31 (I := I) (A := A) hIv), (IvX_a4 (I := I) (A := A) hIv), (IvX_a9 (I := I) (A := A) hIv), trivial⟩) (SP.same _) (fun _ h => h) (gi_V (List.mem_cons_of_mem _ (List.mem_append_left _ (List.mem_of_getElem? (i := 1) rfl))) (List.mem_cons_of_mem _ (List.mem_append_left _ (List.mem_of_getElem? (i := 2) rfl))) (List.mem_cons_of_mem _ (List.mem_append_left _ (List.mem_of_getElem? (i := 3) rfl))) (List.mem_cons_of_mem _ (List.mem_append_left _ (List.mem_of_getElem? (i := 4) rfl))) (gi_sub (fun w h => (List.mem_cons_of_mem _ (List.mem_append_right _ (List.mem_append_right _ (List.mem_append_left _ h))))) zg_k131_X5_keepFault)) rfl rfl rfl (by decide +kernel) ⟨Nat.le_of_ble_eq_true rfl, Nat.le_of_ble_eq_true rfl⟩ 3 rfl rfl rfl rfl (Nat.le_of_ble_eq_true rfl) ⟨Nat.le_of_ble_eq_true rfl, Nat.le_of_ble_eq_true rfl⟩ dX5_stop_7 (fun v ty' w' hp hk' => ?_)
  obtain ⟨I696, A696, hI696, hA696, hV696, rfl, rfl⟩ := hp
  show GW κ 2 0 0 (wX q d I696 A696) 10 [(0, .ref (q 3)), (1, .int z1)] []
  exact g_vret hk hR ⟨I696, A696, (show Md [10, 11, 12, 13] I I696 from (Md.tr (Md.up Md.rf rfl) hI696 rfl)), (show Md [] A A696 from (Md.tr Md.rf hA696 rfl)), hV696, rfl, rfl⟩ dX5_stop_10
def wo_k135_X10_lengthAtHand : List Cond := [Cond.fieldLink RX10 19 "WarpDesk$Tape" "behind" "I", Cond.fieldLink RX10 32 "WarpDesk$Tape" "start" "I"]
def wz_k135_X10_lengthAtHand : List Cond := .code yX10_lengthAtHand cX10_lengthAtHand 1 (some .int) :: (wo_k135_X10_lengthAtHand ++ (wsX100 ++ ([] : List Cond)))
theorem zg_k135_X10_lengthAtHand : ∀ w ∈ wz_k135_X10_lengthAtHand, goodWord w = true := zg_cons rfl (zg_app (by decide +kernel) (zg_app zgU_wsX100 zg_nil))
theorem zi_k135_X10_lengthAtHand : ∀ w ∈ wz_k135_X10_lengthAtHand, w ∈ lw_tbl := zi_cons zw_600 (zi_app (zi_cons zw_146 (zi_cons zw_140 zi_nil)) (zi_app inX10 zi_nil))
set_option maxHeartbeats 4000000 in
set_option maxRecDepth 100000 in
theorem k135_X10_lengthAtHand (l : Launch) (D : va_G) (zt : Nat × Nat × Nat × (Nat → Nat) × (Nat → Nat)) (q : Nat → Nat) (d : Nat → ClassId) (I : Nat → Int32) (A : Nat → Nat → Int32) (hIv : IvX I A) : GM l D zt (tyX d) yX10_lengthAtHand wz_k135_X10_lengthAtHand ({ frames := 0, cells := 0, slots := 0, locals := 0 } : Room) [.ref (q 1)] (wX q d I A) (fun v _ w' => ∃ y0 : Int32, v = some (.int y0) ∧ w' = wX q d I A) 0 0 := by
  refine GM.of (cc := cX10_lengthAtHand) (maxL := 1) (ret := (some .int)) (own := RX10) (lv := [(0, .ref (q 1))]) (by decide) rfl rfl (Nat.le_of_ble_eq_true rfl) rfl (fun κ sz hk hR hN => ?_)
  have hin10 : ∀ w ∈ u_ws RX10 TX10 7, w ∈ wz_k135_X10_lengthAtHand := fun w h => (List.mem_cons_of_mem _ (List.mem_append_right _ (List.mem_append_left _ h)))
  refine g_aload_n hk dX10_lengthAtHand_0 rfl ?_
  refine gX_i5 (v := (I 5)) hk hin10 (List.mem_cons_of_mem _ (List.mem_append_left _ (List.mem_of_getElem? (i := 0) rfl))) dX10_lengthAtHand_1 rfl ?_
  refine g_aload_n hk dX10_lengthAtHand_4 rfl ?_
  refine gX_i2 (v := (I 2)) hk hin10 (List.mem_cons_of_mem _ (List.mem_append_left _ (List.mem_of_getElem? (i := 1) rfl))) dX10_lengthAtHand_5 rfl ?_
  have b710l := Int32.le_toInt (I 5)
  have b710h := Int32.toInt_lt (I 5)
  have b711l := Int32.le_toInt (I 2)
  have b711h := Int32.toInt_lt (I 2)
  refine g_isub hk dX10_lengthAtHand_8 ?_
  refine g_topi (fun y712 ey712 => ?_)
  have hy712 := i32_sub0 ey712
  have b713l := Int32.le_toInt y712
  have b713h := Int32.toInt_lt y712
  exact g_iret hk hR rfl ⟨y712, rfl, rfl⟩ dX10_lengthAtHand_9
def wo_k137_J0_coder_7d493 : List Cond := [Cond.fieldLink RJ0 38 "java/lang/String" "COMPACT_STRINGS" "Z", Cond.fieldLink RJ0 15 "java/lang/String" "coder" "B"]
def wz_k137_J0_coder_7d493 : List Cond := .code yJ0_coder_7d493 cJ0_coder_7d493 1 (some .byte) :: (wo_k137_J0_coder_7d493 ++ ([] : List Cond))
theorem zg_k137_J0_coder_7d493 : ∀ w ∈ wz_k137_J0_coder_7d493, goodWord w = true := zg_cons rfl (zg_app (by decide +kernel) zg_nil)
theorem zi_k137_J0_coder_7d493 : ∀ w ∈ wz_k137_J0_coder_7d493, w ∈ lw_tbl := zi_cons zw_608 (zi_app (zi_cons zw_609 (zi_cons zw_1952 zi_nil)) zi_nil)
set_option maxHeartbeats 4000000 in
set_option maxRecDepth 100000 in
theorem k137_J0_coder_7d493 (l : Launch) (D : va_G) (zt : Nat × Nat × Nat × (Nat → Nat) × (Nat → Nat)) (i : Nat) (hi : i < 13) (q : Nat → Nat) (d : Nat → ClassId) (I : Nat → Int32) (A : Nat → Nat → Int32) (hIv : IvX I A) : GM l D zt (tyX d) yJ0_coder_7d493 wz_k137_J0_coder_7d493 ({ frames := 0, cells := 0, slots := 0, locals := 0 } : Room) [.ref (zt.2.2.2.1 i)] (wX q d I A) (fun v _ w' => ∃ y0 : Int32, (0 ≤ y0.toInt) ∧ (y0.toInt ≤ 0) ∧ v = some (.int y0) ∧ w' = wX q d I A) 0 0 := by
  refine GM.of (cc := cJ0_coder_7d493) (maxL := 1) (ret := (some .byte)) (own := RJ0) (lv := [(0, .ref (zt.2.2.2.1 i))]) (by decide) rfl rfl (Nat.le_of_ble_eq_true rfl) rfl (fun κ sz hk hR hN => ?_)
  refine g_getsC hk (List.mem_cons_of_mem _ (List.mem_append_left _ (List.mem_of_getElem? (i := 0) rfl))) dJ0_coder_7d493_0 ?_
  refine g_if_eq (tgt := 13) (a := 1) hk dJ0_coder_7d493_3 (by decide) rfl (fun z9 => absurd z9 (show ¬ ((1 : Int) = (0 : Int)) from by decide)) (fun _ => ?_)
  refine g_aload_n hk dJ0_coder_7d493_6 rfl ?_
  refine g_strC hk i hi (List.mem_cons_of_mem _ (List.mem_append_left _ (List.mem_of_getElem? (i := 1) rfl))) dJ0_coder_7d493_7 ?_
  refine g_goto (tgt := 14) hk dJ0_coder_7d493_10 (by decide) ?_
  exact g_iret hk hR rfl ⟨0, (by decide), (by decide), rfl, rfl⟩ dJ0_coder_7d493_14
def wo_k136_J0_length_8abf5 : List Cond := [Cond.fieldLink RJ0 9 "java/lang/String" "value" "[B", Cond.methodLink RJ0 335 yJ0_coder_7d493, Cond.instanceMethod yJ0_coder_7d493, Cond.selects RJ0 yJ0_coder_7d493 yJ0_coder_7d493, Cond.initialized RJ0]
def wz_k136_J0_length_8abf5 : List Cond := .code yJ0_length_8abf5 cJ0_length_8abf5 1 (some .int) :: (wo_k136_J0_length_8abf5 ++ (wz_k137_J0_coder_7d493 ++ ([] : List Cond)))
theorem zg_k136_J0_length_8abf5 : ∀ w ∈ wz_k136_J0_length_8abf5, goodWord w = true := zg_cons rfl (zg_app (by decide +kernel) (zg_app zg_k137_J0_coder_7d493 zg_nil))
theorem zi_k136_J0_length_8abf5 : ∀ w ∈ wz_k136_J0_length_8abf5, w ∈ lw_tbl := zi_cons zw_604 (zi_app (zi_cons zw_1951 (zi_cons zw_605 (zi_cons zw_606 (zi_cons zw_607 (zi_cons zw_116 zi_nil))))) (zi_app zi_k137_J0_coder_7d493 zi_nil))
set_option maxHeartbeats 4000000 in
set_option maxRecDepth 100000 in
theorem k136_J0_length_8abf5 (l : Launch) (D : va_G) (zt : Nat × Nat × Nat × (Nat → Nat) × (Nat → Nat)) (i : Nat) (hi : i < 13) (q : Nat → Nat) (d : Nat → ClassId) (I : Nat → Int32) (A : Nat → Nat → Int32) (hIv : IvX I A) : GM l D zt (tyX d) yJ0_length_8abf5 wz_k136_J0_length_8abf5 ({ frames := 1, cells := 0, slots := 0, locals := 20 } : Room) [.ref (zt.2.2.2.1 i)] (wX q d I A) (fun v _ w' => v = some (.int (nI (lenS.getD i 0))) ∧ w' = wX q d I A) 0 0 := by
  refine GM.of (cc := cJ0_length_8abf5) (maxL := 1) (ret := (some .int)) (own := RJ0) (lv := [(0, .ref (zt.2.2.2.1 i))]) (by decide) rfl rfl (Nat.le_of_ble_eq_true rfl) rfl (fun κ sz hk hR hN => ?_)
  refine g_aload_n hk dJ0_length_8abf5_0 rfl ?_
  refine g_strV hk i hi (List.mem_cons_of_mem _ (List.mem_append_left _ (List.mem_of_getElem? (i := 0) rfl))) dJ0_length_8abf5_1 ?_
  have f715 := lenS_le i hi
  refine g_strN hk i hi dJ0_length_8abf5_4 ?_
  refine g_aload_n hk dJ0_length_8abf5_5 rfl ?_
  refine g_callVS (n := 0) i hi hk (k137_J0_coder_7d493 l D zt i hi q d I A  hIv) (SP.same _) (fun _ h => h) (gi_V (List.mem_cons_of_mem _ (List.mem_append_left _ (List.mem_of_getElem? (i := 1) rfl))) (List.mem_cons_of_mem _ (List.mem_append_left _ (List.mem_of_getElem? (i := 2) rfl))) (List.mem_cons_of_mem _ (List.mem_append_left _ (List.mem_of_getElem? (i := 3) rfl))) (List.mem_cons_of_mem _ (List.mem_append_left _ (List.mem_of_getElem? (i := 4) rfl))) (gi_sub (fun w h => (List.mem_cons_of_mem _ (List.mem_append_right _ (List.mem_append_left _ h)))) zg_k137_J0_coder_7d493)) rfl rfl rfl (by decide +kernel) ⟨Nat.le_of_ble_eq_true rfl, Nat.le_of_ble_eq_true rfl⟩ rfl rfl (Nat.le_of_ble_eq_true rfl) ⟨Nat.le_of_ble_eq_true rfl, Nat.le_of_ble_eq_true rfl⟩ dJ0_length_8abf5_6 (fun v ty' w' hp hk' => ?_)
  obtain ⟨y716, c717, c718, rfl, rfl⟩ := hp
  show GW κ 1 0 0 (wX q d I A) 9 [(0, .ref (zt.2.2.2.1 i))] [.int y716, .int (nI (lenS.getD i 0))]
  refine g_ishr hk dJ0_length_8abf5_9 ?_
  refine g_norm (v := (nI (lenS.getD i 0))) (sc_shr0 (by omega)) ?_
  exact g_iret hk hR rfl ⟨rfl, rfl⟩ dJ0_length_8abf5_10
def wo_k139_J0_isLatin1_aae02 : List Cond := [Cond.fieldLink RJ0 38 "java/lang/String" "COMPACT_STRINGS" "Z", Cond.fieldLink RJ0 15 "java/lang/String" "coder" "B"]
def wz_k139_J0_isLatin1_aae02 : List Cond := .code yJ0_isLatin1_aae02 cJ0_isLatin1_aae02 1 (some .boolean) :: (wo_k139_J0_isLatin1_aae02 ++ ([] : List Cond))
theorem zg_k139_J0_isLatin1_aae02 : ∀ w ∈ wz_k139_J0_isLatin1_aae02, goodWord w = true := zg_cons rfl (zg_app (by decide +kernel) zg_nil)
theorem zi_k139_J0_isLatin1_aae02 : ∀ w ∈ wz_k139_J0_isLatin1_aae02, w ∈ lw_tbl := zi_cons zw_618 (zi_app (zi_cons zw_609 (zi_cons zw_1952 zi_nil)) zi_nil)
set_option maxHeartbeats 4000000 in
set_option maxRecDepth 100000 in
theorem k139_J0_isLatin1_aae02 (l : Launch) (D : va_G) (zt : Nat × Nat × Nat × (Nat → Nat) × (Nat → Nat)) (i : Nat) (hi : i < 13) (q : Nat → Nat) (d : Nat → ClassId) (I : Nat → Int32) (A : Nat → Nat → Int32) (hIv : IvX I A) : GM l D zt (tyX d) yJ0_isLatin1_aae02 wz_k139_J0_isLatin1_aae02 ({ frames := 0, cells := 0, slots := 0, locals := 0 } : Room) [.ref (zt.2.2.2.1 i)] (wX q d I A) (fun v _ w' => ∃ y0 : Int32, (1 ≤ y0.toInt) ∧ (y0.toInt ≤ 1) ∧ v = some (.int y0) ∧ w' = wX q d I A) 0 0 := by
  refine GM.of (cc := cJ0_isLatin1_aae02) (maxL := 1) (ret := (some .boolean)) (own := RJ0) (lv := [(0, .ref (zt.2.2.2.1 i))]) (by decide) rfl rfl (Nat.le_of_ble_eq_true rfl) rfl (fun κ sz hk hR hN => ?_)
  refine g_getsC hk (List.mem_cons_of_mem _ (List.mem_append_left _ (List.mem_of_getElem? (i := 0) rfl))) dJ0_isLatin1_aae02_0 ?_
  refine g_if_eq (tgt := 17) (a := 1) hk dJ0_isLatin1_aae02_3 (by decide) rfl (fun z9 => absurd z9 (show ¬ ((1 : Int) = (0 : Int)) from by decide)) (fun _ => ?_)
  refine g_aload_n hk dJ0_isLatin1_aae02_6 rfl ?_
  refine g_strC hk i hi (List.mem_cons_of_mem _ (List.mem_append_left _ (List.mem_of_getElem? (i := 1) rfl))) dJ0_isLatin1_aae02_7 ?_
  refine g_if_ne (tgt := 17) (a := 0) hk dJ0_isLatin1_aae02_10 (by decide) rfl (fun z9 => absurd z9 (show ¬ ((0 : Int) ≠ (0 : Int)) from by decide)) (fun _ => ?_)
  refine g_iconst (v := 1) hk dJ0_isLatin1_aae02_13 (by decide) ?_
  refine g_goto (tgt := 18) hk dJ0_isLatin1_aae02_14 (by decide) ?_
  exact g_iret hk hR rfl ⟨1, (by decide), (by decide), rfl, rfl⟩ dJ0_isLatin1_aae02_18
def wo_k142_J3_checkIndex_8e157 : List Cond := []
def wz_k142_J3_checkIndex_8e157 : List Cond := .code yJ3_checkIndex_8e157 cJ3_checkIndex_8e157 3 (some .int) :: (wo_k142_J3_checkIndex_8e157 ++ ([] : List Cond))
theorem zg_k142_J3_checkIndex_8e157 : ∀ w ∈ wz_k142_J3_checkIndex_8e157, goodWord w = true := zg_cons rfl (zg_app (by decide +kernel) zg_nil)
theorem zi_k142_J3_checkIndex_8e157 : ∀ w ∈ wz_k142_J3_checkIndex_8e157, w ∈ lw_tbl := zi_cons zw_629 (zi_app zi_nil zi_nil)
set_option maxHeartbeats 4000000 in
set_option maxRecDepth 100000 in
theorem k142_J3_checkIndex_8e157 (l : Launch) (D : va_G) (zt : Nat × Nat × Nat × (Nat → Nat) × (Nat → Nat)) (q : Nat → Nat) (d : Nat → ClassId) (I : Nat → Int32) (A : Nat → Nat → Int32) (z0 : Int32) (z1 : Int32) (hIv : IvX I A) (hp0 : 0 ≤ z0.toInt ∧ z0.toInt < z1.toInt) : GM l D zt (tyX d) yJ3_checkIndex_8e157 wz_k142_J3_checkIndex_8e157 ({ frames := 0, cells := 0, slots := 0, locals := 0 } : Room) [.int z0, .int z1, .null] (wX q d I A) (fun v _ w' => ∃ y0 : Int32, (0 ≤ y0.toInt) ∧ (y0.toInt ≤ 2147483646) ∧ v = some (.int y0) ∧ w' = wX q d I A) 0 0 := by
  refine GM.of (cc := cJ3_checkIndex_8e157) (maxL := 3) (ret := (some .int)) (own := RJ3) (lv := [(0, .int z0), (1, .int z1), (2, .null)]) (by decide) rfl rfl (Nat.le_of_ble_eq_true rfl) rfl (fun κ sz hk hR hN => ?_)
  refine g_iload_n hk dJ3_checkIndex_8e157_0 rfl ?_
  have b734l := Int32.le_toInt z0
  have b734h := Int32.toInt_lt z0
  refine g_if_lt (tgt := 9) (a := z0.toInt) hk dJ3_checkIndex_8e157_1 (by decide) rfl (fun c735 => ?_) (fun c735 => ?_)
  · skip
    exfalso; omega
  · skip
    refine g_iload_n hk dJ3_checkIndex_8e157_4 rfl ?_
    refine g_iload_n hk dJ3_checkIndex_8e157_5 rfl ?_
    have b736l := Int32.le_toInt z1
    have b736h := Int32.toInt_lt z1
    refine g_icmp_lt (tgt := 16) (a := z0.toInt) (b := z1.toInt) hk dJ3_checkIndex_8e157_6 (by decide) rfl rfl (fun c737 => ?_) (fun c737 => ?_)
    · skip
      refine g_iload_n hk dJ3_checkIndex_8e157_16 rfl ?_
      exact g_iret hk hR rfl ⟨z0, (by omega), (by omega), rfl, rfl⟩ dJ3_checkIndex_8e157_17
    · skip
      exfalso; omega
def wo_k143_J3_checkIndex_8e157 : List Cond := []
def wz_k143_J3_checkIndex_8e157 : List Cond := .code yJ3_checkIndex_8e157 cJ3_checkIndex_8e157 3 (some .int) :: (wo_k143_J3_checkIndex_8e157 ++ ([] : List Cond))
theorem zg_k143_J3_checkIndex_8e157 : ∀ w ∈ wz_k143_J3_checkIndex_8e157, goodWord w = true := zg_cons rfl (zg_app (by decide +kernel) zg_nil)
theorem zi_k143_J3_checkIndex_8e157 : ∀ w ∈ wz_k143_J3_checkIndex_8e157, w ∈ lw_tbl := zi_cons zw_629 (zi_app zi_nil zi_nil)
set_option maxHeartbeats 4000000 in
set_option maxRecDepth 100000 in
theorem k143_J3_checkIndex_8e157 (l : Launch) (D : va_G) (zt : Nat × Nat × Nat × (Nat → Nat) × (Nat → Nat)) (t8 : Nat) (q : Nat → Nat) (d : Nat → ClassId) (I : Nat → Int32) (A : Nat → Nat → Int32) (z0 : Int32) (z1 : Int32) (hIv : IvX I A) (hp0 : 0 ≤ z0.toInt ∧ z0.toInt < z1.toInt) : GM l D zt (tyX d) yJ3_checkIndex_8e157 wz_k143_J3_checkIndex_8e157 ({ frames := 0, cells := 0, slots := 0, locals := 0 } : Room) [.int z0, .int z1, .ref t8] (wX q d I A) (fun v _ w' => ∃ y0 : Int32, (0 ≤ y0.toInt) ∧ (y0.toInt ≤ 2147483646) ∧ v = some (.int y0) ∧ w' = wX q d I A) 0 0 := by
  refine GM.of (cc := cJ3_checkIndex_8e157) (maxL := 3) (ret := (some .int)) (own := RJ3) (lv := [(0, .int z0), (1, .int z1), (2, .ref t8)]) (by decide) rfl rfl (Nat.le_of_ble_eq_true rfl) rfl (fun κ sz hk hR hN => ?_)
  refine g_iload_n hk dJ3_checkIndex_8e157_0 rfl ?_
  have b741l := Int32.le_toInt z0
  have b741h := Int32.toInt_lt z0
  refine g_if_lt (tgt := 9) (a := z0.toInt) hk dJ3_checkIndex_8e157_1 (by decide) rfl (fun c742 => ?_) (fun c742 => ?_)
  · skip
    exfalso; omega
  · skip
    refine g_iload_n hk dJ3_checkIndex_8e157_4 rfl ?_
    refine g_iload_n hk dJ3_checkIndex_8e157_5 rfl ?_
    have b743l := Int32.le_toInt z1
    have b743h := Int32.toInt_lt z1
    refine g_icmp_lt (tgt := 16) (a := z0.toInt) (b := z1.toInt) hk dJ3_checkIndex_8e157_6 (by decide) rfl rfl (fun c744 => ?_) (fun c744 => ?_)
    · skip
      refine g_iload_n hk dJ3_checkIndex_8e157_16 rfl ?_
      exact g_iret hk hR rfl ⟨z0, (by omega), (by omega), rfl, rfl⟩ dJ3_checkIndex_8e157_17
    · skip
      exfalso; omega
def wo_k141_J0_checkIndex_df160 : List Cond := [Cond.fieldLink RJ0 1053 "jdk/internal/util/Preconditions" "SIOOBE_FORMATTER" "Ljava/util/function/BiFunction;", Cond.methodLink RJ0 1059 yJ3_checkIndex_8e157, Cond.static yJ3_checkIndex_8e157, Cond.initialized RJ3]
def wz_k141_J0_checkIndex_df160 : List Cond := .code yJ0_checkIndex_df160 cJ0_checkIndex_df160 2 none :: (wo_k141_J0_checkIndex_df160 ++ (wz_k142_J3_checkIndex_8e157 ++ (wz_k143_J3_checkIndex_8e157 ++ ([] : List Cond))))
theorem zg_k141_J0_checkIndex_df160 : ∀ w ∈ wz_k141_J0_checkIndex_df160, goodWord w = true := zg_cons rfl (zg_app (by decide +kernel) (zg_app zg_k142_J3_checkIndex_8e157 (zg_app zg_k143_J3_checkIndex_8e157 zg_nil)))
theorem zi_k141_J0_checkIndex_df160 : ∀ w ∈ wz_k141_J0_checkIndex_df160, w ∈ lw_tbl := zi_cons zw_624 (zi_app (zi_cons zw_625 (zi_cons zw_627 (zi_cons zw_628 (zi_cons zw_118 zi_nil)))) (zi_app zi_k142_J3_checkIndex_8e157 (zi_app zi_k143_J3_checkIndex_8e157 zi_nil)))
set_option maxHeartbeats 4000000 in
set_option maxRecDepth 100000 in
theorem k141_J0_checkIndex_df160 (l : Launch) (D : va_G) (zt : Nat × Nat × Nat × (Nat → Nat) × (Nat → Nat)) (q : Nat → Nat) (d : Nat → ClassId) (I : Nat → Int32) (A : Nat → Nat → Int32) (z0 : Int32) (z1 : Int32) (hIv : IvX I A) (hp0 : 0 ≤ z0.toInt ∧ z0.toInt < z1.toInt) : GM l D zt (tyX d) yJ0_checkIndex_df160 wz_k141_J0_checkIndex_df160 ({ frames := 1, cells := 0, slots := 0, locals := 22 } : Room) [.int z0, .int z1] (wX q d I A) (fun v _ w' => v = none ∧ w' = wX q d I A) 0 0 := by
  refine GM.of (cc := cJ0_checkIndex_df160) (maxL := 2) (ret := none) (own := RJ0) (lv := [(0, .int z0), (1, .int z1)]) (by decide) rfl rfl (Nat.le_of_ble_eq_true rfl) rfl (fun κ sz hk hR hN => ?_)
  refine g_iload_n hk dJ0_checkIndex_df160_0 rfl ?_
  refine g_iload_n hk dJ0_checkIndex_df160_1 rfl ?_
  refine g_getsF hk (List.mem_cons_of_mem _ (List.mem_append_left _ (List.mem_of_getElem? (i := 0) rfl))) dJ0_checkIndex_df160_2 ?_ (fun t9 => ?_)
  · skip
    refine g_callS (n := 3) hk (k142_J3_checkIndex_8e157 l D zt q d I A z0 z1 hIv ⟨by omega, by omega⟩) (SP.same _) (fun _ h => h) (gi_S (List.mem_cons_of_mem _ (List.mem_append_left _ (List.mem_of_getElem? (i := 1) rfl))) (List.mem_cons_of_mem _ (List.mem_append_left _ (List.mem_of_getElem? (i := 2) rfl))) (List.mem_cons_of_mem _ (List.mem_append_left _ (List.mem_of_getElem? (i := 3) rfl))) (gi_sub (fun w h => (List.mem_cons_of_mem _ (List.mem_append_right _ (List.mem_append_left _ h)))) zg_k142_J3_checkIndex_8e157)) rfl rfl rfl (by decide +kernel) ⟨Nat.le_of_ble_eq_true rfl, Nat.le_of_ble_eq_true rfl⟩ rfl rfl (Nat.le_of_ble_eq_true rfl) ⟨Nat.le_of_ble_eq_true rfl, Nat.le_of_ble_eq_true rfl⟩ dJ0_checkIndex_df160_5 (fun v ty' w' hp hk' => ?_)
    obtain ⟨y738, c739, c740, rfl, rfl⟩ := hp
    show GW κ 2 0 0 (wX q d I A) 8 [(0, .int z0), (1, .int z1)] [.int y738]
    refine g_pop hk dJ0_checkIndex_df160_8 rfl ?_
    exact g_vret hk hR ⟨rfl, rfl⟩ dJ0_checkIndex_df160_9
  · skip
    refine g_callS (n := 3) hk (k143_J3_checkIndex_8e157 l D zt t9 q d I A z0 z1 hIv ⟨by omega, by omega⟩) (SP.same _) (fun _ h => h) (gi_S (List.mem_cons_of_mem _ (List.mem_append_left _ (List.mem_of_getElem? (i := 1) rfl))) (List.mem_cons_of_mem _ (List.mem_append_left _ (List.mem_of_getElem? (i := 2) rfl))) (List.mem_cons_of_mem _ (List.mem_append_left _ (List.mem_of_getElem? (i := 3) rfl))) (gi_sub (fun w h => (List.mem_cons_of_mem _ (List.mem_append_right _ (List.mem_append_right _ (List.mem_append_left _ h))))) zg_k143_J3_checkIndex_8e157)) rfl rfl rfl (by decide +kernel) ⟨Nat.le_of_ble_eq_true rfl, Nat.le_of_ble_eq_true rfl⟩ rfl rfl (Nat.le_of_ble_eq_true rfl) ⟨Nat.le_of_ble_eq_true rfl, Nat.le_of_ble_eq_true rfl⟩ dJ0_checkIndex_df160_5 (fun v ty' w' hp hk' => ?_)
    obtain ⟨y745, c746, c747, rfl, rfl⟩ := hp
    show GW κ 2 0 0 (wX q d I A) 8 [(0, .int z0), (1, .int z1)] [.int y745]
    refine g_pop hk dJ0_checkIndex_df160_8 rfl ?_
    exact g_vret hk hR ⟨rfl, rfl⟩ dJ0_checkIndex_df160_9
def wo_k140_J1_charAt_3b067 : List Cond := [Cond.methodLink RJ1 9 yJ0_checkIndex_df160, Cond.static yJ0_checkIndex_df160, Cond.initialized RJ0]
def wz_k140_J1_charAt_3b067 : List Cond := .code yJ1_charAt_3b067 cJ1_charAt_3b067 2 (some .char) :: (wo_k140_J1_charAt_3b067 ++ (wz_k141_J0_checkIndex_df160 ++ ([] : List Cond)))
theorem zg_k140_J1_charAt_3b067 : ∀ w ∈ wz_k140_J1_charAt_3b067, goodWord w = true := zg_cons rfl (zg_app (by decide +kernel) (zg_app zg_k141_J0_checkIndex_df160 zg_nil))
theorem zi_k140_J1_charAt_3b067 : ∀ w ∈ wz_k140_J1_charAt_3b067, w ∈ lw_tbl := zi_cons zw_621 (zi_app (zi_cons zw_622 (zi_cons zw_623 (zi_cons zw_116 zi_nil))) (zi_app zi_k141_J0_checkIndex_df160 zi_nil))
set_option maxHeartbeats 4000000 in
set_option maxRecDepth 100000 in
theorem k140_J1_charAt_3b067 (l : Launch) (D : va_G) (zt : Nat × Nat × Nat × (Nat → Nat) × (Nat → Nat)) (i : Nat) (hi : i < 13) (q : Nat → Nat) (d : Nat → ClassId) (I : Nat → Int32) (A : Nat → Nat → Int32) (z1 : Int32) (hIv : IvX I A) (hp0 : 0 ≤ z1.toInt ∧ z1.toInt < (nI (lenS.getD i 0)).toInt) : GM l D zt (tyX d) yJ1_charAt_3b067 wz_k140_J1_charAt_3b067 ({ frames := 2, cells := 0, slots := 0, locals := 43 } : Room) [.ref (zt.2.2.2.2 i), .int z1] (wX q d I A) (fun v _ w' => ∃ y748 : Int32, v = some (.int (y748 &&& 255)) ∧ w' = wX q d I A) 0 0 := by
  refine GM.of (cc := cJ1_charAt_3b067) (maxL := 2) (ret := (some .char)) (own := RJ1) (lv := [(0, .ref (zt.2.2.2.2 i)), (1, .int z1)]) (by decide) rfl rfl (Nat.le_of_ble_eq_true rfl) rfl (fun κ sz hk hR hN => ?_)
  refine g_iload_n hk dJ1_charAt_3b067_0 rfl ?_
  refine g_aload_n hk dJ1_charAt_3b067_1 rfl ?_
  have f733 := lenS_le i hi
  refine g_strN hk i hi dJ1_charAt_3b067_2 ?_
  refine g_callS (n := 2) hk (k141_J0_checkIndex_df160 l D zt q d I A z1 (nI (lenS.getD i 0)) hIv ⟨by omega, by omega⟩) (SP.same _) (fun _ h => h) (gi_S (List.mem_cons_of_mem _ (List.mem_append_left _ (List.mem_of_getElem? (i := 0) rfl))) (List.mem_cons_of_mem _ (List.mem_append_left _ (List.mem_of_getElem? (i := 1) rfl))) (List.mem_cons_of_mem _ (List.mem_append_left _ (List.mem_of_getElem? (i := 2) rfl))) (gi_sub (fun w h => (List.mem_cons_of_mem _ (List.mem_append_right _ (List.mem_append_left _ h)))) zg_k141_J0_checkIndex_df160)) rfl rfl rfl (by decide +kernel) ⟨Nat.le_of_ble_eq_true rfl, Nat.le_of_ble_eq_true rfl⟩ rfl rfl (Nat.le_of_ble_eq_true rfl) ⟨Nat.le_of_ble_eq_true rfl, Nat.le_of_ble_eq_true rfl⟩ dJ1_charAt_3b067_3 (fun v ty' w' hp hk' => ?_)
  obtain ⟨rfl, rfl⟩ := hp
  show GW κ 2 0 0 (wX q d I A) 6 [(0, .ref (zt.2.2.2.2 i)), (1, .int z1)] []
  refine g_aload_n hk dJ1_charAt_3b067_6 rfl ?_
  refine g_iload_n hk dJ1_charAt_3b067_7 rfl ?_
  have b749l := Int32.le_toInt z1
  have b749h := Int32.toInt_lt z1
  refine g_strB hk i hi (str_in hi (by omega) (by omega)) dJ1_charAt_3b067_8 (fun y748 => ?_)
  refine g_sipush (v := 255) hk dJ1_charAt_3b067_9 (by decide) ?_
  have b750l := Int32.le_toInt y748
  have b750h := Int32.toInt_lt y748
  refine g_iand hk dJ1_charAt_3b067_12 ?_
  have h751 : 0 ≤ (y748 &&& 255).toInt ∧ (y748 &&& 255).toInt ≤ 255 := i32_mask 8 rfl (by decide) (by decide)
  refine g_i2c hk dJ1_charAt_3b067_13 (sc_c2 _) ?_
  exact g_iret hk hR (sc_nar _) ⟨y748, rfl, rfl⟩ dJ1_charAt_3b067_14
def wo_k138_J0_charAt_5068e : List Cond := [Cond.methodLink RJ0 492 yJ0_isLatin1_aae02, Cond.instanceMethod yJ0_isLatin1_aae02, Cond.selects RJ0 yJ0_isLatin1_aae02 yJ0_isLatin1_aae02, Cond.initialized RJ0, Cond.fieldLink RJ0 9 "java/lang/String" "value" "[B", Cond.methodLink RJ0 495 yJ1_charAt_3b067, Cond.static yJ1_charAt_3b067, Cond.initialized RJ1]
def wz_k138_J0_charAt_5068e : List Cond := .code yJ0_charAt_5068e cJ0_charAt_5068e 2 (some .char) :: (wo_k138_J0_charAt_5068e ++ (wz_k139_J0_isLatin1_aae02 ++ (wz_k140_J1_charAt_3b067 ++ ([] : List Cond))))
theorem zg_k138_J0_charAt_5068e : ∀ w ∈ wz_k138_J0_charAt_5068e, goodWord w = true := zg_cons rfl (zg_app (by decide +kernel) (zg_app zg_k139_J0_isLatin1_aae02 (zg_app zg_k140_J1_charAt_3b067 zg_nil)))
theorem zi_k138_J0_charAt_5068e : ∀ w ∈ wz_k138_J0_charAt_5068e, w ∈ lw_tbl := zi_cons zw_614 (zi_app (zi_cons zw_615 (zi_cons zw_616 (zi_cons zw_617 (zi_cons zw_116 (zi_cons zw_1951 (zi_cons zw_619 (zi_cons zw_620 (zi_cons zw_117 zi_nil)))))))) (zi_app zi_k139_J0_isLatin1_aae02 (zi_app zi_k140_J1_charAt_3b067 zi_nil)))
set_option maxHeartbeats 4000000 in
set_option maxRecDepth 100000 in
theorem k138_J0_charAt_5068e (l : Launch) (D : va_G) (zt : Nat × Nat × Nat × (Nat → Nat) × (Nat → Nat)) (i : Nat) (hi : i < 13) (q : Nat → Nat) (d : Nat → ClassId) (I : Nat → Int32) (A : Nat → Nat → Int32) (z1 : Int32) (hIv : IvX I A) (hp0 : 0 ≤ z1.toInt ∧ z1.toInt < (nI (lenS.getD i 0)).toInt) : GM l D zt (tyX d) yJ0_charAt_5068e wz_k138_J0_charAt_5068e ({ frames := 3, cells := 0, slots := 0, locals := 64 } : Room) [.ref (zt.2.2.2.1 i), .int z1] (wX q d I A) (fun v _ w' => ∃ y752 : Int32, v = some (.int (y752 &&& 255)) ∧ w' = wX q d I A) 0 0 := by
  refine GM.of (cc := cJ0_charAt_5068e) (maxL := 2) (ret := (some .char)) (own := RJ0) (lv := [(0, .ref (zt.2.2.2.1 i)), (1, .int z1)]) (by decide) rfl rfl (Nat.le_of_ble_eq_true rfl) rfl (fun κ sz hk hR hN => ?_)
  refine g_aload_n hk dJ0_charAt_5068e_0 rfl ?_
  refine g_callVS (n := 0) i hi hk (k139_J0_isLatin1_aae02 l D zt i hi q d I A  hIv) (SP.same _) (fun _ h => h) (gi_V (List.mem_cons_of_mem _ (List.mem_append_left _ (List.mem_of_getElem? (i := 0) rfl))) (List.mem_cons_of_mem _ (List.mem_append_left _ (List.mem_of_getElem? (i := 1) rfl))) (List.mem_cons_of_mem _ (List.mem_append_left _ (List.mem_of_getElem? (i := 2) rfl))) (List.mem_cons_of_mem _ (List.mem_append_left _ (List.mem_of_getElem? (i := 3) rfl))) (gi_sub (fun w h => (List.mem_cons_of_mem _ (List.mem_append_right _ (List.mem_append_left _ h)))) zg_k139_J0_isLatin1_aae02)) rfl rfl rfl (by decide +kernel) ⟨Nat.le_of_ble_eq_true rfl, Nat.le_of_ble_eq_true rfl⟩ rfl rfl (Nat.le_of_ble_eq_true rfl) ⟨Nat.le_of_ble_eq_true rfl, Nat.le_of_ble_eq_true rfl⟩ dJ0_charAt_5068e_1 (fun v ty' w' hp hk' => ?_)
  obtain ⟨y730, c731, c732, rfl, rfl⟩ := hp
  show GW κ 2 0 0 (wX q d I A) 4 [(0, .ref (zt.2.2.2.1 i)), (1, .int z1)] [.int y730]
  refine g_if_eq (tgt := 16) (a := y730.toInt) hk dJ0_charAt_5068e_4 (by decide) rfl (fun z9 => absurd z9 (show ¬ (y730.toInt = 0) from by omega)) (fun _ => ?_)
  refine g_aload_n hk dJ0_charAt_5068e_7 rfl ?_
  refine g_strV hk i hi (List.mem_cons_of_mem _ (List.mem_append_left _ (List.mem_of_getElem? (i := 4) rfl))) dJ0_charAt_5068e_8 ?_
  refine g_iload_n hk dJ0_charAt_5068e_11 rfl ?_
  refine g_callS (n := 2) hk (k140_J1_charAt_3b067 l D zt i hi q d I A z1 hIv ⟨by omega, by omega⟩) (SP.same _) (fun _ h => h) (gi_S (List.mem_cons_of_mem _ (List.mem_append_left _ (List.mem_of_getElem? (i := 5) rfl))) (List.mem_cons_of_mem _ (List.mem_append_left _ (List.mem_of_getElem? (i := 6) rfl))) (List.mem_cons_of_mem _ (List.mem_append_left _ (List.mem_of_getElem? (i := 7) rfl))) (gi_sub (fun w h => (List.mem_cons_of_mem _ (List.mem_append_right _ (List.mem_append_right _ (List.mem_append_left _ h))))) zg_k140_J1_charAt_3b067)) rfl rfl rfl (by decide +kernel) ⟨Nat.le_of_ble_eq_true rfl, Nat.le_of_ble_eq_true rfl⟩ rfl rfl (Nat.le_of_ble_eq_true rfl) ⟨Nat.le_of_ble_eq_true rfl, Nat.le_of_ble_eq_true rfl⟩ dJ0_charAt_5068e_12 (fun v ty' w' hp hk' => ?_)
  obtain ⟨y752, rfl, rfl⟩ := hp
  show GW κ 2 0 0 (wX q d I A) 15 [(0, .ref (zt.2.2.2.1 i)), (1, .int z1)] [.int (y752 &&& 255)]
  have b753l := Int32.le_toInt (y752 &&& 255)
  have b753h := Int32.toInt_lt (y752 &&& 255)
  exact g_iret hk hR (sc_nar _) ⟨y752, rfl, rfl⟩ dJ0_charAt_5068e_15
def wo_k134_X10_isWord : List Cond := [Cond.fieldLink RX10 41 "WarpDesk$Tape" "kind" "I", Cond.methodLink RX10 57 yX10_lengthAtHand, Cond.instanceMethod yX10_lengthAtHand, Cond.selects RX10 yX10_lengthAtHand yX10_lengthAtHand, Cond.initialized RX10, Cond.methodLink RX10 61 yJ0_length_8abf5, Cond.instanceMethod yJ0_length_8abf5, Cond.selects RJ0 yJ0_length_8abf5 yJ0_length_8abf5, Cond.initialized RJ0, Cond.fieldLink RX10 32 "WarpDesk$Tape" "start" "I", Cond.methodLink RX10 38 yX10_byteAt, Cond.instanceMethod yX10_byteAt, Cond.selects RX10 yX10_byteAt yX10_byteAt, Cond.methodLink RX10 66 yJ0_charAt_5068e, Cond.instanceMethod yJ0_charAt_5068e, Cond.selects RJ0 yJ0_charAt_5068e yJ0_charAt_5068e]
def wz_k134_X10_isWord : List Cond := .code yX10_isWord cX10_isWord 3 (some .boolean) :: (wo_k134_X10_isWord ++ (wsX100 ++ (wz_k135_X10_lengthAtHand ++ (wz_k136_J0_length_8abf5 ++ (wz_k125_X10_byteAt ++ (wz_k138_J0_charAt_5068e ++ ([] : List Cond)))))))
theorem zg_k134_X10_isWord : ∀ w ∈ wz_k134_X10_isWord, goodWord w = true := zg_cons rfl (zg_app (by decide +kernel) (zg_app zgU_wsX100 (zg_app zg_k135_X10_lengthAtHand (zg_app zg_k136_J0_length_8abf5 (zg_app zg_k125_X10_byteAt (zg_app zg_k138_J0_charAt_5068e zg_nil))))))
theorem zi_k134_X10_isWord : ∀ w ∈ wz_k134_X10_isWord, w ∈ lw_tbl := zi_cons zw_596 (zi_app (zi_cons zw_139 (zi_cons zw_597 (zi_cons zw_598 (zi_cons zw_599 (zi_cons zw_104 (zi_cons zw_601 (zi_cons zw_602 (zi_cons zw_603 (zi_cons zw_116 (zi_cons zw_140 (zi_cons zw_566 (zi_cons zw_568 (zi_cons zw_2 (zi_cons zw_611 (zi_cons zw_612 (zi_cons zw_613 zi_nil)))))))))))))))) (zi_app inX10 (zi_app zi_k135_X10_lengthAtHand (zi_app zi_k136_J0_length_8abf5 (zi_app zi_k125_X10_byteAt (zi_app zi_k138_J0_charAt_5068e zi_nil))))))
set_option maxHeartbeats 4000000 in
set_option maxRecDepth 100000 in
theorem k134_X10_isWord (l : Launch) (D : va_G) (zt : Nat × Nat × Nat × (Nat → Nat) × (Nat → Nat)) (i : Nat) (hi : i < 13) (q : Nat → Nat) (d : Nat → ClassId) (I : Nat → Int32) (A : Nat → Nat → Int32) (hIv : IvX I A) : GM l D zt (tyX d) yX10_isWord wz_k134_X10_isWord ({ frames := 4, cells := 0, slots := 0, locals := 85 } : Room) [.ref (q 1), .ref (zt.2.2.2.1 i)] (wX q d I A) (fun v _ w' => (v = some (.int 0) ∧ w' = wX q d I A) ∨ (v = some (.int 1) ∧ w' = wX q d I A)) 0 0 := by
  refine GM.of (cc := cX10_isWord) (maxL := 3) (ret := (some .boolean)) (own := RX10) (lv := [(0, .ref (q 1)), (1, .ref (zt.2.2.2.1 i))]) (by decide) rfl rfl (Nat.le_of_ble_eq_true rfl) rfl (fun κ sz hk hR hN => ?_)
  have hin10 : ∀ w ∈ u_ws RX10 TX10 7, w ∈ wz_k134_X10_isWord := fun w h => (List.mem_cons_of_mem _ (List.mem_append_right _ (List.mem_append_left _ h)))
  refine g_aload_n hk dX10_isWord_0 rfl ?_
  refine gX_i1 (v := (I 1)) hk hin10 (List.mem_cons_of_mem _ (List.mem_append_left _ (List.mem_of_getElem? (i := 0) rfl))) dX10_isWord_1 rfl ?_
  refine g_iconst (v := 1) hk dX10_isWord_4 (by decide) ?_
  have b708l := Int32.le_toInt (I 1)
  have b708h := Int32.toInt_lt (I 1)
  refine g_icmp_ne (tgt := 19) (a := (I 1).toInt) (b := 1) hk dX10_isWord_5 (by decide) rfl rfl (fun c709 => ?_) (fun c709 => ?_)
  · skip
    refine g_iconst (v := 0) hk dX10_isWord_19 (by decide) ?_
    exact g_iret hk hR rfl (Or.inl ⟨rfl, rfl⟩) dX10_isWord_20
  · skip
    refine g_aload_n hk dX10_isWord_8 rfl ?_
    refine g_callV (n := 0) hk (k135_X10_lengthAtHand l D zt q d I A  hIv) (SP.same _) (fun _ h => h) (gi_V (List.mem_cons_of_mem _ (List.mem_append_left _ (List.mem_of_getElem? (i := 1) rfl))) (List.mem_cons_of_mem _ (List.mem_append_left _ (List.mem_of_getElem? (i := 2) rfl))) (List.mem_cons_of_mem _ (List.mem_append_left _ (List.mem_of_getElem? (i := 3) rfl))) (List.mem_cons_of_mem _ (List.mem_append_left _ (List.mem_of_getElem? (i := 4) rfl))) (gi_sub (fun w h => (List.mem_cons_of_mem _ (List.mem_append_right _ (List.mem_append_right _ (List.mem_append_left _ h))))) zg_k135_X10_lengthAtHand)) rfl rfl rfl (by decide +kernel) ⟨Nat.le_of_ble_eq_true rfl, Nat.le_of_ble_eq_true rfl⟩ 1 rfl rfl rfl rfl (Nat.le_of_ble_eq_true rfl) ⟨Nat.le_of_ble_eq_true rfl, Nat.le_of_ble_eq_true rfl⟩ dX10_isWord_9 (fun v ty' w' hp hk' => ?_)
    obtain ⟨y714, rfl, rfl⟩ := hp
    show GW κ 3 0 0 (wX q d I A) 12 [(0, .ref (q 1)), (1, .ref (zt.2.2.2.1 i))] [.int y714]
    refine g_aload_n hk dX10_isWord_12 rfl ?_
    refine g_callVS (n := 0) i hi hk (k136_J0_length_8abf5 l D zt i hi q d I A  hIv) (SP.same _) (fun _ h => h) (gi_V (List.mem_cons_of_mem _ (List.mem_append_left _ (List.mem_of_getElem? (i := 5) rfl))) (List.mem_cons_of_mem _ (List.mem_append_left _ (List.mem_of_getElem? (i := 6) rfl))) (List.mem_cons_of_mem _ (List.mem_append_left _ (List.mem_of_getElem? (i := 7) rfl))) (List.mem_cons_of_mem _ (List.mem_append_left _ (List.mem_of_getElem? (i := 8) rfl))) (gi_sub (fun w h => (List.mem_cons_of_mem _ (List.mem_append_right _ (List.mem_append_right _ (List.mem_append_right _ (List.mem_append_left _ h)))))) zg_k136_J0_length_8abf5)) rfl rfl rfl (by decide +kernel) ⟨Nat.le_of_ble_eq_true rfl, Nat.le_of_ble_eq_true rfl⟩ rfl rfl (Nat.le_of_ble_eq_true rfl) ⟨Nat.le_of_ble_eq_true rfl, Nat.le_of_ble_eq_true rfl⟩ dX10_isWord_13 (fun v ty' w' hp hk' => ?_)
    obtain ⟨rfl, rfl⟩ := hp
    have f719 := lenS_le i hi
    show GW κ 3 0 0 (wX q d I A) 16 [(0, .ref (q 1)), (1, .ref (zt.2.2.2.1 i))] [.int (nI (lenS.getD i 0)), .int y714]
    have b720l := Int32.le_toInt y714
    have b720h := Int32.toInt_lt y714
    refine g_icmp_eq (tgt := 21) (a := y714.toInt) (b := (nI (lenS.getD i 0)).toInt) hk dX10_isWord_16 (by decide) rfl rfl (fun c721 => ?_) (fun c721 => ?_)
    · skip
      refine g_iconst (v := 0) hk dX10_isWord_21 (by decide) ?_
      refine g_istore_n (lv' := [(2, .int 0), (0, .ref (q 1)), (1, .ref (zt.2.2.2.1 i))]) hk dX10_isWord_22 (by decide) rfl ?_
      have lp789 : ∀ (n790 : Nat) (x722 : Int32), (0 ≤ x722.toInt) → (x722.toInt ≤ 6) → (7 - x722.toInt < (n790 : Int)) → (0 < n790) → GW κ 3 0 0 (wX q d I A) 23 [(2, .int x722), (0, .ref (q 1)), (1, .ref (zt.2.2.2.1 i))] [] := by
        intro n790
        induction n790 with
        | zero =>
          intro x722 h787 h788 m791 m791z
          exact absurd m791z (Nat.lt_irrefl 0)
        | succ n790 ih =>
          intro x722 h787 h788 m791 m791z
          refine g_iload_n hk dX10_isWord_23 rfl ?_
          refine g_aload_n hk dX10_isWord_24 rfl ?_
          refine g_callVS (n := 0) i hi hk (k136_J0_length_8abf5 l D zt i hi q d I A  hIv) (SP.same _) (fun _ h => h) (gi_V (List.mem_cons_of_mem _ (List.mem_append_left _ (List.mem_of_getElem? (i := 5) rfl))) (List.mem_cons_of_mem _ (List.mem_append_left _ (List.mem_of_getElem? (i := 6) rfl))) (List.mem_cons_of_mem _ (List.mem_append_left _ (List.mem_of_getElem? (i := 7) rfl))) (List.mem_cons_of_mem _ (List.mem_append_left _ (List.mem_of_getElem? (i := 8) rfl))) (gi_sub (fun w h => (List.mem_cons_of_mem _ (List.mem_append_right _ (List.mem_append_right _ (List.mem_append_right _ (List.mem_append_left _ h)))))) zg_k136_J0_length_8abf5)) rfl rfl rfl (by decide +kernel) ⟨Nat.le_of_ble_eq_true rfl, Nat.le_of_ble_eq_true rfl⟩ rfl rfl (Nat.le_of_ble_eq_true rfl) ⟨Nat.le_of_ble_eq_true rfl, Nat.le_of_ble_eq_true rfl⟩ dX10_isWord_25 (fun v ty' w' hp hk' => ?_)
          obtain ⟨rfl, rfl⟩ := hp
          show GW κ 3 0 0 (wX q d I A) 28 [(2, .int x722), (0, .ref (q 1)), (1, .ref (zt.2.2.2.1 i))] [.int (nI (lenS.getD i 0)), .int x722]
          refine g_icmp_ge (tgt := 57) (a := x722.toInt) (b := (nI (lenS.getD i 0)).toInt) hk dX10_isWord_28 (by decide) rfl rfl (fun c792 => ?_) (fun c792 => ?_)
          · skip
            refine g_iconst (v := 1) hk dX10_isWord_57 (by decide) ?_
            exact g_iret hk hR rfl (Or.inr (⟨rfl, rfl⟩)) dX10_isWord_58
          · skip
            refine g_aload_n hk dX10_isWord_31 rfl ?_
            refine g_aload_n hk dX10_isWord_32 rfl ?_
            refine gX_i2 (v := (I 2)) hk hin10 (List.mem_cons_of_mem _ (List.mem_append_left _ (List.mem_of_getElem? (i := 9) rfl))) dX10_isWord_33 rfl ?_
            refine g_iload_n hk dX10_isWord_36 rfl ?_
            have b793l := Int32.le_toInt (I 2)
            have b793h := Int32.toInt_lt (I 2)
            refine g_iadd hk dX10_isWord_37 ?_
            refine g_topi (fun y794 ey794 => ?_)
            refine g_callV (n := 1) hk (k125_X10_byteAt l D zt q d I A y794 hIv) (SP.same _) (fun _ h => h) (gi_V (List.mem_cons_of_mem _ (List.mem_append_left _ (List.mem_of_getElem? (i := 10) rfl))) (List.mem_cons_of_mem _ (List.mem_append_left _ (List.mem_of_getElem? (i := 11) rfl))) (List.mem_cons_of_mem _ (List.mem_append_left _ (List.mem_of_getElem? (i := 12) rfl))) (List.mem_cons_of_mem _ (List.mem_append_left _ (List.mem_of_getElem? (i := 4) rfl))) (gi_sub (fun w h => (List.mem_cons_of_mem _ (List.mem_append_right _ (List.mem_append_right _ (List.mem_append_right _ (List.mem_append_right _ (List.mem_append_left _ h))))))) zg_k125_X10_byteAt)) rfl rfl rfl (by decide +kernel) ⟨Nat.le_of_ble_eq_true rfl, Nat.le_of_ble_eq_true rfl⟩ 1 rfl rfl rfl rfl (Nat.le_of_ble_eq_true rfl) ⟨Nat.le_of_ble_eq_true rfl, Nat.le_of_ble_eq_true rfl⟩ dX10_isWord_38 (fun v ty' w' hp hk' => ?_)
            obtain ⟨y795, rfl, rfl⟩ := hp
            show GW κ 3 0 0 (wX q d I A) 41 [(2, .int x722), (0, .ref (q 1)), (1, .ref (zt.2.2.2.1 i))] [.int y795]
            refine g_aload_n hk dX10_isWord_41 rfl ?_
            refine g_iload_n hk dX10_isWord_42 rfl ?_
            refine g_callVS (n := 1) i hi hk (k138_J0_charAt_5068e l D zt i hi q d I A x722 hIv ⟨by omega, by omega⟩) (SP.same _) (fun _ h => h) (gi_V (List.mem_cons_of_mem _ (List.mem_append_left _ (List.mem_of_getElem? (i := 13) rfl))) (List.mem_cons_of_mem _ (List.mem_append_left _ (List.mem_of_getElem? (i := 14) rfl))) (List.mem_cons_of_mem _ (List.mem_append_left _ (List.mem_of_getElem? (i := 15) rfl))) (List.mem_cons_of_mem _ (List.mem_append_left _ (List.mem_of_getElem? (i := 8) rfl))) (gi_sub (fun w h => (List.mem_cons_of_mem _ (List.mem_append_right _ (List.mem_append_right _ (List.mem_append_right _ (List.mem_append_right _ (List.mem_append_right _ (List.mem_append_left _ h)))))))) zg_k138_J0_charAt_5068e)) rfl rfl rfl (by decide +kernel) ⟨Nat.le_of_ble_eq_true rfl, Nat.le_of_ble_eq_true rfl⟩ rfl rfl (Nat.le_of_ble_eq_true rfl) ⟨Nat.le_of_ble_eq_true rfl, Nat.le_of_ble_eq_true rfl⟩ dX10_isWord_43 (fun v ty' w' hp hk' => ?_)
            obtain ⟨y796, rfl, rfl⟩ := hp
            show GW κ 3 0 0 (wX q d I A) 46 [(2, .int x722), (0, .ref (q 1)), (1, .ref (zt.2.2.2.1 i))] [.int (y796 &&& 255), .int y795]
            have b797l := Int32.le_toInt y795
            have b797h := Int32.toInt_lt y795
            have b798l := Int32.le_toInt (y796 &&& 255)
            have b798h := Int32.toInt_lt (y796 &&& 255)
            refine g_icmp_eq (tgt := 51) (a := y795.toInt) (b := (y796 &&& 255).toInt) hk dX10_isWord_46 (by decide) rfl rfl (fun c799 => ?_) (fun c799 => ?_)
            · skip
              obtain ⟨y800, ey800⟩ : ∃ y : Int32, y = x722 + Int32.ofInt 1 := ⟨_, rfl⟩
              have hy800 : y800.toInt = x722.toInt + 1 := i32_add ey800 rfl (by decide) (by omega) (by omega)
              refine g_iinc (v := y800) (lv' := [(2, .int y800), (0, .ref (q 1)), (1, .ref (zt.2.2.2.1 i))]) hk 0 dX10_isWord_51 rfl ey800.symm (by decide) rfl ?_
              refine g_goto (tgt := 23) hk dX10_isWord_54 (by decide) ?_
              exact g_lv (List.forall_mem_cons.mpr ⟨List.mem_of_getElem? (i := 0) rfl, (List.forall_mem_cons.mpr ⟨List.mem_of_getElem? (i := 1) rfl, (List.forall_mem_cons.mpr ⟨List.mem_of_getElem? (i := 2) rfl, (fun _ h => absurd h List.not_mem_nil)⟩)⟩)⟩) (ih y800 (by omega) (by omega) (by omega) (by omega))
            · skip
              refine g_iconst (v := 0) hk dX10_isWord_49 (by decide) ?_
              exact g_iret hk hR rfl (Or.inl ⟨rfl, rfl⟩) dX10_isWord_50
      have k802 : (0 : Int32).toInt = 0 := rfl
      obtain ⟨n801, n801a, n801b⟩ : ∃ n : Nat, 7 - 0 < (n : Int) ∧ 0 < n := ⟨((7 - 0 : Int)).toNat + 1, by omega, by omega⟩
      exact lp789 n801 0 (by omega) (by omega) n801a n801b
    · skip
      refine g_iconst (v := 0) hk dX10_isWord_19 (by decide) ?_
      exact g_iret hk hR rfl (Or.inl ⟨rfl, rfl⟩) dX10_isWord_20
def wo_k133_X5_tellAtHand : List Cond := [Cond.fieldLink RX5 42 "WarpDesk$Reader" "tape" "LWarpDesk$Tape;", Cond.methodLink RX5 108 yX10_isWord, Cond.instanceMethod yX10_isWord, Cond.selects RX10 yX10_isWord yX10_isWord, Cond.initialized RX10]
def wz_k133_X5_tellAtHand : List Cond := .code yX5_tellAtHand cX5_tellAtHand 1 (some .int) :: (wo_k133_X5_tellAtHand ++ (wsX50 ++ (wz_k134_X10_isWord ++ ([] : List Cond))))
theorem zg_k133_X5_tellAtHand : ∀ w ∈ wz_k133_X5_tellAtHand, goodWord w = true := zg_cons rfl (zg_app (by decide +kernel) (zg_app zgU_wsX50 (zg_app zg_k134_X10_isWord zg_nil)))
theorem zi_k133_X5_tellAtHand : ∀ w ∈ wz_k133_X5_tellAtHand, w ∈ lw_tbl := zi_cons zw_591 (zi_app (zi_cons zw_230 (zi_cons zw_593 (zi_cons zw_594 (zi_cons zw_595 (zi_cons zw_104 zi_nil))))) (zi_app inX5 (zi_app zi_k134_X10_isWord zi_nil)))
set_option maxHeartbeats 4000000 in
set_option maxRecDepth 100000 in
theorem k133_X5_tellAtHand (l : Launch) (D : va_G) (zt : Nat × Nat × Nat × (Nat → Nat) × (Nat → Nat)) (q : Nat → Nat) (d : Nat → ClassId) (I : Nat → Int32) (A : Nat → Nat → Int32) (hIv : IvX I A) : GM l D zt (tyX d) yX5_tellAtHand wz_k133_X5_tellAtHand ({ frames := 5, cells := 0, slots := 0, locals := 107 } : Room) [.ref (q 3)] (wX q d I A) (fun v _ w' => ∃ y0 : Int32, ((-1) ≤ y0.toInt) ∧ (y0.toInt ≤ 5) ∧ v = some (.int y0) ∧ w' = wX q d I A) 0 0 := by
  refine GM.of (cc := cX5_tellAtHand) (maxL := 1) (ret := (some .int)) (own := RX5) (lv := [(0, .ref (q 3))]) (by decide) rfl rfl (Nat.le_of_ble_eq_true rfl) rfl (fun κ sz hk hR hN => ?_)
  have hin5 : ∀ w ∈ u_ws RX5 TX5 13, w ∈ wz_k133_X5_tellAtHand := fun w h => (List.mem_cons_of_mem _ (List.mem_append_right _ (List.mem_append_left _ h)))
  refine g_aload_n hk dX5_tellAtHand_0 rfl ?_
  refine gX_r3_0 hk hin5 (List.mem_cons_of_mem _ (List.mem_append_left _ (List.mem_of_getElem? (i := 0) rfl))) dX5_tellAtHand_1 ?_
  refine g_ldcS hk 1 (by decide) rfl dX5_tellAtHand_4 ?_
  refine g_callV (n := 1) hk (k134_X10_isWord l D zt 1 (by decide) q d I A  hIv) (SP.same _) (fun _ h => h) (gi_V (List.mem_cons_of_mem _ (List.mem_append_left _ (List.mem_of_getElem? (i := 1) rfl))) (List.mem_cons_of_mem _ (List.mem_append_left _ (List.mem_of_getElem? (i := 2) rfl))) (List.mem_cons_of_mem _ (List.mem_append_left _ (List.mem_of_getElem? (i := 3) rfl))) (List.mem_cons_of_mem _ (List.mem_append_left _ (List.mem_of_getElem? (i := 4) rfl))) (gi_sub (fun w h => (List.mem_cons_of_mem _ (List.mem_append_right _ (List.mem_append_right _ (List.mem_append_left _ h))))) zg_k134_X10_isWord)) rfl rfl rfl (by decide +kernel) ⟨Nat.le_of_ble_eq_true rfl, Nat.le_of_ble_eq_true rfl⟩ 1 rfl rfl rfl rfl (Nat.le_of_ble_eq_true rfl) ⟨Nat.le_of_ble_eq_true rfl, Nat.le_of_ble_eq_true rfl⟩ dX5_tellAtHand_6 (fun v ty' w' hp hk' => ?_)
  rcases hp with ⟨rfl, rfl⟩ | ⟨rfl, rfl⟩
  · skip
    show GW κ 1 0 0 (wX q d I A) 9 [(0, .ref (q 3))] [.int 0]
    refine g_if_eq (tgt := 14) (a := 0) hk dX5_tellAtHand_9 (by decide) rfl (fun _ => ?_) (fun z9 => absurd (show (0 : Int) = (0 : Int) from by decide) z9)
    refine g_aload_n hk dX5_tellAtHand_14 rfl ?_
    refine gX_r3_0 hk hin5 (List.mem_cons_of_mem _ (List.mem_append_left _ (List.mem_of_getElem? (i := 0) rfl))) dX5_tellAtHand_15 ?_
    refine g_ldcS hk 2 (by decide) rfl dX5_tellAtHand_18 ?_
    refine g_callV (n := 1) hk (k134_X10_isWord l D zt 2 (by decide) q d I A  hIv) (SP.same _) (fun _ h => h) (gi_V (List.mem_cons_of_mem _ (List.mem_append_left _ (List.mem_of_getElem? (i := 1) rfl))) (List.mem_cons_of_mem _ (List.mem_append_left _ (List.mem_of_getElem? (i := 2) rfl))) (List.mem_cons_of_mem _ (List.mem_append_left _ (List.mem_of_getElem? (i := 3) rfl))) (List.mem_cons_of_mem _ (List.mem_append_left _ (List.mem_of_getElem? (i := 4) rfl))) (gi_sub (fun w h => (List.mem_cons_of_mem _ (List.mem_append_right _ (List.mem_append_right _ (List.mem_append_left _ h))))) zg_k134_X10_isWord)) rfl rfl rfl (by decide +kernel) ⟨Nat.le_of_ble_eq_true rfl, Nat.le_of_ble_eq_true rfl⟩ 1 rfl rfl rfl rfl (Nat.le_of_ble_eq_true rfl) ⟨Nat.le_of_ble_eq_true rfl, Nat.le_of_ble_eq_true rfl⟩ dX5_tellAtHand_20 (fun v ty' w' hp hk' => ?_)
    rcases hp with ⟨rfl, rfl⟩ | ⟨rfl, rfl⟩
    · skip
      show GW κ 1 0 0 (wX q d I A) 23 [(0, .ref (q 3))] [.int 0]
      refine g_if_eq (tgt := 28) (a := 0) hk dX5_tellAtHand_23 (by decide) rfl (fun _ => ?_) (fun z9 => absurd (show (0 : Int) = (0 : Int) from by decide) z9)
      refine g_aload_n hk dX5_tellAtHand_28 rfl ?_
      refine gX_r3_0 hk hin5 (List.mem_cons_of_mem _ (List.mem_append_left _ (List.mem_of_getElem? (i := 0) rfl))) dX5_tellAtHand_29 ?_
      refine g_ldcS hk 3 (by decide) rfl dX5_tellAtHand_32 ?_
      refine g_callV (n := 1) hk (k134_X10_isWord l D zt 3 (by decide) q d I A  hIv) (SP.same _) (fun _ h => h) (gi_V (List.mem_cons_of_mem _ (List.mem_append_left _ (List.mem_of_getElem? (i := 1) rfl))) (List.mem_cons_of_mem _ (List.mem_append_left _ (List.mem_of_getElem? (i := 2) rfl))) (List.mem_cons_of_mem _ (List.mem_append_left _ (List.mem_of_getElem? (i := 3) rfl))) (List.mem_cons_of_mem _ (List.mem_append_left _ (List.mem_of_getElem? (i := 4) rfl))) (gi_sub (fun w h => (List.mem_cons_of_mem _ (List.mem_append_right _ (List.mem_append_right _ (List.mem_append_left _ h))))) zg_k134_X10_isWord)) rfl rfl rfl (by decide +kernel) ⟨Nat.le_of_ble_eq_true rfl, Nat.le_of_ble_eq_true rfl⟩ 1 rfl rfl rfl rfl (Nat.le_of_ble_eq_true rfl) ⟨Nat.le_of_ble_eq_true rfl, Nat.le_of_ble_eq_true rfl⟩ dX5_tellAtHand_34 (fun v ty' w' hp hk' => ?_)
      rcases hp with ⟨rfl, rfl⟩ | ⟨rfl, rfl⟩
      · skip
        show GW κ 1 0 0 (wX q d I A) 37 [(0, .ref (q 3))] [.int 0]
        refine g_if_eq (tgt := 42) (a := 0) hk dX5_tellAtHand_37 (by decide) rfl (fun _ => ?_) (fun z9 => absurd (show (0 : Int) = (0 : Int) from by decide) z9)
        refine g_aload_n hk dX5_tellAtHand_42 rfl ?_
        refine gX_r3_0 hk hin5 (List.mem_cons_of_mem _ (List.mem_append_left _ (List.mem_of_getElem? (i := 0) rfl))) dX5_tellAtHand_43 ?_
        refine g_ldcS hk 4 (by decide) rfl dX5_tellAtHand_46 ?_
        refine g_callV (n := 1) hk (k134_X10_isWord l D zt 4 (by decide) q d I A  hIv) (SP.same _) (fun _ h => h) (gi_V (List.mem_cons_of_mem _ (List.mem_append_left _ (List.mem_of_getElem? (i := 1) rfl))) (List.mem_cons_of_mem _ (List.mem_append_left _ (List.mem_of_getElem? (i := 2) rfl))) (List.mem_cons_of_mem _ (List.mem_append_left _ (List.mem_of_getElem? (i := 3) rfl))) (List.mem_cons_of_mem _ (List.mem_append_left _ (List.mem_of_getElem? (i := 4) rfl))) (gi_sub (fun w h => (List.mem_cons_of_mem _ (List.mem_append_right _ (List.mem_append_right _ (List.mem_append_left _ h))))) zg_k134_X10_isWord)) rfl rfl rfl (by decide +kernel) ⟨Nat.le_of_ble_eq_true rfl, Nat.le_of_ble_eq_true rfl⟩ 1 rfl rfl rfl rfl (Nat.le_of_ble_eq_true rfl) ⟨Nat.le_of_ble_eq_true rfl, Nat.le_of_ble_eq_true rfl⟩ dX5_tellAtHand_48 (fun v ty' w' hp hk' => ?_)
        rcases hp with ⟨rfl, rfl⟩ | ⟨rfl, rfl⟩
        · skip
          show GW κ 1 0 0 (wX q d I A) 51 [(0, .ref (q 3))] [.int 0]
          refine g_if_eq (tgt := 56) (a := 0) hk dX5_tellAtHand_51 (by decide) rfl (fun _ => ?_) (fun z9 => absurd (show (0 : Int) = (0 : Int) from by decide) z9)
          refine g_aload_n hk dX5_tellAtHand_56 rfl ?_
          refine gX_r3_0 hk hin5 (List.mem_cons_of_mem _ (List.mem_append_left _ (List.mem_of_getElem? (i := 0) rfl))) dX5_tellAtHand_57 ?_
          refine g_ldcS hk 5 (by decide) rfl dX5_tellAtHand_60 ?_
          refine g_callV (n := 1) hk (k134_X10_isWord l D zt 5 (by decide) q d I A  hIv) (SP.same _) (fun _ h => h) (gi_V (List.mem_cons_of_mem _ (List.mem_append_left _ (List.mem_of_getElem? (i := 1) rfl))) (List.mem_cons_of_mem _ (List.mem_append_left _ (List.mem_of_getElem? (i := 2) rfl))) (List.mem_cons_of_mem _ (List.mem_append_left _ (List.mem_of_getElem? (i := 3) rfl))) (List.mem_cons_of_mem _ (List.mem_append_left _ (List.mem_of_getElem? (i := 4) rfl))) (gi_sub (fun w h => (List.mem_cons_of_mem _ (List.mem_append_right _ (List.mem_append_right _ (List.mem_append_left _ h))))) zg_k134_X10_isWord)) rfl rfl rfl (by decide +kernel) ⟨Nat.le_of_ble_eq_true rfl, Nat.le_of_ble_eq_true rfl⟩ 1 rfl rfl rfl rfl (Nat.le_of_ble_eq_true rfl) ⟨Nat.le_of_ble_eq_true rfl, Nat.le_of_ble_eq_true rfl⟩ dX5_tellAtHand_62 (fun v ty' w' hp hk' => ?_)
          rcases hp with ⟨rfl, rfl⟩ | ⟨rfl, rfl⟩
          · skip
            show GW κ 1 0 0 (wX q d I A) 65 [(0, .ref (q 3))] [.int 0]
            refine g_if_eq (tgt := 70) (a := 0) hk dX5_tellAtHand_65 (by decide) rfl (fun _ => ?_) (fun z9 => absurd (show (0 : Int) = (0 : Int) from by decide) z9)
            refine g_aload_n hk dX5_tellAtHand_70 rfl ?_
            refine gX_r3_0 hk hin5 (List.mem_cons_of_mem _ (List.mem_append_left _ (List.mem_of_getElem? (i := 0) rfl))) dX5_tellAtHand_71 ?_
            refine g_ldcS hk 6 (by decide) rfl dX5_tellAtHand_74 ?_
            refine g_callV (n := 1) hk (k134_X10_isWord l D zt 6 (by decide) q d I A  hIv) (SP.same _) (fun _ h => h) (gi_V (List.mem_cons_of_mem _ (List.mem_append_left _ (List.mem_of_getElem? (i := 1) rfl))) (List.mem_cons_of_mem _ (List.mem_append_left _ (List.mem_of_getElem? (i := 2) rfl))) (List.mem_cons_of_mem _ (List.mem_append_left _ (List.mem_of_getElem? (i := 3) rfl))) (List.mem_cons_of_mem _ (List.mem_append_left _ (List.mem_of_getElem? (i := 4) rfl))) (gi_sub (fun w h => (List.mem_cons_of_mem _ (List.mem_append_right _ (List.mem_append_right _ (List.mem_append_left _ h))))) zg_k134_X10_isWord)) rfl rfl rfl (by decide +kernel) ⟨Nat.le_of_ble_eq_true rfl, Nat.le_of_ble_eq_true rfl⟩ 1 rfl rfl rfl rfl (Nat.le_of_ble_eq_true rfl) ⟨Nat.le_of_ble_eq_true rfl, Nat.le_of_ble_eq_true rfl⟩ dX5_tellAtHand_76 (fun v ty' w' hp hk' => ?_)
            rcases hp with ⟨rfl, rfl⟩ | ⟨rfl, rfl⟩
            · skip
              show GW κ 1 0 0 (wX q d I A) 79 [(0, .ref (q 3))] [.int 0]
              refine g_if_eq (tgt := 86) (a := 0) hk dX5_tellAtHand_79 (by decide) rfl (fun _ => ?_) (fun z9 => absurd (show (0 : Int) = (0 : Int) from by decide) z9)
              refine g_iconst (v := (-1)) hk dX5_tellAtHand_86 (by decide) ?_
              exact g_iret hk hR rfl ⟨(-1), (by decide), (by decide), rfl, rfl⟩ dX5_tellAtHand_87
            · skip
              show GW κ 1 0 0 (wX q d I A) 79 [(0, .ref (q 3))] [.int 1]
              refine g_if_eq (tgt := 86) (a := 1) hk dX5_tellAtHand_79 (by decide) rfl (fun z9 => absurd z9 (show ¬ ((1 : Int) = (0 : Int)) from by decide)) (fun _ => ?_)
              refine g_iconst (v := 3) hk dX5_tellAtHand_82 (by decide) ?_
              refine g_goto (tgt := 87) hk dX5_tellAtHand_83 (by decide) ?_
              exact g_iret hk hR rfl ⟨3, (by decide), (by decide), rfl, rfl⟩ dX5_tellAtHand_87
          · skip
            show GW κ 1 0 0 (wX q d I A) 65 [(0, .ref (q 3))] [.int 1]
            refine g_if_eq (tgt := 70) (a := 1) hk dX5_tellAtHand_65 (by decide) rfl (fun z9 => absurd z9 (show ¬ ((1 : Int) = (0 : Int)) from by decide)) (fun _ => ?_)
            refine g_iconst (v := 2) hk dX5_tellAtHand_68 (by decide) ?_
            exact g_iret hk hR rfl ⟨2, (by decide), (by decide), rfl, rfl⟩ dX5_tellAtHand_69
        · skip
          show GW κ 1 0 0 (wX q d I A) 51 [(0, .ref (q 3))] [.int 1]
          refine g_if_eq (tgt := 56) (a := 1) hk dX5_tellAtHand_51 (by decide) rfl (fun z9 => absurd z9 (show ¬ ((1 : Int) = (0 : Int)) from by decide)) (fun _ => ?_)
          refine g_iconst (v := 1) hk dX5_tellAtHand_54 (by decide) ?_
          exact g_iret hk hR rfl ⟨1, (by decide), (by decide), rfl, rfl⟩ dX5_tellAtHand_55
      · skip
        show GW κ 1 0 0 (wX q d I A) 37 [(0, .ref (q 3))] [.int 1]
        refine g_if_eq (tgt := 42) (a := 1) hk dX5_tellAtHand_37 (by decide) rfl (fun z9 => absurd z9 (show ¬ ((1 : Int) = (0 : Int)) from by decide)) (fun _ => ?_)
        refine g_iconst (v := 0) hk dX5_tellAtHand_40 (by decide) ?_
        exact g_iret hk hR rfl ⟨0, (by decide), (by decide), rfl, rfl⟩ dX5_tellAtHand_41
    · skip
      show GW κ 1 0 0 (wX q d I A) 23 [(0, .ref (q 3))] [.int 1]
      refine g_if_eq (tgt := 28) (a := 1) hk dX5_tellAtHand_23 (by decide) rfl (fun z9 => absurd z9 (show ¬ ((1 : Int) = (0 : Int)) from by decide)) (fun _ => ?_)
      refine g_iconst (v := 5) hk dX5_tellAtHand_26 (by decide) ?_
      exact g_iret hk hR rfl ⟨5, (by decide), (by decide), rfl, rfl⟩ dX5_tellAtHand_27
  · skip
    show GW κ 1 0 0 (wX q d I A) 9 [(0, .ref (q 3))] [.int 1]
    refine g_if_eq (tgt := 14) (a := 1) hk dX5_tellAtHand_9 (by decide) rfl (fun z9 => absurd z9 (show ¬ ((1 : Int) = (0 : Int)) from by decide)) (fun _ => ?_)
    refine g_iconst (v := 4) hk dX5_tellAtHand_12 (by decide) ?_
    exact g_iret hk hR rfl ⟨4, (by decide), (by decide), rfl, rfl⟩ dX5_tellAtHand_13
def wo_k144_X5_mayStandInRow : List Cond := [Cond.fieldLink RX5 42 "WarpDesk$Reader" "tape" "LWarpDesk$Tape;", Cond.fieldLink RX5 53 "WarpDesk$Tape" "kind" "I", Cond.fieldLink RX5 87 "WarpDesk$Reader" "isNegative" "Z"]
def wz_k144_X5_mayStandInRow : List Cond := .code yX5_mayStandInRow cX5_mayStandInRow 1 (some .boolean) :: (wo_k144_X5_mayStandInRow ++ (wsX50 ++ (wsX100 ++ ([] : List Cond))))
theorem zg_k144_X5_mayStandInRow : ∀ w ∈ wz_k144_X5_mayStandInRow, goodWord w = true := zg_cons rfl (zg_app (by decide +kernel) (zg_app zgU_wsX50 (zg_app zgU_wsX100 zg_nil)))
theorem zi_k144_X5_mayStandInRow : ∀ w ∈ wz_k144_X5_mayStandInRow, w ∈ lw_tbl := zi_cons zw_657 (zi_app (zi_cons zw_230 (zi_cons zw_138 (zi_cons zw_239 zi_nil))) (zi_app inX5 (zi_app inX10 zi_nil)))
set_option maxHeartbeats 4000000 in
set_option maxRecDepth 100000 in
theorem k144_X5_mayStandInRow (l : Launch) (D : va_G) (zt : Nat × Nat × Nat × (Nat → Nat) × (Nat → Nat)) (q : Nat → Nat) (d : Nat → ClassId) (I : Nat → Int32) (A : Nat → Nat → Int32) (hIv : IvX I A) : GM l D zt (tyX d) yX5_mayStandInRow wz_k144_X5_mayStandInRow ({ frames := 0, cells := 0, slots := 0, locals := 0 } : Room) [.ref (q 3)] (wX q d I A) (fun v _ w' => (v = some (.int 0) ∧ w' = wX q d I A) ∨ (v = some (.int 1) ∧ w' = wX q d I A)) 0 0 := by
  refine GM.of (cc := cX5_mayStandInRow) (maxL := 1) (ret := (some .boolean)) (own := RX5) (lv := [(0, .ref (q 3))]) (by decide) rfl rfl (Nat.le_of_ble_eq_true rfl) rfl (fun κ sz hk hR hN => ?_)
  have hin5 : ∀ w ∈ u_ws RX5 TX5 13, w ∈ wz_k144_X5_mayStandInRow := fun w h => (List.mem_cons_of_mem _ (List.mem_append_right _ (List.mem_append_left _ h)))
  have hin10 : ∀ w ∈ u_ws RX10 TX10 7, w ∈ wz_k144_X5_mayStandInRow := fun w h => (List.mem_cons_of_mem _ (List.mem_append_right _ (List.mem_append_right _ (List.mem_append_left _ h))))
  refine g_aload_n hk dX5_mayStandInRow_0 rfl ?_
  refine gX_r3_0 hk hin5 (List.mem_cons_of_mem _ (List.mem_append_left _ (List.mem_of_getElem? (i := 0) rfl))) dX5_mayStandInRow_1 ?_
  refine gX_i1 (v := (I 1)) hk hin10 (List.mem_cons_of_mem _ (List.mem_append_left _ (List.mem_of_getElem? (i := 1) rfl))) dX5_mayStandInRow_4 rfl ?_
  refine g_iconst (v := 2) hk dX5_mayStandInRow_7 (by decide) ?_
  have b820l := Int32.le_toInt (I 1)
  have b820h := Int32.toInt_lt (I 1)
  refine g_icmp_ne (tgt := 13) (a := (I 1).toInt) (b := 2) hk dX5_mayStandInRow_8 (by decide) rfl rfl (fun c821 => ?_) (fun c821 => ?_)
  · skip
    refine g_aload_n hk dX5_mayStandInRow_13 rfl ?_
    refine gX_i8 (v := (I 8)) hk hin5 (List.mem_cons_of_mem _ (List.mem_append_left _ (List.mem_of_getElem? (i := 2) rfl))) dX5_mayStandInRow_14 rfl ?_
    have b822l := Int32.le_toInt (I 8)
    have b822h := Int32.toInt_lt (I 8)
    refine g_if_ne (tgt := 46) (a := (I 8).toInt) hk dX5_mayStandInRow_17 (by decide) rfl (fun c823 => ?_) (fun c823 => ?_)
    · skip
      refine g_iconst (v := 0) hk dX5_mayStandInRow_46 (by decide) ?_
      exact g_iret hk hR rfl (Or.inl ⟨rfl, rfl⟩) dX5_mayStandInRow_47
    · skip
      refine g_aload_n hk dX5_mayStandInRow_20 rfl ?_
      refine gX_r3_0 hk hin5 (List.mem_cons_of_mem _ (List.mem_append_left _ (List.mem_of_getElem? (i := 0) rfl))) dX5_mayStandInRow_21 ?_
      refine gX_i1 (v := (I 1)) hk hin10 (List.mem_cons_of_mem _ (List.mem_append_left _ (List.mem_of_getElem? (i := 1) rfl))) dX5_mayStandInRow_24 rfl ?_
      refine g_iconst (v := 4) hk dX5_mayStandInRow_27 (by decide) ?_
      refine g_icmp_eq (tgt := 42) (a := (I 1).toInt) (b := 4) hk dX5_mayStandInRow_28 (by decide) rfl rfl (fun c824 => ?_) (fun c824 => ?_)
      · skip
        refine g_iconst (v := 1) hk dX5_mayStandInRow_42 (by decide) ?_
        refine g_goto (tgt := 47) hk dX5_mayStandInRow_43 (by decide) ?_
        exact g_iret hk hR rfl (Or.inr (⟨rfl, rfl⟩)) dX5_mayStandInRow_47
      · skip
        refine g_aload_n hk dX5_mayStandInRow_31 rfl ?_
        refine gX_r3_0 hk hin5 (List.mem_cons_of_mem _ (List.mem_append_left _ (List.mem_of_getElem? (i := 0) rfl))) dX5_mayStandInRow_32 ?_
        refine gX_i1 (v := (I 1)) hk hin10 (List.mem_cons_of_mem _ (List.mem_append_left _ (List.mem_of_getElem? (i := 1) rfl))) dX5_mayStandInRow_35 rfl ?_
        refine g_iconst (v := 3) hk dX5_mayStandInRow_38 (by decide) ?_
        refine g_icmp_ne (tgt := 46) (a := (I 1).toInt) (b := 3) hk dX5_mayStandInRow_39 (by decide) rfl rfl (fun c825 => ?_) (fun c825 => ?_)
        · skip
          refine g_iconst (v := 0) hk dX5_mayStandInRow_46 (by decide) ?_
          exact g_iret hk hR rfl (Or.inl ⟨rfl, rfl⟩) dX5_mayStandInRow_47
        · skip
          refine g_iconst (v := 1) hk dX5_mayStandInRow_42 (by decide) ?_
          refine g_goto (tgt := 47) hk dX5_mayStandInRow_43 (by decide) ?_
          exact g_iret hk hR rfl (Or.inr (⟨rfl, rfl⟩)) dX5_mayStandInRow_47
  · skip
    refine g_iconst (v := 1) hk dX5_mayStandInRow_11 (by decide) ?_
    exact g_iret hk hR rfl (Or.inr (⟨rfl, rfl⟩)) dX5_mayStandInRow_12
def wo_k146_X5_levelAtHand : List Cond := [Cond.fieldLink RX5 42 "WarpDesk$Reader" "tape" "LWarpDesk$Tape;", Cond.methodLink RX5 108 yX10_isWord, Cond.instanceMethod yX10_isWord, Cond.selects RX10 yX10_isWord yX10_isWord, Cond.initialized RX10]
def wz_k146_X5_levelAtHand : List Cond := .code yX5_levelAtHand cX5_levelAtHand 1 (some .int) :: (wo_k146_X5_levelAtHand ++ (wsX50 ++ (wz_k134_X10_isWord ++ ([] : List Cond))))
theorem zg_k146_X5_levelAtHand : ∀ w ∈ wz_k146_X5_levelAtHand, goodWord w = true := zg_cons rfl (zg_app (by decide +kernel) (zg_app zgU_wsX50 (zg_app zg_k134_X10_isWord zg_nil)))
theorem zi_k146_X5_levelAtHand : ∀ w ∈ wz_k146_X5_levelAtHand, w ∈ lw_tbl := zi_cons zw_666 (zi_app (zi_cons zw_230 (zi_cons zw_593 (zi_cons zw_594 (zi_cons zw_595 (zi_cons zw_104 zi_nil))))) (zi_app inX5 (zi_app zi_k134_X10_isWord zi_nil)))
set_option maxHeartbeats 4000000 in
set_option maxRecDepth 100000 in
theorem k146_X5_levelAtHand (l : Launch) (D : va_G) (zt : Nat × Nat × Nat × (Nat → Nat) × (Nat → Nat)) (q : Nat → Nat) (d : Nat → ClassId) (I : Nat → Int32) (A : Nat → Nat → Int32) (hIv : IvX I A) : GM l D zt (tyX d) yX5_levelAtHand wz_k146_X5_levelAtHand ({ frames := 5, cells := 0, slots := 0, locals := 107 } : Room) [.ref (q 3)] (wX q d I A) (fun v _ w' => ∃ y0 : Int32, ((-1) ≤ y0.toInt) ∧ (y0.toInt ≤ 3) ∧ v = some (.int y0) ∧ w' = wX q d I A) 0 0 := by
  refine GM.of (cc := cX5_levelAtHand) (maxL := 1) (ret := (some .int)) (own := RX5) (lv := [(0, .ref (q 3))]) (by decide) rfl rfl (Nat.le_of_ble_eq_true rfl) rfl (fun κ sz hk hR hN => ?_)
  have hin5 : ∀ w ∈ u_ws RX5 TX5 13, w ∈ wz_k146_X5_levelAtHand := fun w h => (List.mem_cons_of_mem _ (List.mem_append_right _ (List.mem_append_left _ h)))
  refine g_aload_n hk dX5_levelAtHand_0 rfl ?_
  refine gX_r3_0 hk hin5 (List.mem_cons_of_mem _ (List.mem_append_left _ (List.mem_of_getElem? (i := 0) rfl))) dX5_levelAtHand_1 ?_
  refine g_ldcS hk 7 (by decide) rfl dX5_levelAtHand_4 ?_
  refine g_callV (n := 1) hk (k134_X10_isWord l D zt 7 (by decide) q d I A  hIv) (SP.same _) (fun _ h => h) (gi_V (List.mem_cons_of_mem _ (List.mem_append_left _ (List.mem_of_getElem? (i := 1) rfl))) (List.mem_cons_of_mem _ (List.mem_append_left _ (List.mem_of_getElem? (i := 2) rfl))) (List.mem_cons_of_mem _ (List.mem_append_left _ (List.mem_of_getElem? (i := 3) rfl))) (List.mem_cons_of_mem _ (List.mem_append_left _ (List.mem_of_getElem? (i := 4) rfl))) (gi_sub (fun w h => (List.mem_cons_of_mem _ (List.mem_append_right _ (List.mem_append_right _ (List.mem_append_left _ h))))) zg_k134_X10_isWord)) rfl rfl rfl (by decide +kernel) ⟨Nat.le_of_ble_eq_true rfl, Nat.le_of_ble_eq_true rfl⟩ 1 rfl rfl rfl rfl (Nat.le_of_ble_eq_true rfl) ⟨Nat.le_of_ble_eq_true rfl, Nat.le_of_ble_eq_true rfl⟩ dX5_levelAtHand_6 (fun v ty' w' hp hk' => ?_)
  rcases hp with ⟨rfl, rfl⟩ | ⟨rfl, rfl⟩
  · skip
    show GW κ 1 0 0 (wX q d I A) 9 [(0, .ref (q 3))] [.int 0]
    refine g_if_eq (tgt := 14) (a := 0) hk dX5_levelAtHand_9 (by decide) rfl (fun _ => ?_) (fun z9 => absurd (show (0 : Int) = (0 : Int) from by decide) z9)
    refine g_aload_n hk dX5_levelAtHand_14 rfl ?_
    refine gX_r3_0 hk hin5 (List.mem_cons_of_mem _ (List.mem_append_left _ (List.mem_of_getElem? (i := 0) rfl))) dX5_levelAtHand_15 ?_
    refine g_ldcS hk 8 (by decide) rfl dX5_levelAtHand_18 ?_
    refine g_callV (n := 1) hk (k134_X10_isWord l D zt 8 (by decide) q d I A  hIv) (SP.same _) (fun _ h => h) (gi_V (List.mem_cons_of_mem _ (List.mem_append_left _ (List.mem_of_getElem? (i := 1) rfl))) (List.mem_cons_of_mem _ (List.mem_append_left _ (List.mem_of_getElem? (i := 2) rfl))) (List.mem_cons_of_mem _ (List.mem_append_left _ (List.mem_of_getElem? (i := 3) rfl))) (List.mem_cons_of_mem _ (List.mem_append_left _ (List.mem_of_getElem? (i := 4) rfl))) (gi_sub (fun w h => (List.mem_cons_of_mem _ (List.mem_append_right _ (List.mem_append_right _ (List.mem_append_left _ h))))) zg_k134_X10_isWord)) rfl rfl rfl (by decide +kernel) ⟨Nat.le_of_ble_eq_true rfl, Nat.le_of_ble_eq_true rfl⟩ 1 rfl rfl rfl rfl (Nat.le_of_ble_eq_true rfl) ⟨Nat.le_of_ble_eq_true rfl, Nat.le_of_ble_eq_true rfl⟩ dX5_levelAtHand_20 (fun v ty' w' hp hk' => ?_)
    rcases hp with ⟨rfl, rfl⟩ | ⟨rfl, rfl⟩
    · skip
      show GW κ 1 0 0 (wX q d I A) 23 [(0, .ref (q 3))] [.int 0]
      refine g_if_eq (tgt := 28) (a := 0) hk dX5_levelAtHand_23 (by decide) rfl (fun _ => ?_) (fun z9 => absurd (show (0 : Int) = (0 : Int) from by decide) z9)
      refine g_aload_n hk dX5_levelAtHand_28 rfl ?_
      refine gX_r3_0 hk hin5 (List.mem_cons_of_mem _ (List.mem_append_left _ (List.mem_of_getElem? (i := 0) rfl))) dX5_levelAtHand_29 ?_
      refine g_ldcS hk 9 (by decide) rfl dX5_levelAtHand_32 ?_
      refine g_callV (n := 1) hk (k134_X10_isWord l D zt 9 (by decide) q d I A  hIv) (SP.same _) (fun _ h => h) (gi_V (List.mem_cons_of_mem _ (List.mem_append_left _ (List.mem_of_getElem? (i := 1) rfl))) (List.mem_cons_of_mem _ (List.mem_append_left _ (List.mem_of_getElem? (i := 2) rfl))) (List.mem_cons_of_mem _ (List.mem_append_left _ (List.mem_of_getElem? (i := 3) rfl))) (List.mem_cons_of_mem _ (List.mem_append_left _ (List.mem_of_getElem? (i := 4) rfl))) (gi_sub (fun w h => (List.mem_cons_of_mem _ (List.mem_append_right _ (List.mem_append_right _ (List.mem_append_left _ h))))) zg_k134_X10_isWord)) rfl rfl rfl (by decide +kernel) ⟨Nat.le_of_ble_eq_true rfl, Nat.le_of_ble_eq_true rfl⟩ 1 rfl rfl rfl rfl (Nat.le_of_ble_eq_true rfl) ⟨Nat.le_of_ble_eq_true rfl, Nat.le_of_ble_eq_true rfl⟩ dX5_levelAtHand_34 (fun v ty' w' hp hk' => ?_)
      rcases hp with ⟨rfl, rfl⟩ | ⟨rfl, rfl⟩
      · skip
        show GW κ 1 0 0 (wX q d I A) 37 [(0, .ref (q 3))] [.int 0]
        refine g_if_eq (tgt := 42) (a := 0) hk dX5_levelAtHand_37 (by decide) rfl (fun _ => ?_) (fun z9 => absurd (show (0 : Int) = (0 : Int) from by decide) z9)
        refine g_aload_n hk dX5_levelAtHand_42 rfl ?_
        refine gX_r3_0 hk hin5 (List.mem_cons_of_mem _ (List.mem_append_left _ (List.mem_of_getElem? (i := 0) rfl))) dX5_levelAtHand_43 ?_
        refine g_ldcS hk 10 (by decide) rfl dX5_levelAtHand_46 ?_
        refine g_callV (n := 1) hk (k134_X10_isWord l D zt 10 (by decide) q d I A  hIv) (SP.same _) (fun _ h => h) (gi_V (List.mem_cons_of_mem _ (List.mem_append_left _ (List.mem_of_getElem? (i := 1) rfl))) (List.mem_cons_of_mem _ (List.mem_append_left _ (List.mem_of_getElem? (i := 2) rfl))) (List.mem_cons_of_mem _ (List.mem_append_left _ (List.mem_of_getElem? (i := 3) rfl))) (List.mem_cons_of_mem _ (List.mem_append_left _ (List.mem_of_getElem? (i := 4) rfl))) (gi_sub (fun w h => (List.mem_cons_of_mem _ (List.mem_append_right _ (List.mem_append_right _ (List.mem_append_left _ h))))) zg_k134_X10_isWord)) rfl rfl rfl (by decide +kernel) ⟨Nat.le_of_ble_eq_true rfl, Nat.le_of_ble_eq_true rfl⟩ 1 rfl rfl rfl rfl (Nat.le_of_ble_eq_true rfl) ⟨Nat.le_of_ble_eq_true rfl, Nat.le_of_ble_eq_true rfl⟩ dX5_levelAtHand_48 (fun v ty' w' hp hk' => ?_)
        rcases hp with ⟨rfl, rfl⟩ | ⟨rfl, rfl⟩
        · skip
          show GW κ 1 0 0 (wX q d I A) 51 [(0, .ref (q 3))] [.int 0]
          refine g_if_eq (tgt := 58) (a := 0) hk dX5_levelAtHand_51 (by decide) rfl (fun _ => ?_) (fun z9 => absurd (show (0 : Int) = (0 : Int) from by decide) z9)
          refine g_iconst (v := (-1)) hk dX5_levelAtHand_58 (by decide) ?_
          exact g_iret hk hR rfl ⟨(-1), (by decide), (by decide), rfl, rfl⟩ dX5_levelAtHand_59
        · skip
          show GW κ 1 0 0 (wX q d I A) 51 [(0, .ref (q 3))] [.int 1]
          refine g_if_eq (tgt := 58) (a := 1) hk dX5_levelAtHand_51 (by decide) rfl (fun z9 => absurd z9 (show ¬ ((1 : Int) = (0 : Int)) from by decide)) (fun _ => ?_)
          refine g_iconst (v := 3) hk dX5_levelAtHand_54 (by decide) ?_
          refine g_goto (tgt := 59) hk dX5_levelAtHand_55 (by decide) ?_
          exact g_iret hk hR rfl ⟨3, (by decide), (by decide), rfl, rfl⟩ dX5_levelAtHand_59
      · skip
        show GW κ 1 0 0 (wX q d I A) 37 [(0, .ref (q 3))] [.int 1]
        refine g_if_eq (tgt := 42) (a := 1) hk dX5_levelAtHand_37 (by decide) rfl (fun z9 => absurd z9 (show ¬ ((1 : Int) = (0 : Int)) from by decide)) (fun _ => ?_)
        refine g_iconst (v := 2) hk dX5_levelAtHand_40 (by decide) ?_
        exact g_iret hk hR rfl ⟨2, (by decide), (by decide), rfl, rfl⟩ dX5_levelAtHand_41
    · skip
      show GW κ 1 0 0 (wX q d I A) 23 [(0, .ref (q 3))] [.int 1]
      refine g_if_eq (tgt := 28) (a := 1) hk dX5_levelAtHand_23 (by decide) rfl (fun z9 => absurd z9 (show ¬ ((1 : Int) = (0 : Int)) from by decide)) (fun _ => ?_)
      refine g_iconst (v := 1) hk dX5_levelAtHand_26 (by decide) ?_
      exact g_iret hk hR rfl ⟨1, (by decide), (by decide), rfl, rfl⟩ dX5_levelAtHand_27
  · skip
    show GW κ 1 0 0 (wX q d I A) 9 [(0, .ref (q 3))] [.int 1]
    refine g_if_eq (tgt := 14) (a := 1) hk dX5_levelAtHand_9 (by decide) rfl (fun z9 => absurd z9 (show ¬ ((1 : Int) = (0 : Int)) from by decide)) (fun _ => ?_)
    refine g_iconst (v := 0) hk dX5_levelAtHand_12 (by decide) ?_
    exact g_iret hk hR rfl ⟨0, (by decide), (by decide), rfl, rfl⟩ dX5_levelAtHand_13
def wo_k147_X5_costAtHand : List Cond := [Cond.fieldLink RX5 42 "WarpDesk$Reader" "tape" "LWarpDesk$Tape;", Cond.methodLink RX5 108 yX10_isWord, Cond.instanceMethod yX10_isWord, Cond.selects RX10 yX10_isWord yX10_isWord, Cond.initialized RX10]
def wz_k147_X5_costAtHand : List Cond := .code yX5_costAtHand cX5_costAtHand 1 (some .int) :: (wo_k147_X5_costAtHand ++ (wsX50 ++ (wz_k134_X10_isWord ++ ([] : List Cond))))
theorem zg_k147_X5_costAtHand : ∀ w ∈ wz_k147_X5_costAtHand, goodWord w = true := zg_cons rfl (zg_app (by decide +kernel) (zg_app zgU_wsX50 (zg_app zg_k134_X10_isWord zg_nil)))
theorem zi_k147_X5_costAtHand : ∀ w ∈ wz_k147_X5_costAtHand, w ∈ lw_tbl := zi_cons zw_674 (zi_app (zi_cons zw_230 (zi_cons zw_593 (zi_cons zw_594 (zi_cons zw_595 (zi_cons zw_104 zi_nil))))) (zi_app inX5 (zi_app zi_k134_X10_isWord zi_nil)))
set_option maxHeartbeats 4000000 in
set_option maxRecDepth 100000 in
theorem k147_X5_costAtHand (l : Launch) (D : va_G) (zt : Nat × Nat × Nat × (Nat → Nat) × (Nat → Nat)) (q : Nat → Nat) (d : Nat → ClassId) (I : Nat → Int32) (A : Nat → Nat → Int32) (hIv : IvX I A) : GM l D zt (tyX d) yX5_costAtHand wz_k147_X5_costAtHand ({ frames := 5, cells := 0, slots := 0, locals := 107 } : Room) [.ref (q 3)] (wX q d I A) (fun v _ w' => (v = some (.int (-1)) ∧ w' = wX q d I A) ∨ (v = some (.int 0) ∧ w' = wX q d I A) ∨ (v = some (.int 1) ∧ w' = wX q d I A)) 0 0 := by
  refine GM.of (cc := cX5_costAtHand) (maxL := 1) (ret := (some .int)) (own := RX5) (lv := [(0, .ref (q 3))]) (by decide) rfl rfl (Nat.le_of_ble_eq_true rfl) rfl (fun κ sz hk hR hN => ?_)
  have hin5 : ∀ w ∈ u_ws RX5 TX5 13, w ∈ wz_k147_X5_costAtHand := fun w h => (List.mem_cons_of_mem _ (List.mem_append_right _ (List.mem_append_left _ h)))
  refine g_aload_n hk dX5_costAtHand_0 rfl ?_
  refine gX_r3_0 hk hin5 (List.mem_cons_of_mem _ (List.mem_append_left _ (List.mem_of_getElem? (i := 0) rfl))) dX5_costAtHand_1 ?_
  refine g_ldcS hk 11 (by decide) rfl dX5_costAtHand_4 ?_
  refine g_callV (n := 1) hk (k134_X10_isWord l D zt 11 (by decide) q d I A  hIv) (SP.same _) (fun _ h => h) (gi_V (List.mem_cons_of_mem _ (List.mem_append_left _ (List.mem_of_getElem? (i := 1) rfl))) (List.mem_cons_of_mem _ (List.mem_append_left _ (List.mem_of_getElem? (i := 2) rfl))) (List.mem_cons_of_mem _ (List.mem_append_left _ (List.mem_of_getElem? (i := 3) rfl))) (List.mem_cons_of_mem _ (List.mem_append_left _ (List.mem_of_getElem? (i := 4) rfl))) (gi_sub (fun w h => (List.mem_cons_of_mem _ (List.mem_append_right _ (List.mem_append_right _ (List.mem_append_left _ h))))) zg_k134_X10_isWord)) rfl rfl rfl (by decide +kernel) ⟨Nat.le_of_ble_eq_true rfl, Nat.le_of_ble_eq_true rfl⟩ 1 rfl rfl rfl rfl (Nat.le_of_ble_eq_true rfl) ⟨Nat.le_of_ble_eq_true rfl, Nat.le_of_ble_eq_true rfl⟩ dX5_costAtHand_6 (fun v ty' w' hp hk' => ?_)
  rcases hp with ⟨rfl, rfl⟩ | ⟨rfl, rfl⟩
  · skip
    show GW κ 1 0 0 (wX q d I A) 9 [(0, .ref (q 3))] [.int 0]
    refine g_if_eq (tgt := 14) (a := 0) hk dX5_costAtHand_9 (by decide) rfl (fun _ => ?_) (fun z9 => absurd (show (0 : Int) = (0 : Int) from by decide) z9)
    refine g_aload_n hk dX5_costAtHand_14 rfl ?_
    refine gX_r3_0 hk hin5 (List.mem_cons_of_mem _ (List.mem_append_left _ (List.mem_of_getElem? (i := 0) rfl))) dX5_costAtHand_15 ?_
    refine g_ldcS hk 12 (by decide) rfl dX5_costAtHand_18 ?_
    refine g_callV (n := 1) hk (k134_X10_isWord l D zt 12 (by decide) q d I A  hIv) (SP.same _) (fun _ h => h) (gi_V (List.mem_cons_of_mem _ (List.mem_append_left _ (List.mem_of_getElem? (i := 1) rfl))) (List.mem_cons_of_mem _ (List.mem_append_left _ (List.mem_of_getElem? (i := 2) rfl))) (List.mem_cons_of_mem _ (List.mem_append_left _ (List.mem_of_getElem? (i := 3) rfl))) (List.mem_cons_of_mem _ (List.mem_append_left _ (List.mem_of_getElem? (i := 4) rfl))) (gi_sub (fun w h => (List.mem_cons_of_mem _ (List.mem_append_right _ (List.mem_append_right _ (List.mem_append_left _ h))))) zg_k134_X10_isWord)) rfl rfl rfl (by decide +kernel) ⟨Nat.le_of_ble_eq_true rfl, Nat.le_of_ble_eq_true rfl⟩ 1 rfl rfl rfl rfl (Nat.le_of_ble_eq_true rfl) ⟨Nat.le_of_ble_eq_true rfl, Nat.le_of_ble_eq_true rfl⟩ dX5_costAtHand_20 (fun v ty' w' hp hk' => ?_)
    rcases hp with ⟨rfl, rfl⟩ | ⟨rfl, rfl⟩
    · skip
      show GW κ 1 0 0 (wX q d I A) 23 [(0, .ref (q 3))] [.int 0]
      refine g_if_eq (tgt := 30) (a := 0) hk dX5_costAtHand_23 (by decide) rfl (fun _ => ?_) (fun z9 => absurd (show (0 : Int) = (0 : Int) from by decide) z9)
      refine g_iconst (v := (-1)) hk dX5_costAtHand_30 (by decide) ?_
      exact g_iret hk hR rfl (Or.inl ⟨rfl, rfl⟩) dX5_costAtHand_31
    · skip
      show GW κ 1 0 0 (wX q d I A) 23 [(0, .ref (q 3))] [.int 1]
      refine g_if_eq (tgt := 30) (a := 1) hk dX5_costAtHand_23 (by decide) rfl (fun z9 => absurd z9 (show ¬ ((1 : Int) = (0 : Int)) from by decide)) (fun _ => ?_)
      refine g_iconst (v := 1) hk dX5_costAtHand_26 (by decide) ?_
      refine g_goto (tgt := 31) hk dX5_costAtHand_27 (by decide) ?_
      exact g_iret hk hR rfl (Or.inr (Or.inr (⟨rfl, rfl⟩))) dX5_costAtHand_31
  · skip
    show GW κ 1 0 0 (wX q d I A) 9 [(0, .ref (q 3))] [.int 1]
    refine g_if_eq (tgt := 14) (a := 1) hk dX5_costAtHand_9 (by decide) rfl (fun z9 => absurd z9 (show ¬ ((1 : Int) = (0 : Int)) from by decide)) (fun _ => ?_)
    refine g_iconst (v := 0) hk dX5_costAtHand_12 (by decide) ?_
    exact g_iret hk hR rfl (Or.inr (Or.inl ⟨rfl, rfl⟩)) dX5_costAtHand_13
def wo_k145_X5_isNameAtHand : List Cond := [Cond.methodLink RX5 99 yX5_tellAtHand, Cond.instanceMethod yX5_tellAtHand, Cond.selects RX5 yX5_tellAtHand yX5_tellAtHand, Cond.initialized RX5, Cond.fieldLink RX5 42 "WarpDesk$Reader" "tape" "LWarpDesk$Tape;", Cond.fieldLink RX5 53 "WarpDesk$Tape" "kind" "I", Cond.methodLink RX5 118 yX5_levelAtHand, Cond.instanceMethod yX5_levelAtHand, Cond.selects RX5 yX5_levelAtHand yX5_levelAtHand, Cond.methodLink RX5 121 yX5_costAtHand, Cond.instanceMethod yX5_costAtHand, Cond.selects RX5 yX5_costAtHand yX5_costAtHand, Cond.methodLink RX5 108 yX10_isWord, Cond.instanceMethod yX10_isWord, Cond.selects RX10 yX10_isWord yX10_isWord, Cond.initialized RX10]
def wz_k145_X5_isNameAtHand : List Cond := .code yX5_isNameAtHand cX5_isNameAtHand 2 (some .boolean) :: (wo_k145_X5_isNameAtHand ++ (wsX50 ++ (wsX100 ++ (wz_k133_X5_tellAtHand ++ (wz_k146_X5_levelAtHand ++ (wz_k147_X5_costAtHand ++ (wz_k134_X10_isWord ++ ([] : List Cond))))))))
theorem zg_k145_X5_isNameAtHand : ∀ w ∈ wz_k145_X5_isNameAtHand, goodWord w = true := zg_cons rfl (zg_app (by decide +kernel) (zg_app zgU_wsX50 (zg_app zgU_wsX100 (zg_app zg_k133_X5_tellAtHand (zg_app zg_k146_X5_levelAtHand (zg_app zg_k147_X5_costAtHand (zg_app zg_k134_X10_isWord zg_nil)))))))
theorem zi_k145_X5_isNameAtHand : ∀ w ∈ wz_k145_X5_isNameAtHand, w ∈ lw_tbl := zi_cons zw_662 (zi_app (zi_cons zw_588 (zi_cons zw_590 (zi_cons zw_6 (zi_cons zw_105 (zi_cons zw_230 (zi_cons zw_138 (zi_cons zw_663 (zi_cons zw_665 (zi_cons zw_9 (zi_cons zw_671 (zi_cons zw_673 (zi_cons zw_10 (zi_cons zw_593 (zi_cons zw_594 (zi_cons zw_595 (zi_cons zw_104 zi_nil)))))))))))))))) (zi_app inX5 (zi_app inX10 (zi_app zi_k133_X5_tellAtHand (zi_app zi_k146_X5_levelAtHand (zi_app zi_k147_X5_costAtHand (zi_app zi_k134_X10_isWord zi_nil)))))))
set_option maxHeartbeats 4000000 in
set_option maxRecDepth 100000 in
theorem k145_X5_isNameAtHand (l : Launch) (D : va_G) (zt : Nat × Nat × Nat × (Nat → Nat) × (Nat → Nat)) (q : Nat → Nat) (d : Nat → ClassId) (I : Nat → Int32) (A : Nat → Nat → Int32) (hIv : IvX I A) : GM l D zt (tyX d) yX5_isNameAtHand wz_k145_X5_isNameAtHand ({ frames := 6, cells := 0, slots := 0, locals := 127 } : Room) [.ref (q 3)] (wX q d I A) (fun v _ w' => (v = some (.int 0) ∧ w' = wX q d I A) ∨ (v = some (.int 1) ∧ w' = wX q d I A)) 0 0 := by
  refine GM.of (cc := cX5_isNameAtHand) (maxL := 2) (ret := (some .boolean)) (own := RX5) (lv := [(0, .ref (q 3))]) (by decide) rfl rfl (Nat.le_of_ble_eq_true rfl) rfl (fun κ sz hk hR hN => ?_)
  have hin5 : ∀ w ∈ u_ws RX5 TX5 13, w ∈ wz_k145_X5_isNameAtHand := fun w h => (List.mem_cons_of_mem _ (List.mem_append_right _ (List.mem_append_left _ h)))
  have hin10 : ∀ w ∈ u_ws RX10 TX10 7, w ∈ wz_k145_X5_isNameAtHand := fun w h => (List.mem_cons_of_mem _ (List.mem_append_right _ (List.mem_append_right _ (List.mem_append_left _ h))))
  refine g_aload_n hk dX5_isNameAtHand_0 rfl ?_
  refine g_callV (n := 0) hk (k133_X5_tellAtHand l D zt q d I A  hIv) (SP.same _) (fun _ h => h) (gi_V (List.mem_cons_of_mem _ (List.mem_append_left _ (List.mem_of_getElem? (i := 0) rfl))) (List.mem_cons_of_mem _ (List.mem_append_left _ (List.mem_of_getElem? (i := 1) rfl))) (List.mem_cons_of_mem _ (List.mem_append_left _ (List.mem_of_getElem? (i := 2) rfl))) (List.mem_cons_of_mem _ (List.mem_append_left _ (List.mem_of_getElem? (i := 3) rfl))) (gi_sub (fun w h => (List.mem_cons_of_mem _ (List.mem_append_right _ (List.mem_append_right _ (List.mem_append_right _ (List.mem_append_left _ h)))))) zg_k133_X5_tellAtHand)) rfl rfl rfl (by decide +kernel) ⟨Nat.le_of_ble_eq_true rfl, Nat.le_of_ble_eq_true rfl⟩ 3 rfl rfl rfl rfl (Nat.le_of_ble_eq_true rfl) ⟨Nat.le_of_ble_eq_true rfl, Nat.le_of_ble_eq_true rfl⟩ dX5_isNameAtHand_1 (fun v ty' w' hp hk' => ?_)
  obtain ⟨y833, c834, c835, rfl, rfl⟩ := hp
  show GW κ 2 0 0 (wX q d I A) 4 [(0, .ref (q 3))] [.int y833]
  refine g_if_ge (tgt := 33) (a := y833.toInt) hk dX5_isNameAtHand_4 (by decide) rfl (fun c836 => ?_) (fun c836 => ?_)
  · skip
    refine g_iconst (v := 1) hk dX5_isNameAtHand_33 (by decide) ?_
    refine g_goto (tgt := 38) hk dX5_isNameAtHand_34 (by decide) ?_
    refine g_istore_n (lv' := [(1, .int 1), (0, .ref (q 3))]) hk dX5_isNameAtHand_38 (by decide) rfl ?_
    refine g_aload_n hk dX5_isNameAtHand_39 rfl ?_
    refine gX_r3_0 hk hin5 (List.mem_cons_of_mem _ (List.mem_append_left _ (List.mem_of_getElem? (i := 4) rfl))) dX5_isNameAtHand_40 ?_
    refine gX_i1 (v := (I 1)) hk hin10 (List.mem_cons_of_mem _ (List.mem_append_left _ (List.mem_of_getElem? (i := 5) rfl))) dX5_isNameAtHand_43 rfl ?_
    refine g_iconst (v := 1) hk dX5_isNameAtHand_46 (by decide) ?_
    have b837l := Int32.le_toInt (I 1)
    have b837h := Int32.toInt_lt (I 1)
    refine g_icmp_ne (tgt := 58) (a := (I 1).toInt) (b := 1) hk dX5_isNameAtHand_47 (by decide) rfl rfl (fun c838 => ?_) (fun c838 => ?_)
    · skip
      refine g_iconst (v := 0) hk dX5_isNameAtHand_58 (by decide) ?_
      exact g_iret hk hR rfl (Or.inl ⟨rfl, rfl⟩) dX5_isNameAtHand_59
    · skip
      refine g_iload_n hk dX5_isNameAtHand_50 rfl ?_
      refine g_if_ne (tgt := 58) (a := 1) hk dX5_isNameAtHand_51 (by decide) rfl (fun _ => ?_) (fun z9 => absurd (show (1 : Int) ≠ (0 : Int) from by decide) z9)
      refine g_iconst (v := 0) hk dX5_isNameAtHand_58 (by decide) ?_
      exact g_iret hk hR rfl (Or.inl ⟨rfl, rfl⟩) dX5_isNameAtHand_59
  · skip
    refine g_aload_n hk dX5_isNameAtHand_7 rfl ?_
    refine g_callV (n := 0) hk (k146_X5_levelAtHand l D zt q d I A  hIv) (SP.same _) (fun _ h => h) (gi_V (List.mem_cons_of_mem _ (List.mem_append_left _ (List.mem_of_getElem? (i := 6) rfl))) (List.mem_cons_of_mem _ (List.mem_append_left _ (List.mem_of_getElem? (i := 7) rfl))) (List.mem_cons_of_mem _ (List.mem_append_left _ (List.mem_of_getElem? (i := 8) rfl))) (List.mem_cons_of_mem _ (List.mem_append_left _ (List.mem_of_getElem? (i := 3) rfl))) (gi_sub (fun w h => (List.mem_cons_of_mem _ (List.mem_append_right _ (List.mem_append_right _ (List.mem_append_right _ (List.mem_append_right _ (List.mem_append_left _ h))))))) zg_k146_X5_levelAtHand)) rfl rfl rfl (by decide +kernel) ⟨Nat.le_of_ble_eq_true rfl, Nat.le_of_ble_eq_true rfl⟩ 3 rfl rfl rfl rfl (Nat.le_of_ble_eq_true rfl) ⟨Nat.le_of_ble_eq_true rfl, Nat.le_of_ble_eq_true rfl⟩ dX5_isNameAtHand_8 (fun v ty' w' hp hk' => ?_)
    obtain ⟨y847, c848, c849, rfl, rfl⟩ := hp
    show GW κ 2 0 0 (wX q d I A) 11 [(0, .ref (q 3))] [.int y847]
    refine g_if_ge (tgt := 33) (a := y847.toInt) hk dX5_isNameAtHand_11 (by decide) rfl (fun c850 => ?_) (fun c850 => ?_)
    · skip
      refine g_iconst (v := 1) hk dX5_isNameAtHand_33 (by decide) ?_
      refine g_goto (tgt := 38) hk dX5_isNameAtHand_34 (by decide) ?_
      refine g_istore_n (lv' := [(1, .int 1), (0, .ref (q 3))]) hk dX5_isNameAtHand_38 (by decide) rfl ?_
      refine g_aload_n hk dX5_isNameAtHand_39 rfl ?_
      refine gX_r3_0 hk hin5 (List.mem_cons_of_mem _ (List.mem_append_left _ (List.mem_of_getElem? (i := 4) rfl))) dX5_isNameAtHand_40 ?_
      refine gX_i1 (v := (I 1)) hk hin10 (List.mem_cons_of_mem _ (List.mem_append_left _ (List.mem_of_getElem? (i := 5) rfl))) dX5_isNameAtHand_43 rfl ?_
      refine g_iconst (v := 1) hk dX5_isNameAtHand_46 (by decide) ?_
      have b851l := Int32.le_toInt (I 1)
      have b851h := Int32.toInt_lt (I 1)
      refine g_icmp_ne (tgt := 58) (a := (I 1).toInt) (b := 1) hk dX5_isNameAtHand_47 (by decide) rfl rfl (fun c852 => ?_) (fun c852 => ?_)
      · skip
        refine g_iconst (v := 0) hk dX5_isNameAtHand_58 (by decide) ?_
        exact g_iret hk hR rfl (Or.inl ⟨rfl, rfl⟩) dX5_isNameAtHand_59
      · skip
        refine g_iload_n hk dX5_isNameAtHand_50 rfl ?_
        refine g_if_ne (tgt := 58) (a := 1) hk dX5_isNameAtHand_51 (by decide) rfl (fun _ => ?_) (fun z9 => absurd (show (1 : Int) ≠ (0 : Int) from by decide) z9)
        refine g_iconst (v := 0) hk dX5_isNameAtHand_58 (by decide) ?_
        exact g_iret hk hR rfl (Or.inl ⟨rfl, rfl⟩) dX5_isNameAtHand_59
    · skip
      refine g_aload_n hk dX5_isNameAtHand_14 rfl ?_
      refine g_callV (n := 0) hk (k147_X5_costAtHand l D zt q d I A  hIv) (SP.same _) (fun _ h => h) (gi_V (List.mem_cons_of_mem _ (List.mem_append_left _ (List.mem_of_getElem? (i := 9) rfl))) (List.mem_cons_of_mem _ (List.mem_append_left _ (List.mem_of_getElem? (i := 10) rfl))) (List.mem_cons_of_mem _ (List.mem_append_left _ (List.mem_of_getElem? (i := 11) rfl))) (List.mem_cons_of_mem _ (List.mem_append_left _ (List.mem_of_getElem? (i := 3) rfl))) (gi_sub (fun w h => (List.mem_cons_of_mem _ (List.mem_append_right _ (List.mem_append_right _ (List.mem_append_right _ (List.mem_append_right _ (List.mem_append_right _ (List.mem_append_left _ h)))))))) zg_k147_X5_costAtHand)) rfl rfl rfl (by decide +kernel) ⟨Nat.le_of_ble_eq_true rfl, Nat.le_of_ble_eq_true rfl⟩ 3 rfl rfl rfl rfl (Nat.le_of_ble_eq_true rfl) ⟨Nat.le_of_ble_eq_true rfl, Nat.le_of_ble_eq_true rfl⟩ dX5_isNameAtHand_15 (fun v ty' w' hp hk' => ?_)
      rcases hp with ⟨rfl, rfl⟩ | ⟨rfl, rfl⟩ | ⟨rfl, rfl⟩
      · skip
        show GW κ 2 0 0 (wX q d I A) 18 [(0, .ref (q 3))] [.int (-1)]
        refine g_if_ge (tgt := 33) (a := (-1)) hk dX5_isNameAtHand_18 (by decide) rfl (fun z9 => absurd z9 (show ¬ ((0 : Int) ≤ ((-1) : Int)) from by decide)) (fun _ => ?_)
        refine g_aload_n hk dX5_isNameAtHand_21 rfl ?_
        refine gX_r3_0 hk hin5 (List.mem_cons_of_mem _ (List.mem_append_left _ (List.mem_of_getElem? (i := 4) rfl))) dX5_isNameAtHand_22 ?_
        refine g_ldcS hk 0 (by decide) rfl dX5_isNameAtHand_25 ?_
        refine g_callV (n := 1) hk (k134_X10_isWord l D zt 0 (by decide) q d I A  hIv) (SP.same _) (fun _ h => h) (gi_V (List.mem_cons_of_mem _ (List.mem_append_left _ (List.mem_of_getElem? (i := 12) rfl))) (List.mem_cons_of_mem _ (List.mem_append_left _ (List.mem_of_getElem? (i := 13) rfl))) (List.mem_cons_of_mem _ (List.mem_append_left _ (List.mem_of_getElem? (i := 14) rfl))) (List.mem_cons_of_mem _ (List.mem_append_left _ (List.mem_of_getElem? (i := 15) rfl))) (gi_sub (fun w h => (List.mem_cons_of_mem _ (List.mem_append_right _ (List.mem_append_right _ (List.mem_append_right _ (List.mem_append_right _ (List.mem_append_right _ (List.mem_append_right _ (List.mem_append_left _ h))))))))) zg_k134_X10_isWord)) rfl rfl rfl (by decide +kernel) ⟨Nat.le_of_ble_eq_true rfl, Nat.le_of_ble_eq_true rfl⟩ 1 rfl rfl rfl rfl (Nat.le_of_ble_eq_true rfl) ⟨Nat.le_of_ble_eq_true rfl, Nat.le_of_ble_eq_true rfl⟩ dX5_isNameAtHand_27 (fun v ty' w' hp hk' => ?_)
        rcases hp with ⟨rfl, rfl⟩ | ⟨rfl, rfl⟩
        · skip
          show GW κ 2 0 0 (wX q d I A) 30 [(0, .ref (q 3))] [.int 0]
          refine g_if_eq (tgt := 37) (a := 0) hk dX5_isNameAtHand_30 (by decide) rfl (fun _ => ?_) (fun z9 => absurd (show (0 : Int) = (0 : Int) from by decide) z9)
          refine g_iconst (v := 0) hk dX5_isNameAtHand_37 (by decide) ?_
          refine g_istore_n (lv' := [(1, .int 0), (0, .ref (q 3))]) hk dX5_isNameAtHand_38 (by decide) rfl ?_
          refine g_aload_n hk dX5_isNameAtHand_39 rfl ?_
          refine gX_r3_0 hk hin5 (List.mem_cons_of_mem _ (List.mem_append_left _ (List.mem_of_getElem? (i := 4) rfl))) dX5_isNameAtHand_40 ?_
          refine gX_i1 (v := (I 1)) hk hin10 (List.mem_cons_of_mem _ (List.mem_append_left _ (List.mem_of_getElem? (i := 5) rfl))) dX5_isNameAtHand_43 rfl ?_
          refine g_iconst (v := 1) hk dX5_isNameAtHand_46 (by decide) ?_
          have b862l := Int32.le_toInt (I 1)
          have b862h := Int32.toInt_lt (I 1)
          refine g_icmp_ne (tgt := 58) (a := (I 1).toInt) (b := 1) hk dX5_isNameAtHand_47 (by decide) rfl rfl (fun c863 => ?_) (fun c863 => ?_)
          · skip
            refine g_iconst (v := 0) hk dX5_isNameAtHand_58 (by decide) ?_
            exact g_iret hk hR rfl (Or.inl ⟨rfl, rfl⟩) dX5_isNameAtHand_59
          · skip
            refine g_iload_n hk dX5_isNameAtHand_50 rfl ?_
            refine g_if_ne (tgt := 58) (a := 0) hk dX5_isNameAtHand_51 (by decide) rfl (fun z9 => absurd z9 (show ¬ ((0 : Int) ≠ (0 : Int)) from by decide)) (fun _ => ?_)
            refine g_iconst (v := 1) hk dX5_isNameAtHand_54 (by decide) ?_
            refine g_goto (tgt := 59) hk dX5_isNameAtHand_55 (by decide) ?_
            exact g_iret hk hR rfl (Or.inr (⟨rfl, rfl⟩)) dX5_isNameAtHand_59
        · skip
          show GW κ 2 0 0 (wX q d I A) 30 [(0, .ref (q 3))] [.int 1]
          refine g_if_eq (tgt := 37) (a := 1) hk dX5_isNameAtHand_30 (by decide) rfl (fun z9 => absurd z9 (show ¬ ((1 : Int) = (0 : Int)) from by decide)) (fun _ => ?_)
          refine g_iconst (v := 1) hk dX5_isNameAtHand_33 (by decide) ?_
          refine g_goto (tgt := 38) hk dX5_isNameAtHand_34 (by decide) ?_
          refine g_istore_n (lv' := [(1, .int 1), (0, .ref (q 3))]) hk dX5_isNameAtHand_38 (by decide) rfl ?_
          refine g_aload_n hk dX5_isNameAtHand_39 rfl ?_
          refine gX_r3_0 hk hin5 (List.mem_cons_of_mem _ (List.mem_append_left _ (List.mem_of_getElem? (i := 4) rfl))) dX5_isNameAtHand_40 ?_
          refine gX_i1 (v := (I 1)) hk hin10 (List.mem_cons_of_mem _ (List.mem_append_left _ (List.mem_of_getElem? (i := 5) rfl))) dX5_isNameAtHand_43 rfl ?_
          refine g_iconst (v := 1) hk dX5_isNameAtHand_46 (by decide) ?_
          have b864l := Int32.le_toInt (I 1)
          have b864h := Int32.toInt_lt (I 1)
          refine g_icmp_ne (tgt := 58) (a := (I 1).toInt) (b := 1) hk dX5_isNameAtHand_47 (by decide) rfl rfl (fun c865 => ?_) (fun c865 => ?_)
          · skip
            refine g_iconst (v := 0) hk dX5_isNameAtHand_58 (by decide) ?_
            exact g_iret hk hR rfl (Or.inl ⟨rfl, rfl⟩) dX5_isNameAtHand_59
          · skip
            refine g_iload_n hk dX5_isNameAtHand_50 rfl ?_
            refine g_if_ne (tgt := 58) (a := 1) hk dX5_isNameAtHand_51 (by decide) rfl (fun _ => ?_) (fun z9 => absurd (show (1 : Int) ≠ (0 : Int) from by decide) z9)
            refine g_iconst (v := 0) hk dX5_isNameAtHand_58 (by decide) ?_
            exact g_iret hk hR rfl (Or.inl ⟨rfl, rfl⟩) dX5_isNameAtHand_59
      · skip
        show GW κ 2 0 0 (wX q d I A) 18 [(0, .ref (q 3))] [.int 0]
        refine g_if_ge (tgt := 33) (a := 0) hk dX5_isNameAtHand_18 (by decide) rfl (fun _ => ?_) (fun z9 => absurd (show (0 : Int) ≤ (0 : Int) from by decide) z9)
        refine g_iconst (v := 1) hk dX5_isNameAtHand_33 (by decide) ?_
        refine g_goto (tgt := 38) hk dX5_isNameAtHand_34 (by decide) ?_
        refine g_istore_n (lv' := [(1, .int 1), (0, .ref (q 3))]) hk dX5_isNameAtHand_38 (by decide) rfl ?_
        refine g_aload_n hk dX5_isNameAtHand_39 rfl ?_
        refine gX_r3_0 hk hin5 (List.mem_cons_of_mem _ (List.mem_append_left _ (List.mem_of_getElem? (i := 4) rfl))) dX5_isNameAtHand_40 ?_
        refine gX_i1 (v := (I 1)) hk hin10 (List.mem_cons_of_mem _ (List.mem_append_left _ (List.mem_of_getElem? (i := 5) rfl))) dX5_isNameAtHand_43 rfl ?_
        refine g_iconst (v := 1) hk dX5_isNameAtHand_46 (by decide) ?_
        have b866l := Int32.le_toInt (I 1)
        have b866h := Int32.toInt_lt (I 1)
        refine g_icmp_ne (tgt := 58) (a := (I 1).toInt) (b := 1) hk dX5_isNameAtHand_47 (by decide) rfl rfl (fun c867 => ?_) (fun c867 => ?_)
        · skip
          refine g_iconst (v := 0) hk dX5_isNameAtHand_58 (by decide) ?_
          exact g_iret hk hR rfl (Or.inl ⟨rfl, rfl⟩) dX5_isNameAtHand_59
        · skip
          refine g_iload_n hk dX5_isNameAtHand_50 rfl ?_
          refine g_if_ne (tgt := 58) (a := 1) hk dX5_isNameAtHand_51 (by decide) rfl (fun _ => ?_) (fun z9 => absurd (show (1 : Int) ≠ (0 : Int) from by decide) z9)
          refine g_iconst (v := 0) hk dX5_isNameAtHand_58 (by decide) ?_
          exact g_iret hk hR rfl (Or.inl ⟨rfl, rfl⟩) dX5_isNameAtHand_59
      · skip
        show GW κ 2 0 0 (wX q d I A) 18 [(0, .ref (q 3))] [.int 1]
        refine g_if_ge (tgt := 33) (a := 1) hk dX5_isNameAtHand_18 (by decide) rfl (fun _ => ?_) (fun z9 => absurd (show (0 : Int) ≤ (1 : Int) from by decide) z9)
        refine g_iconst (v := 1) hk dX5_isNameAtHand_33 (by decide) ?_
        refine g_goto (tgt := 38) hk dX5_isNameAtHand_34 (by decide) ?_
        refine g_istore_n (lv' := [(1, .int 1), (0, .ref (q 3))]) hk dX5_isNameAtHand_38 (by decide) rfl ?_
        refine g_aload_n hk dX5_isNameAtHand_39 rfl ?_
        refine gX_r3_0 hk hin5 (List.mem_cons_of_mem _ (List.mem_append_left _ (List.mem_of_getElem? (i := 4) rfl))) dX5_isNameAtHand_40 ?_
        refine gX_i1 (v := (I 1)) hk hin10 (List.mem_cons_of_mem _ (List.mem_append_left _ (List.mem_of_getElem? (i := 5) rfl))) dX5_isNameAtHand_43 rfl ?_
        refine g_iconst (v := 1) hk dX5_isNameAtHand_46 (by decide) ?_
        have b868l := Int32.le_toInt (I 1)
        have b868h := Int32.toInt_lt (I 1)
        refine g_icmp_ne (tgt := 58) (a := (I 1).toInt) (b := 1) hk dX5_isNameAtHand_47 (by decide) rfl rfl (fun c869 => ?_) (fun c869 => ?_)
        · skip
          refine g_iconst (v := 0) hk dX5_isNameAtHand_58 (by decide) ?_
          exact g_iret hk hR rfl (Or.inl ⟨rfl, rfl⟩) dX5_isNameAtHand_59
        · skip
          refine g_iload_n hk dX5_isNameAtHand_50 rfl ?_
          refine g_if_ne (tgt := 58) (a := 1) hk dX5_isNameAtHand_51 (by decide) rfl (fun _ => ?_) (fun z9 => absurd (show (1 : Int) ≠ (0 : Int) from by decide) z9)
          refine g_iconst (v := 0) hk dX5_isNameAtHand_58 (by decide) ?_
          exact g_iret hk hR rfl (Or.inl ⟨rfl, rfl⟩) dX5_isNameAtHand_59
def wo_k148_X5_choiceAtHand : List Cond := [Cond.fieldLink RX5 141 "WarpDesk$Reader" "tell" "I", Cond.methodLink RX5 121 yX5_costAtHand, Cond.instanceMethod yX5_costAtHand, Cond.selects RX5 yX5_costAtHand yX5_costAtHand, Cond.initialized RX5, Cond.methodLink RX5 118 yX5_levelAtHand, Cond.instanceMethod yX5_levelAtHand, Cond.selects RX5 yX5_levelAtHand yX5_levelAtHand]
def wz_k148_X5_choiceAtHand : List Cond := .code yX5_choiceAtHand cX5_choiceAtHand 1 (some .int) :: (wo_k148_X5_choiceAtHand ++ (wsX50 ++ (wz_k147_X5_costAtHand ++ (wz_k146_X5_levelAtHand ++ ([] : List Cond)))))
theorem zg_k148_X5_choiceAtHand : ∀ w ∈ wz_k148_X5_choiceAtHand, goodWord w = true := zg_cons rfl (zg_app (by decide +kernel) (zg_app zgU_wsX50 (zg_app zg_k147_X5_costAtHand (zg_app zg_k146_X5_levelAtHand zg_nil))))
theorem zi_k148_X5_choiceAtHand : ∀ w ∈ wz_k148_X5_choiceAtHand, w ∈ lw_tbl := zi_cons zw_680 (zi_app (zi_cons zw_238 (zi_cons zw_671 (zi_cons zw_673 (zi_cons zw_10 (zi_cons zw_105 (zi_cons zw_663 (zi_cons zw_665 (zi_cons zw_9 zi_nil)))))))) (zi_app inX5 (zi_app zi_k147_X5_costAtHand (zi_app zi_k146_X5_levelAtHand zi_nil))))
set_option maxHeartbeats 4000000 in
set_option maxRecDepth 100000 in
theorem k148_X5_choiceAtHand (l : Launch) (D : va_G) (zt : Nat × Nat × Nat × (Nat → Nat) × (Nat → Nat)) (q : Nat → Nat) (d : Nat → ClassId) (I : Nat → Int32) (A : Nat → Nat → Int32) (hIv : IvX I A) : GM l D zt (tyX d) yX5_choiceAtHand wz_k148_X5_choiceAtHand ({ frames := 6, cells := 0, slots := 0, locals := 127 } : Room) [.ref (q 3)] (wX q d I A) (fun v _ w' => ∃ y0 : Int32, ((-1) ≤ y0.toInt) ∧ (y0.toInt ≤ 3) ∧ v = some (.int y0) ∧ w' = wX q d I A) 0 0 := by
  refine GM.of (cc := cX5_choiceAtHand) (maxL := 1) (ret := (some .int)) (own := RX5) (lv := [(0, .ref (q 3))]) (by decide) rfl rfl (Nat.le_of_ble_eq_true rfl) rfl (fun κ sz hk hR hN => ?_)
  have hin5 : ∀ w ∈ u_ws RX5 TX5 13, w ∈ wz_k148_X5_choiceAtHand := fun w h => (List.mem_cons_of_mem _ (List.mem_append_right _ (List.mem_append_left _ h)))
  refine g_aload_n hk dX5_choiceAtHand_0 rfl ?_
  refine gX_i7 (v := (I 7)) hk hin5 (List.mem_cons_of_mem _ (List.mem_append_left _ (List.mem_of_getElem? (i := 0) rfl))) dX5_choiceAtHand_1 rfl ?_
  refine g_iconst (v := 1) hk dX5_choiceAtHand_4 (by decide) ?_
  have b879l := Int32.le_toInt (I 7)
  have b879h := Int32.toInt_lt (I 7)
  refine g_icmp_ne (tgt := 15) (a := (I 7).toInt) (b := 1) hk dX5_choiceAtHand_5 (by decide) rfl rfl (fun c880 => ?_) (fun c880 => ?_)
  · skip
    refine g_aload_n hk dX5_choiceAtHand_15 rfl ?_
    refine g_callV (n := 0) hk (k147_X5_costAtHand l D zt q d I A  hIv) (SP.same _) (fun _ h => h) (gi_V (List.mem_cons_of_mem _ (List.mem_append_left _ (List.mem_of_getElem? (i := 1) rfl))) (List.mem_cons_of_mem _ (List.mem_append_left _ (List.mem_of_getElem? (i := 2) rfl))) (List.mem_cons_of_mem _ (List.mem_append_left _ (List.mem_of_getElem? (i := 3) rfl))) (List.mem_cons_of_mem _ (List.mem_append_left _ (List.mem_of_getElem? (i := 4) rfl))) (gi_sub (fun w h => (List.mem_cons_of_mem _ (List.mem_append_right _ (List.mem_append_right _ (List.mem_append_left _ h))))) zg_k147_X5_costAtHand)) rfl rfl rfl (by decide +kernel) ⟨Nat.le_of_ble_eq_true rfl, Nat.le_of_ble_eq_true rfl⟩ 3 rfl rfl rfl rfl (Nat.le_of_ble_eq_true rfl) ⟨Nat.le_of_ble_eq_true rfl, Nat.le_of_ble_eq_true rfl⟩ dX5_choiceAtHand_16 (fun v ty' w' hp hk' => ?_)
    rcases hp with ⟨rfl, rfl⟩ | ⟨rfl, rfl⟩ | ⟨rfl, rfl⟩
    · skip
      show GW κ 1 0 0 (wX q d I A) 19 [(0, .ref (q 3))] [.int (-1)]
      exact g_iret hk hR rfl ⟨(-1), (by decide), (by decide), rfl, rfl⟩ dX5_choiceAtHand_19
    · skip
      show GW κ 1 0 0 (wX q d I A) 19 [(0, .ref (q 3))] [.int 0]
      exact g_iret hk hR rfl ⟨0, (by decide), (by decide), rfl, rfl⟩ dX5_choiceAtHand_19
    · skip
      show GW κ 1 0 0 (wX q d I A) 19 [(0, .ref (q 3))] [.int 1]
      exact g_iret hk hR rfl ⟨1, (by decide), (by decide), rfl, rfl⟩ dX5_choiceAtHand_19
  · skip
    refine g_aload_n hk dX5_choiceAtHand_8 rfl ?_
    refine g_callV (n := 0) hk (k146_X5_levelAtHand l D zt q d I A  hIv) (SP.same _) (fun _ h => h) (gi_V (List.mem_cons_of_mem _ (List.mem_append_left _ (List.mem_of_getElem? (i := 5) rfl))) (List.mem_cons_of_mem _ (List.mem_append_left _ (List.mem_of_getElem? (i := 6) rfl))) (List.mem_cons_of_mem _ (List.mem_append_left _ (List.mem_of_getElem? (i := 7) rfl))) (List.mem_cons_of_mem _ (List.mem_append_left _ (List.mem_of_getElem? (i := 4) rfl))) (gi_sub (fun w h => (List.mem_cons_of_mem _ (List.mem_append_right _ (List.mem_append_right _ (List.mem_append_right _ (List.mem_append_left _ h)))))) zg_k146_X5_levelAtHand)) rfl rfl rfl (by decide +kernel) ⟨Nat.le_of_ble_eq_true rfl, Nat.le_of_ble_eq_true rfl⟩ 3 rfl rfl rfl rfl (Nat.le_of_ble_eq_true rfl) ⟨Nat.le_of_ble_eq_true rfl, Nat.le_of_ble_eq_true rfl⟩ dX5_choiceAtHand_9 (fun v ty' w' hp hk' => ?_)
    obtain ⟨y884, c885, c886, rfl, rfl⟩ := hp
    show GW κ 1 0 0 (wX q d I A) 12 [(0, .ref (q 3))] [.int y884]
    refine g_goto (tgt := 19) hk dX5_choiceAtHand_12 (by decide) ?_
    exact g_iret hk hR rfl ⟨y884, (by omega), (by omega), rfl, rfl⟩ dX5_choiceAtHand_19
def wo_k132_X5_mayStand : List Cond := [Cond.fieldLink RX5 75 "WarpDesk$Reader" "state" "I", Cond.methodLink RX5 99 yX5_tellAtHand, Cond.instanceMethod yX5_tellAtHand, Cond.selects RX5 yX5_tellAtHand yX5_tellAtHand, Cond.initialized RX5, Cond.methodLink RX5 103 yX5_mayStandInRow, Cond.instanceMethod yX5_mayStandInRow, Cond.selects RX5 yX5_mayStandInRow yX5_mayStandInRow, Cond.fieldLink RX5 87 "WarpDesk$Reader" "isNegative" "Z", Cond.fieldLink RX5 42 "WarpDesk$Reader" "tape" "LWarpDesk$Tape;", Cond.methodLink RX5 108 yX10_isWord, Cond.instanceMethod yX10_isWord, Cond.selects RX10 yX10_isWord yX10_isWord, Cond.initialized RX10, Cond.methodLink RX5 112 yX5_isNameAtHand, Cond.instanceMethod yX5_isNameAtHand, Cond.selects RX5 yX5_isNameAtHand yX5_isNameAtHand, Cond.fieldLink RX5 53 "WarpDesk$Tape" "kind" "I", Cond.methodLink RX5 115 yX5_choiceAtHand, Cond.instanceMethod yX5_choiceAtHand, Cond.selects RX5 yX5_choiceAtHand yX5_choiceAtHand]
def wz_k132_X5_mayStand : List Cond := .code yX5_mayStand cX5_mayStand 1 (some .boolean) :: (wo_k132_X5_mayStand ++ (wsX50 ++ (wsX100 ++ (wz_k133_X5_tellAtHand ++ (wz_k144_X5_mayStandInRow ++ (wz_k134_X10_isWord ++ (wz_k145_X5_isNameAtHand ++ (wz_k148_X5_choiceAtHand ++ ([] : List Cond)))))))))
theorem zg_k132_X5_mayStand : ∀ w ∈ wz_k132_X5_mayStand, goodWord w = true := zg_cons rfl (zg_app (by decide +kernel) (zg_app zgU_wsX50 (zg_app zgU_wsX100 (zg_app zg_k133_X5_tellAtHand (zg_app zg_k144_X5_mayStandInRow (zg_app zg_k134_X10_isWord (zg_app zg_k145_X5_isNameAtHand (zg_app zg_k148_X5_choiceAtHand zg_nil))))))))
theorem zi_k132_X5_mayStand : ∀ w ∈ wz_k132_X5_mayStand, w ∈ lw_tbl := zi_cons zw_587 (zi_app (zi_cons zw_237 (zi_cons zw_588 (zi_cons zw_590 (zi_cons zw_6 (zi_cons zw_105 (zi_cons zw_654 (zi_cons zw_656 (zi_cons zw_7 (zi_cons zw_239 (zi_cons zw_230 (zi_cons zw_593 (zi_cons zw_594 (zi_cons zw_595 (zi_cons zw_104 (zi_cons zw_659 (zi_cons zw_661 (zi_cons zw_8 (zi_cons zw_138 (zi_cons zw_677 (zi_cons zw_679 (zi_cons zw_11 zi_nil))))))))))))))))))))) (zi_app inX5 (zi_app inX10 (zi_app zi_k133_X5_tellAtHand (zi_app zi_k144_X5_mayStandInRow (zi_app zi_k134_X10_isWord (zi_app zi_k145_X5_isNameAtHand (zi_app zi_k148_X5_choiceAtHand zi_nil))))))))
set_option maxHeartbeats 4000000 in
set_option maxRecDepth 100000 in
theorem k132_X5_mayStand (l : Launch) (D : va_G) (zt : Nat × Nat × Nat × (Nat → Nat) × (Nat → Nat)) (q : Nat → Nat) (d : Nat → ClassId) (I : Nat → Int32) (A : Nat → Nat → Int32) (hIv : IvX I A) : GM l D zt (tyX d) yX5_mayStand wz_k132_X5_mayStand ({ frames := 7, cells := 0, slots := 0, locals := 148 } : Room) [.ref (q 3)] (wX q d I A) (fun v _ w' => (v = some (.int 0) ∧ w' = wX q d I A) ∨ (v = some (.int 1) ∧ w' = wX q d I A)) 0 0 := by
  refine GM.of (cc := cX5_mayStand) (maxL := 1) (ret := (some .boolean)) (own := RX5) (lv := [(0, .ref (q 3))]) (by decide) rfl rfl (Nat.le_of_ble_eq_true rfl) rfl (fun κ sz hk hR hN => ?_)
  have hin5 : ∀ w ∈ u_ws RX5 TX5 13, w ∈ wz_k132_X5_mayStand := fun w h => (List.mem_cons_of_mem _ (List.mem_append_right _ (List.mem_append_left _ h)))
  have hin10 : ∀ w ∈ u_ws RX10 TX10 7, w ∈ wz_k132_X5_mayStand := fun w h => (List.mem_cons_of_mem _ (List.mem_append_right _ (List.mem_append_right _ (List.mem_append_left _ h))))
  refine g_aload_n hk dX5_mayStand_0 rfl ?_
  refine gX_i6 (v := (I 6)) hk hin5 (List.mem_cons_of_mem _ (List.mem_append_left _ (List.mem_of_getElem? (i := 0) rfl))) dX5_mayStand_1 rfl ?_
  by_cases c707 : (I 6).toInt = 0
  · refine g_tabIn (tgt := 44) (a := 0) hk dX5_mayStand_4 c707 (by decide) (by decide) rfl (by decide) ?_
    refine g_aload_n hk dX5_mayStand_44 rfl ?_
    refine g_callV (n := 0) hk (k133_X5_tellAtHand l D zt q d I A  hIv) (SP.same _) (fun _ h => h) (gi_V (List.mem_cons_of_mem _ (List.mem_append_left _ (List.mem_of_getElem? (i := 1) rfl))) (List.mem_cons_of_mem _ (List.mem_append_left _ (List.mem_of_getElem? (i := 2) rfl))) (List.mem_cons_of_mem _ (List.mem_append_left _ (List.mem_of_getElem? (i := 3) rfl))) (List.mem_cons_of_mem _ (List.mem_append_left _ (List.mem_of_getElem? (i := 4) rfl))) (gi_sub (fun w h => (List.mem_cons_of_mem _ (List.mem_append_right _ (List.mem_append_right _ (List.mem_append_right _ (List.mem_append_left _ h)))))) zg_k133_X5_tellAtHand)) rfl rfl rfl (by decide +kernel) ⟨Nat.le_of_ble_eq_true rfl, Nat.le_of_ble_eq_true rfl⟩ 3 rfl rfl rfl rfl (Nat.le_of_ble_eq_true rfl) ⟨Nat.le_of_ble_eq_true rfl, Nat.le_of_ble_eq_true rfl⟩ dX5_mayStand_45 (fun v ty' w' hp hk' => ?_)
    obtain ⟨y815, c816, c817, rfl, rfl⟩ := hp
    show GW κ 1 0 0 (wX q d I A) 48 [(0, .ref (q 3))] [.int y815]
    refine g_if_lt (tgt := 55) (a := y815.toInt) hk dX5_mayStand_48 (by decide) rfl (fun c818 => ?_) (fun c818 => ?_)
    · skip
      refine g_iconst (v := 0) hk dX5_mayStand_55 (by decide) ?_
      exact g_iret hk hR rfl (Or.inl ⟨rfl, rfl⟩) dX5_mayStand_56
    · skip
      refine g_iconst (v := 1) hk dX5_mayStand_51 (by decide) ?_
      refine g_goto (tgt := 56) hk dX5_mayStand_52 (by decide) ?_
      exact g_iret hk hR rfl (Or.inr (⟨rfl, rfl⟩)) dX5_mayStand_56
  by_cases c819 : (I 6).toInt = 1
  · refine g_tabIn (tgt := 57) (a := 1) hk dX5_mayStand_4 c819 (by decide) (by decide) rfl (by decide) ?_
    refine g_aload_n hk dX5_mayStand_57 rfl ?_
    refine g_callV (n := 0) hk (k144_X5_mayStandInRow l D zt q d I A  hIv) (SP.same _) (fun _ h => h) (gi_V (List.mem_cons_of_mem _ (List.mem_append_left _ (List.mem_of_getElem? (i := 5) rfl))) (List.mem_cons_of_mem _ (List.mem_append_left _ (List.mem_of_getElem? (i := 6) rfl))) (List.mem_cons_of_mem _ (List.mem_append_left _ (List.mem_of_getElem? (i := 7) rfl))) (List.mem_cons_of_mem _ (List.mem_append_left _ (List.mem_of_getElem? (i := 4) rfl))) (gi_sub (fun w h => (List.mem_cons_of_mem _ (List.mem_append_right _ (List.mem_append_right _ (List.mem_append_right _ (List.mem_append_right _ (List.mem_append_left _ h))))))) zg_k144_X5_mayStandInRow)) rfl rfl rfl (by decide +kernel) ⟨Nat.le_of_ble_eq_true rfl, Nat.le_of_ble_eq_true rfl⟩ 3 rfl rfl rfl rfl (Nat.le_of_ble_eq_true rfl) ⟨Nat.le_of_ble_eq_true rfl, Nat.le_of_ble_eq_true rfl⟩ dX5_mayStand_58 (fun v ty' w' hp hk' => ?_)
    rcases hp with ⟨rfl, rfl⟩ | ⟨rfl, rfl⟩
    · skip
      show GW κ 1 0 0 (wX q d I A) 61 [(0, .ref (q 3))] [.int 0]
      refine g_if_ne (tgt := 83) (a := 0) hk dX5_mayStand_61 (by decide) rfl (fun z9 => absurd z9 (show ¬ ((0 : Int) ≠ (0 : Int)) from by decide)) (fun _ => ?_)
      refine g_aload_n hk dX5_mayStand_64 rfl ?_
      refine gX_i8 (v := (I 8)) hk hin5 (List.mem_cons_of_mem _ (List.mem_append_left _ (List.mem_of_getElem? (i := 8) rfl))) dX5_mayStand_65 rfl ?_
      have b828l := Int32.le_toInt (I 8)
      have b828h := Int32.toInt_lt (I 8)
      refine g_if_ne (tgt := 87) (a := (I 8).toInt) hk dX5_mayStand_68 (by decide) rfl (fun c829 => ?_) (fun c829 => ?_)
      · skip
        refine g_iconst (v := 0) hk dX5_mayStand_87 (by decide) ?_
        exact g_iret hk hR rfl (Or.inl ⟨rfl, rfl⟩) dX5_mayStand_88
      · skip
        refine g_aload_n hk dX5_mayStand_71 rfl ?_
        refine gX_r3_0 hk hin5 (List.mem_cons_of_mem _ (List.mem_append_left _ (List.mem_of_getElem? (i := 9) rfl))) dX5_mayStand_72 ?_
        refine g_ldcS hk 0 (by decide) rfl dX5_mayStand_75 ?_
        refine g_callV (n := 1) hk (k134_X10_isWord l D zt 0 (by decide) q d I A  hIv) (SP.same _) (fun _ h => h) (gi_V (List.mem_cons_of_mem _ (List.mem_append_left _ (List.mem_of_getElem? (i := 10) rfl))) (List.mem_cons_of_mem _ (List.mem_append_left _ (List.mem_of_getElem? (i := 11) rfl))) (List.mem_cons_of_mem _ (List.mem_append_left _ (List.mem_of_getElem? (i := 12) rfl))) (List.mem_cons_of_mem _ (List.mem_append_left _ (List.mem_of_getElem? (i := 13) rfl))) (gi_sub (fun w h => (List.mem_cons_of_mem _ (List.mem_append_right _ (List.mem_append_right _ (List.mem_append_right _ (List.mem_append_right _ (List.mem_append_right _ (List.mem_append_left _ h)))))))) zg_k134_X10_isWord)) rfl rfl rfl (by decide +kernel) ⟨Nat.le_of_ble_eq_true rfl, Nat.le_of_ble_eq_true rfl⟩ 1 rfl rfl rfl rfl (Nat.le_of_ble_eq_true rfl) ⟨Nat.le_of_ble_eq_true rfl, Nat.le_of_ble_eq_true rfl⟩ dX5_mayStand_77 (fun v ty' w' hp hk' => ?_)
        rcases hp with ⟨rfl, rfl⟩ | ⟨rfl, rfl⟩
        · skip
          show GW κ 1 0 0 (wX q d I A) 80 [(0, .ref (q 3))] [.int 0]
          refine g_if_eq (tgt := 87) (a := 0) hk dX5_mayStand_80 (by decide) rfl (fun _ => ?_) (fun z9 => absurd (show (0 : Int) = (0 : Int) from by decide) z9)
          refine g_iconst (v := 0) hk dX5_mayStand_87 (by decide) ?_
          exact g_iret hk hR rfl (Or.inl ⟨rfl, rfl⟩) dX5_mayStand_88
        · skip
          show GW κ 1 0 0 (wX q d I A) 80 [(0, .ref (q 3))] [.int 1]
          refine g_if_eq (tgt := 87) (a := 1) hk dX5_mayStand_80 (by decide) rfl (fun z9 => absurd z9 (show ¬ ((1 : Int) = (0 : Int)) from by decide)) (fun _ => ?_)
          refine g_iconst (v := 1) hk dX5_mayStand_83 (by decide) ?_
          refine g_goto (tgt := 88) hk dX5_mayStand_84 (by decide) ?_
          exact g_iret hk hR rfl (Or.inr (⟨rfl, rfl⟩)) dX5_mayStand_88
    · skip
      show GW κ 1 0 0 (wX q d I A) 61 [(0, .ref (q 3))] [.int 1]
      refine g_if_ne (tgt := 83) (a := 1) hk dX5_mayStand_61 (by decide) rfl (fun _ => ?_) (fun z9 => absurd (show (1 : Int) ≠ (0 : Int) from by decide) z9)
      refine g_iconst (v := 1) hk dX5_mayStand_83 (by decide) ?_
      refine g_goto (tgt := 88) hk dX5_mayStand_84 (by decide) ?_
      exact g_iret hk hR rfl (Or.inr (⟨rfl, rfl⟩)) dX5_mayStand_88
  by_cases c832 : (I 6).toInt = 2
  · refine g_tabIn (tgt := 94) (a := 2) hk dX5_mayStand_4 c832 (by decide) (by decide) rfl (by decide) ?_
    refine g_aload_n hk dX5_mayStand_94 rfl ?_
    refine g_callV (n := 0) hk (k145_X5_isNameAtHand l D zt q d I A  hIv) (SP.same _) (fun _ h => h) (gi_V (List.mem_cons_of_mem _ (List.mem_append_left _ (List.mem_of_getElem? (i := 14) rfl))) (List.mem_cons_of_mem _ (List.mem_append_left _ (List.mem_of_getElem? (i := 15) rfl))) (List.mem_cons_of_mem _ (List.mem_append_left _ (List.mem_of_getElem? (i := 16) rfl))) (List.mem_cons_of_mem _ (List.mem_append_left _ (List.mem_of_getElem? (i := 4) rfl))) (gi_sub (fun w h => (List.mem_cons_of_mem _ (List.mem_append_right _ (List.mem_append_right _ (List.mem_append_right _ (List.mem_append_right _ (List.mem_append_right _ (List.mem_append_right _ (List.mem_append_left _ h))))))))) zg_k145_X5_isNameAtHand)) rfl rfl rfl (by decide +kernel) ⟨Nat.le_of_ble_eq_true rfl, Nat.le_of_ble_eq_true rfl⟩ 3 rfl rfl rfl rfl (Nat.le_of_ble_eq_true rfl) ⟨Nat.le_of_ble_eq_true rfl, Nat.le_of_ble_eq_true rfl⟩ dX5_mayStand_95 (fun v ty' w' hp hk' => ?_)
    rcases hp with ⟨rfl, rfl⟩ | ⟨rfl, rfl⟩
    · skip
      show GW κ 1 0 0 (wX q d I A) 98 [(0, .ref (q 3))] [.int 0]
      exact g_iret hk hR rfl (Or.inl ⟨rfl, rfl⟩) dX5_mayStand_98
    · skip
      show GW κ 1 0 0 (wX q d I A) 98 [(0, .ref (q 3))] [.int 1]
      exact g_iret hk hR rfl (Or.inr (⟨rfl, rfl⟩)) dX5_mayStand_98
  by_cases c872 : (I 6).toInt = 3
  · refine g_tabIn (tgt := 89) (a := 3) hk dX5_mayStand_4 c872 (by decide) (by decide) rfl (by decide) ?_
    refine g_aload_n hk dX5_mayStand_89 rfl ?_
    refine g_callV (n := 0) hk (k144_X5_mayStandInRow l D zt q d I A  hIv) (SP.same _) (fun _ h => h) (gi_V (List.mem_cons_of_mem _ (List.mem_append_left _ (List.mem_of_getElem? (i := 5) rfl))) (List.mem_cons_of_mem _ (List.mem_append_left _ (List.mem_of_getElem? (i := 6) rfl))) (List.mem_cons_of_mem _ (List.mem_append_left _ (List.mem_of_getElem? (i := 7) rfl))) (List.mem_cons_of_mem _ (List.mem_append_left _ (List.mem_of_getElem? (i := 4) rfl))) (gi_sub (fun w h => (List.mem_cons_of_mem _ (List.mem_append_right _ (List.mem_append_right _ (List.mem_append_right _ (List.mem_append_right _ (List.mem_append_left _ h))))))) zg_k144_X5_mayStandInRow)) rfl rfl rfl (by decide +kernel) ⟨Nat.le_of_ble_eq_true rfl, Nat.le_of_ble_eq_true rfl⟩ 3 rfl rfl rfl rfl (Nat.le_of_ble_eq_true rfl) ⟨Nat.le_of_ble_eq_true rfl, Nat.le_of_ble_eq_true rfl⟩ dX5_mayStand_90 (fun v ty' w' hp hk' => ?_)
    rcases hp with ⟨rfl, rfl⟩ | ⟨rfl, rfl⟩
    · skip
      show GW κ 1 0 0 (wX q d I A) 93 [(0, .ref (q 3))] [.int 0]
      exact g_iret hk hR rfl (Or.inl ⟨rfl, rfl⟩) dX5_mayStand_93
    · skip
      show GW κ 1 0 0 (wX q d I A) 93 [(0, .ref (q 3))] [.int 1]
      exact g_iret hk hR rfl (Or.inr (⟨rfl, rfl⟩)) dX5_mayStand_93
  by_cases c875 : (I 6).toInt = 4
  · refine g_tabIn (tgt := 99) (a := 4) hk dX5_mayStand_4 c875 (by decide) (by decide) rfl (by decide) ?_
    refine g_aload_n hk dX5_mayStand_99 rfl ?_
    refine gX_r3_0 hk hin5 (List.mem_cons_of_mem _ (List.mem_append_left _ (List.mem_of_getElem? (i := 9) rfl))) dX5_mayStand_100 ?_
    refine gX_i1 (v := (I 1)) hk hin10 (List.mem_cons_of_mem _ (List.mem_append_left _ (List.mem_of_getElem? (i := 17) rfl))) dX5_mayStand_103 rfl ?_
    refine g_iconst (v := 2) hk dX5_mayStand_106 (by decide) ?_
    have b876l := Int32.le_toInt (I 1)
    have b876h := Int32.toInt_lt (I 1)
    refine g_icmp_ne (tgt := 114) (a := (I 1).toInt) (b := 2) hk dX5_mayStand_107 (by decide) rfl rfl (fun c877 => ?_) (fun c877 => ?_)
    · skip
      refine g_iconst (v := 0) hk dX5_mayStand_114 (by decide) ?_
      exact g_iret hk hR rfl (Or.inl ⟨rfl, rfl⟩) dX5_mayStand_115
    · skip
      refine g_iconst (v := 1) hk dX5_mayStand_110 (by decide) ?_
      refine g_goto (tgt := 115) hk dX5_mayStand_111 (by decide) ?_
      exact g_iret hk hR rfl (Or.inr (⟨rfl, rfl⟩)) dX5_mayStand_115
  by_cases c878 : (I 6).toInt = 5
  · refine g_tabIn (tgt := 116) (a := 5) hk dX5_mayStand_4 c878 (by decide) (by decide) rfl (by decide) ?_
    refine g_aload_n hk dX5_mayStand_116 rfl ?_
    refine g_callV (n := 0) hk (k148_X5_choiceAtHand l D zt q d I A  hIv) (SP.same _) (fun _ h => h) (gi_V (List.mem_cons_of_mem _ (List.mem_append_left _ (List.mem_of_getElem? (i := 18) rfl))) (List.mem_cons_of_mem _ (List.mem_append_left _ (List.mem_of_getElem? (i := 19) rfl))) (List.mem_cons_of_mem _ (List.mem_append_left _ (List.mem_of_getElem? (i := 20) rfl))) (List.mem_cons_of_mem _ (List.mem_append_left _ (List.mem_of_getElem? (i := 4) rfl))) (gi_sub (fun w h => (List.mem_cons_of_mem _ (List.mem_append_right _ (List.mem_append_right _ (List.mem_append_right _ (List.mem_append_right _ (List.mem_append_right _ (List.mem_append_right _ (List.mem_append_right _ (List.mem_append_left _ h)))))))))) zg_k148_X5_choiceAtHand)) rfl rfl rfl (by decide +kernel) ⟨Nat.le_of_ble_eq_true rfl, Nat.le_of_ble_eq_true rfl⟩ 3 rfl rfl rfl rfl (Nat.le_of_ble_eq_true rfl) ⟨Nat.le_of_ble_eq_true rfl, Nat.le_of_ble_eq_true rfl⟩ dX5_mayStand_117 (fun v ty' w' hp hk' => ?_)
    obtain ⟨y887, c888, c889, rfl, rfl⟩ := hp
    show GW κ 1 0 0 (wX q d I A) 120 [(0, .ref (q 3))] [.int y887]
    refine g_if_lt (tgt := 127) (a := y887.toInt) hk dX5_mayStand_120 (by decide) rfl (fun c890 => ?_) (fun c890 => ?_)
    · skip
      refine g_iconst (v := 0) hk dX5_mayStand_127 (by decide) ?_
      exact g_iret hk hR rfl (Or.inl ⟨rfl, rfl⟩) dX5_mayStand_128
    · skip
      refine g_iconst (v := 1) hk dX5_mayStand_123 (by decide) ?_
      refine g_goto (tgt := 128) hk dX5_mayStand_124 (by decide) ?_
      exact g_iret hk hR rfl (Or.inr (⟨rfl, rfl⟩)) dX5_mayStand_128
  refine g_tabOut (tgt := 129) (a := (I 6).toInt) hk dX5_mayStand_4 rfl (by omega) (by decide) ?_
  refine g_aload_n hk dX5_mayStand_129 rfl ?_
  refine gX_r3_0 hk hin5 (List.mem_cons_of_mem _ (List.mem_append_left _ (List.mem_of_getElem? (i := 9) rfl))) dX5_mayStand_130 ?_
  refine gX_i1 (v := (I 1)) hk hin10 (List.mem_cons_of_mem _ (List.mem_append_left _ (List.mem_of_getElem? (i := 17) rfl))) dX5_mayStand_133 rfl ?_
  refine g_iconst (v := 3) hk dX5_mayStand_136 (by decide) ?_
  have b891l := Int32.le_toInt (I 1)
  have b891h := Int32.toInt_lt (I 1)
  refine g_icmp_ne (tgt := 144) (a := (I 1).toInt) (b := 3) hk dX5_mayStand_137 (by decide) rfl rfl (fun c892 => ?_) (fun c892 => ?_)
  · skip
    refine g_iconst (v := 0) hk dX5_mayStand_144 (by decide) ?_
    exact g_iret hk hR rfl (Or.inl ⟨rfl, rfl⟩) dX5_mayStand_145
  · skip
    refine g_iconst (v := 1) hk dX5_mayStand_140 (by decide) ?_
    refine g_goto (tgt := 145) hk dX5_mayStand_141 (by decide) ?_
    exact g_iret hk hR rfl (Or.inr (⟨rfl, rfl⟩)) dX5_mayStand_145
def wo_k149_X5_hasRoom : List Cond := [Cond.fieldLink RX5 42 "WarpDesk$Reader" "tape" "LWarpDesk$Tape;", Cond.fieldLink RX5 124 "WarpDesk$Tape" "number" "I", Cond.fieldLink RX5 75 "WarpDesk$Reader" "state" "I", Cond.methodLink RX5 99 yX5_tellAtHand, Cond.instanceMethod yX5_tellAtHand, Cond.selects RX5 yX5_tellAtHand yX5_tellAtHand, Cond.initialized RX5, Cond.fieldLink RX5 21 "WarpDesk$Reader" "queries" "LWarpDesk$Queries;", Cond.fieldLink RX5 84 "WarpDesk$Queries" "size" "I", Cond.fieldLink RX5 53 "WarpDesk$Tape" "kind" "I", Cond.fieldLink RX5 12 "WarpDesk$Reader" "draft" "LWarpDesk$Stand;", Cond.fieldLink RX5 127 "WarpDesk$Stand" "size" "I", Cond.fieldLink RX5 32 "WarpDesk$Reader" "told" "I"]
def wz_k149_X5_hasRoom : List Cond := .code yX5_hasRoom cX5_hasRoom 1 (some .boolean) :: (wo_k149_X5_hasRoom ++ (wsX40 ++ (wsX50 ++ (wsX80 ++ (wsX100 ++ (wz_k133_X5_tellAtHand ++ ([] : List Cond)))))))
theorem zg_k149_X5_hasRoom : ∀ w ∈ wz_k149_X5_hasRoom, goodWord w = true := zg_cons rfl (zg_app (by decide +kernel) (zg_app zgU_wsX40 (zg_app zgU_wsX50 (zg_app zgU_wsX80 (zg_app zgU_wsX100 (zg_app zg_k133_X5_tellAtHand zg_nil))))))
theorem zi_k149_X5_hasRoom : ∀ w ∈ wz_k149_X5_hasRoom, w ∈ lw_tbl := zi_cons zw_692 (zi_app (zi_cons zw_230 (zi_cons zw_145 (zi_cons zw_237 (zi_cons zw_588 (zi_cons zw_590 (zi_cons zw_6 (zi_cons zw_105 (zi_cons zw_233 (zi_cons zw_220 (zi_cons zw_138 (zi_cons zw_231 (zi_cons zw_197 (zi_cons zw_240 zi_nil))))))))))))) (zi_app inX4 (zi_app inX5 (zi_app inX8 (zi_app inX10 (zi_app zi_k133_X5_tellAtHand zi_nil))))))
set_option maxHeartbeats 4000000 in
set_option maxRecDepth 100000 in
theorem k149_X5_hasRoom (l : Launch) (D : va_G) (zt : Nat × Nat × Nat × (Nat → Nat) × (Nat → Nat)) (q : Nat → Nat) (d : Nat → ClassId) (I : Nat → Int32) (A : Nat → Nat → Int32) (hIv : IvX I A) : GM l D zt (tyX d) yX5_hasRoom wz_k149_X5_hasRoom ({ frames := 6, cells := 0, slots := 0, locals := 127 } : Room) [.ref (q 3)] (wX q d I A) (fun v _ w' => (v = some (.int 0) ∧ w' = wX q d I A) ∨ (v = some (.int 1) ∧ w' = wX q d I A)) 0 0 := by
  refine GM.of (cc := cX5_hasRoom) (maxL := 1) (ret := (some .boolean)) (own := RX5) (lv := [(0, .ref (q 3))]) (by decide) rfl rfl (Nat.le_of_ble_eq_true rfl) rfl (fun κ sz hk hR hN => ?_)
  have hin4 : ∀ w ∈ u_ws RX4 TX4 3, w ∈ wz_k149_X5_hasRoom := fun w h => (List.mem_cons_of_mem _ (List.mem_append_right _ (List.mem_append_left _ h)))
  have hin5 : ∀ w ∈ u_ws RX5 TX5 13, w ∈ wz_k149_X5_hasRoom := fun w h => (List.mem_cons_of_mem _ (List.mem_append_right _ (List.mem_append_right _ (List.mem_append_left _ h))))
  have hin8 : ∀ w ∈ u_ws RX8 TX8 4, w ∈ wz_k149_X5_hasRoom := fun w h => (List.mem_cons_of_mem _ (List.mem_append_right _ (List.mem_append_right _ (List.mem_append_right _ (List.mem_append_left _ h)))))
  have hin10 : ∀ w ∈ u_ws RX10 TX10 7, w ∈ wz_k149_X5_hasRoom := fun w h => (List.mem_cons_of_mem _ (List.mem_append_right _ (List.mem_append_right _ (List.mem_append_right _ (List.mem_append_right _ (List.mem_append_left _ h))))))
  refine g_aload_n hk dX5_hasRoom_0 rfl ?_
  refine gX_r3_0 hk hin5 (List.mem_cons_of_mem _ (List.mem_append_left _ (List.mem_of_getElem? (i := 0) rfl))) dX5_hasRoom_1 ?_
  refine gX_i4 (v := (I 4)) hk hin10 (List.mem_cons_of_mem _ (List.mem_append_left _ (List.mem_of_getElem? (i := 1) rfl))) dX5_hasRoom_4 rfl ?_
  refine g_sipush (v := 400) hk dX5_hasRoom_7 (by decide) ?_
  have b898l := Int32.le_toInt (I 4)
  have b898h := Int32.toInt_lt (I 4)
  refine g_icmp_le (tgt := 15) (a := (I 4).toInt) (b := 400) hk dX5_hasRoom_10 (by decide) rfl rfl (fun c899 => ?_) (fun c899 => ?_)
  · skip
    refine g_aload_n hk dX5_hasRoom_15 rfl ?_
    refine gX_i6 (v := (I 6)) hk hin5 (List.mem_cons_of_mem _ (List.mem_append_left _ (List.mem_of_getElem? (i := 2) rfl))) dX5_hasRoom_16 rfl ?_
    by_cases c900 : (I 6).toInt = 0
    · refine g_tabIn (tgt := 48) (a := 0) hk dX5_hasRoom_19 c900 (by decide) (by decide) rfl (by decide) ?_
      refine g_aload_n hk dX5_hasRoom_48 rfl ?_
      refine g_callV (n := 0) hk (k133_X5_tellAtHand l D zt q d I A  hIv) (SP.same _) (fun _ h => h) (gi_V (List.mem_cons_of_mem _ (List.mem_append_left _ (List.mem_of_getElem? (i := 3) rfl))) (List.mem_cons_of_mem _ (List.mem_append_left _ (List.mem_of_getElem? (i := 4) rfl))) (List.mem_cons_of_mem _ (List.mem_append_left _ (List.mem_of_getElem? (i := 5) rfl))) (List.mem_cons_of_mem _ (List.mem_append_left _ (List.mem_of_getElem? (i := 6) rfl))) (gi_sub (fun w h => (List.mem_cons_of_mem _ (List.mem_append_right _ (List.mem_append_right _ (List.mem_append_right _ (List.mem_append_right _ (List.mem_append_right _ (List.mem_append_left _ h)))))))) zg_k133_X5_tellAtHand)) rfl rfl rfl (by decide +kernel) ⟨Nat.le_of_ble_eq_true rfl, Nat.le_of_ble_eq_true rfl⟩ 3 rfl rfl rfl rfl (Nat.le_of_ble_eq_true rfl) ⟨Nat.le_of_ble_eq_true rfl, Nat.le_of_ble_eq_true rfl⟩ dX5_hasRoom_49 (fun v ty' w' hp hk' => ?_)
      obtain ⟨y901, c902, c903, rfl, rfl⟩ := hp
      show GW κ 1 0 0 (wX q d I A) 52 [(0, .ref (q 3))] [.int y901]
      refine g_iconst (v := 5) hk dX5_hasRoom_52 (by decide) ?_
      refine g_icmp_ne (tgt := 67) (a := y901.toInt) (b := 5) hk dX5_hasRoom_53 (by decide) rfl rfl (fun c904 => ?_) (fun c904 => ?_)
      · skip
        refine g_iconst (v := 1) hk dX5_hasRoom_67 (by decide) ?_
        refine g_goto (tgt := 72) hk dX5_hasRoom_68 (by decide) ?_
        exact g_iret hk hR rfl (Or.inr (⟨rfl, rfl⟩)) dX5_hasRoom_72
      · skip
        refine g_aload_n hk dX5_hasRoom_56 rfl ?_
        refine gX_r3_2 hk hin5 (List.mem_cons_of_mem _ (List.mem_append_left _ (List.mem_of_getElem? (i := 7) rfl))) dX5_hasRoom_57 ?_
        refine gX_i16 (v := (I 16)) hk hin4 (List.mem_cons_of_mem _ (List.mem_append_left _ (List.mem_of_getElem? (i := 8) rfl))) dX5_hasRoom_60 rfl ?_
        refine g_iconst (v := 5) hk dX5_hasRoom_63 (by decide) ?_
        have b905l := Int32.le_toInt (I 16)
        have b905h := Int32.toInt_lt (I 16)
        refine g_icmp_ge (tgt := 71) (a := (I 16).toInt) (b := 5) hk dX5_hasRoom_64 (by decide) rfl rfl (fun c906 => ?_) (fun c906 => ?_)
        · skip
          refine g_iconst (v := 0) hk dX5_hasRoom_71 (by decide) ?_
          exact g_iret hk hR rfl (Or.inl ⟨rfl, rfl⟩) dX5_hasRoom_72
        · skip
          refine g_iconst (v := 1) hk dX5_hasRoom_67 (by decide) ?_
          refine g_goto (tgt := 72) hk dX5_hasRoom_68 (by decide) ?_
          exact g_iret hk hR rfl (Or.inr (⟨rfl, rfl⟩)) dX5_hasRoom_72
    by_cases c907 : (I 6).toInt = 1
    · refine g_tabIn (tgt := 73) (a := 1) hk dX5_hasRoom_19 c907 (by decide) (by decide) rfl (by decide) ?_
      refine g_aload_n hk dX5_hasRoom_73 rfl ?_
      refine gX_r3_0 hk hin5 (List.mem_cons_of_mem _ (List.mem_append_left _ (List.mem_of_getElem? (i := 0) rfl))) dX5_hasRoom_74 ?_
      refine gX_i1 (v := (I 1)) hk hin10 (List.mem_cons_of_mem _ (List.mem_append_left _ (List.mem_of_getElem? (i := 9) rfl))) dX5_hasRoom_77 rfl ?_
      refine g_iconst (v := 3) hk dX5_hasRoom_80 (by decide) ?_
      have b908l := Int32.le_toInt (I 1)
      have b908h := Int32.toInt_lt (I 1)
      refine g_icmp_eq (tgt := 97) (a := (I 1).toInt) (b := 3) hk dX5_hasRoom_81 (by decide) rfl rfl (fun c909 => ?_) (fun c909 => ?_)
      · skip
        refine g_iconst (v := 1) hk dX5_hasRoom_97 (by decide) ?_
        refine g_goto (tgt := 102) hk dX5_hasRoom_98 (by decide) ?_
        exact g_iret hk hR rfl (Or.inr (⟨rfl, rfl⟩)) dX5_hasRoom_102
      · skip
        refine g_aload_n hk dX5_hasRoom_84 rfl ?_
        refine gX_r3_1 hk hin5 (List.mem_cons_of_mem _ (List.mem_append_left _ (List.mem_of_getElem? (i := 10) rfl))) dX5_hasRoom_85 ?_
        refine gX_i14 (v := (I 14)) hk hin8 (List.mem_cons_of_mem _ (List.mem_append_left _ (List.mem_of_getElem? (i := 11) rfl))) dX5_hasRoom_88 rfl ?_
        refine g_sipush (v := 160) hk dX5_hasRoom_91 (by decide) ?_
        have b910l := Int32.le_toInt (I 14)
        have b910h := Int32.toInt_lt (I 14)
        refine g_icmp_ge (tgt := 101) (a := (I 14).toInt) (b := 160) hk dX5_hasRoom_94 (by decide) rfl rfl (fun c911 => ?_) (fun c911 => ?_)
        · skip
          refine g_iconst (v := 0) hk dX5_hasRoom_101 (by decide) ?_
          exact g_iret hk hR rfl (Or.inl ⟨rfl, rfl⟩) dX5_hasRoom_102
        · skip
          refine g_iconst (v := 1) hk dX5_hasRoom_97 (by decide) ?_
          refine g_goto (tgt := 102) hk dX5_hasRoom_98 (by decide) ?_
          exact g_iret hk hR rfl (Or.inr (⟨rfl, rfl⟩)) dX5_hasRoom_102
    by_cases c912 : (I 6).toInt = 2
    · refine g_tabIn (tgt := 129) (a := 2) hk dX5_hasRoom_19 c912 (by decide) (by decide) rfl (by decide) ?_
      refine g_iconst (v := 1) hk dX5_hasRoom_129 (by decide) ?_
      exact g_iret hk hR rfl (Or.inr (⟨rfl, rfl⟩)) dX5_hasRoom_130
    by_cases c913 : (I 6).toInt = 3
    · refine g_tabIn (tgt := 103) (a := 3) hk dX5_hasRoom_19 c913 (by decide) (by decide) rfl (by decide) ?_
      refine g_aload_n hk dX5_hasRoom_103 rfl ?_
      refine gX_r3_0 hk hin5 (List.mem_cons_of_mem _ (List.mem_append_left _ (List.mem_of_getElem? (i := 0) rfl))) dX5_hasRoom_104 ?_
      refine gX_i1 (v := (I 1)) hk hin10 (List.mem_cons_of_mem _ (List.mem_append_left _ (List.mem_of_getElem? (i := 9) rfl))) dX5_hasRoom_107 rfl ?_
      refine g_iconst (v := 3) hk dX5_hasRoom_110 (by decide) ?_
      have b914l := Int32.le_toInt (I 1)
      have b914h := Int32.toInt_lt (I 1)
      refine g_icmp_eq (tgt := 123) (a := (I 1).toInt) (b := 3) hk dX5_hasRoom_111 (by decide) rfl rfl (fun c915 => ?_) (fun c915 => ?_)
      · skip
        refine g_iconst (v := 1) hk dX5_hasRoom_123 (by decide) ?_
        refine g_goto (tgt := 128) hk dX5_hasRoom_124 (by decide) ?_
        exact g_iret hk hR rfl (Or.inr (⟨rfl, rfl⟩)) dX5_hasRoom_128
      · skip
        refine g_aload_n hk dX5_hasRoom_114 rfl ?_
        refine gX_i9 (v := (I 9)) hk hin5 (List.mem_cons_of_mem _ (List.mem_append_left _ (List.mem_of_getElem? (i := 12) rfl))) dX5_hasRoom_115 rfl ?_
        refine g_bipush (v := 16) hk dX5_hasRoom_118 (by decide) ?_
        have b916l := Int32.le_toInt (I 9)
        have b916h := Int32.toInt_lt (I 9)
        refine g_icmp_ge (tgt := 127) (a := (I 9).toInt) (b := 16) hk dX5_hasRoom_120 (by decide) rfl rfl (fun c917 => ?_) (fun c917 => ?_)
        · skip
          refine g_iconst (v := 0) hk dX5_hasRoom_127 (by decide) ?_
          exact g_iret hk hR rfl (Or.inl ⟨rfl, rfl⟩) dX5_hasRoom_128
        · skip
          refine g_iconst (v := 1) hk dX5_hasRoom_123 (by decide) ?_
          refine g_goto (tgt := 128) hk dX5_hasRoom_124 (by decide) ?_
          exact g_iret hk hR rfl (Or.inr (⟨rfl, rfl⟩)) dX5_hasRoom_128
    refine g_tabOut (tgt := 129) (a := (I 6).toInt) hk dX5_hasRoom_19 rfl (by omega) (by decide) ?_
    refine g_iconst (v := 1) hk dX5_hasRoom_129 (by decide) ?_
    exact g_iret hk hR rfl (Or.inr (⟨rfl, rfl⟩)) dX5_hasRoom_130
  · skip
    refine g_iconst (v := 0) hk dX5_hasRoom_13 (by decide) ?_
    exact g_iret hk hR rfl (Or.inl ⟨rfl, rfl⟩) dX5_hasRoom_14
def wo_k151_X5_beginTell : List Cond := [Cond.methodLink RX5 99 yX5_tellAtHand, Cond.instanceMethod yX5_tellAtHand, Cond.selects RX5 yX5_tellAtHand yX5_tellAtHand, Cond.initialized RX5, Cond.fieldLink RX5 141 "WarpDesk$Reader" "tell" "I", Cond.fieldLink RX5 75 "WarpDesk$Reader" "state" "I", Cond.fieldLink RX5 32 "WarpDesk$Reader" "told" "I"]
def wz_k151_X5_beginTell : List Cond := .code yX5_beginTell cX5_beginTell 1 none :: (wo_k151_X5_beginTell ++ (wsX50 ++ (wz_k133_X5_tellAtHand ++ ([] : List Cond))))
theorem zg_k151_X5_beginTell : ∀ w ∈ wz_k151_X5_beginTell, goodWord w = true := zg_cons rfl (zg_app (by decide +kernel) (zg_app zgU_wsX50 (zg_app zg_k133_X5_tellAtHand zg_nil)))
theorem zi_k151_X5_beginTell : ∀ w ∈ wz_k151_X5_beginTell, w ∈ lw_tbl := zi_cons zw_700 (zi_app (zi_cons zw_588 (zi_cons zw_590 (zi_cons zw_6 (zi_cons zw_105 (zi_cons zw_238 (zi_cons zw_237 (zi_cons zw_240 zi_nil))))))) (zi_app inX5 (zi_app zi_k133_X5_tellAtHand zi_nil)))
set_option maxHeartbeats 4000000 in
set_option maxRecDepth 100000 in
theorem k151_X5_beginTell (l : Launch) (D : va_G) (zt : Nat × Nat × Nat × (Nat → Nat) × (Nat → Nat)) (q : Nat → Nat) (d : Nat → ClassId) (I : Nat → Int32) (A : Nat → Nat → Int32) (hIv : IvX I A) : GM l D zt (tyX d) yX5_beginTell wz_k151_X5_beginTell ({ frames := 6, cells := 0, slots := 0, locals := 127 } : Room) [.ref (q 3)] (wX q d I A) (fun v _ w' => ∃ (I' : Nat → Int32) (A' : Nat → Nat → Int32), Md [6, 7, 9] I I' ∧ Md [] A A' ∧ IvX I' A' ∧ v = none ∧ w' = wX q d I' A') 0 0 := by
  refine GM.of (cc := cX5_beginTell) (maxL := 1) (ret := none) (own := RX5) (lv := [(0, .ref (q 3))]) (by decide) rfl rfl (Nat.le_of_ble_eq_true rfl) rfl (fun κ sz hk hR hN => ?_)
  have hin5 : ∀ w ∈ u_ws RX5 TX5 13, w ∈ wz_k151_X5_beginTell := fun w h => (List.mem_cons_of_mem _ (List.mem_append_right _ (List.mem_append_left _ h)))
  refine g_aload_n hk dX5_beginTell_0 rfl ?_
  refine g_aload_n hk dX5_beginTell_1 rfl ?_
  refine g_callV (n := 0) hk (k133_X5_tellAtHand l D zt q d I A  hIv) (SP.same _) (fun _ h => h) (gi_V (List.mem_cons_of_mem _ (List.mem_append_left _ (List.mem_of_getElem? (i := 0) rfl))) (List.mem_cons_of_mem _ (List.mem_append_left _ (List.mem_of_getElem? (i := 1) rfl))) (List.mem_cons_of_mem _ (List.mem_append_left _ (List.mem_of_getElem? (i := 2) rfl))) (List.mem_cons_of_mem _ (List.mem_append_left _ (List.mem_of_getElem? (i := 3) rfl))) (gi_sub (fun w h => (List.mem_cons_of_mem _ (List.mem_append_right _ (List.mem_append_right _ (List.mem_append_left _ h))))) zg_k133_X5_tellAtHand)) rfl rfl rfl (by decide +kernel) ⟨Nat.le_of_ble_eq_true rfl, Nat.le_of_ble_eq_true rfl⟩ 3 rfl rfl rfl rfl (Nat.le_of_ble_eq_true rfl) ⟨Nat.le_of_ble_eq_true rfl, Nat.le_of_ble_eq_true rfl⟩ dX5_beginTell_2 (fun v ty' w' hp hk' => ?_)
  obtain ⟨y924, c925, c926, rfl, rfl⟩ := hp
  show GW κ 1 0 0 (wX q d I A) 5 [(0, .ref (q 3))] [.int y924, .ref (q 3)]
  refine pX_i7 hk hin5 (List.mem_cons_of_mem _ (List.mem_append_left _ (List.mem_of_getElem? (i := 4) rfl))) dX5_beginTell_5 ?_
  refine g_aload_n hk dX5_beginTell_8 rfl ?_
  refine gX_i7 (v := y924) hk hin5 (List.mem_cons_of_mem _ (List.mem_append_left _ (List.mem_of_getElem? (i := 4) rfl))) dX5_beginTell_9 rfl ?_
  by_cases c927 : y924.toInt = 0
  · refine g_tabIn (tgt := 78) (a := 0) hk dX5_beginTell_12 c927 (by decide) (by decide) rfl (by decide) ?_
    refine g_aload_n hk dX5_beginTell_78 rfl ?_
    refine g_iconst (v := 4) hk dX5_beginTell_79 (by decide) ?_
    refine pX_i6 hk hin5 (List.mem_cons_of_mem _ (List.mem_append_left _ (List.mem_of_getElem? (i := 5) rfl))) dX5_beginTell_80 ?_
    refine g_goto (tgt := 91) hk dX5_beginTell_83 (by decide) ?_
    exact g_vret hk hR ⟨(upd (upd I 7 y924) 6 4), A, (show Md [6, 7, 9] I (upd (upd I 7 y924) 6 4) from (Md.up (Md.up Md.rf rfl) rfl)), (show Md [] A A from Md.rf), ⟨(IvX_f0 (I := I) (A := A) hIv), (IvX_f18 (I := I) (A := A) hIv), (IvX_f30 (I := I) (A := A) hIv), (IvX_f31 (I := I) (A := A) hIv), (IvX_a4 (I := I) (A := A) hIv), (IvX_a9 (I := I) (A := A) hIv), trivial⟩, rfl, rfl⟩ dX5_beginTell_91
  by_cases c928 : y924.toInt = 1
  · refine g_tabIn (tgt := 86) (a := 1) hk dX5_beginTell_12 c928 (by decide) (by decide) rfl (by decide) ?_
    refine g_aload_n hk dX5_beginTell_86 rfl ?_
    refine g_iconst (v := 5) hk dX5_beginTell_87 (by decide) ?_
    refine pX_i6 hk hin5 (List.mem_cons_of_mem _ (List.mem_append_left _ (List.mem_of_getElem? (i := 5) rfl))) dX5_beginTell_88 ?_
    exact g_vret hk hR ⟨(upd (upd I 7 y924) 6 5), A, (show Md [6, 7, 9] I (upd (upd I 7 y924) 6 5) from (Md.up (Md.up Md.rf rfl) rfl)), (show Md [] A A from Md.rf), ⟨(IvX_f0 (I := I) (A := A) hIv), (IvX_f18 (I := I) (A := A) hIv), (IvX_f30 (I := I) (A := A) hIv), (IvX_f31 (I := I) (A := A) hIv), (IvX_a4 (I := I) (A := A) hIv), (IvX_a9 (I := I) (A := A) hIv), trivial⟩, rfl, rfl⟩ dX5_beginTell_91
  by_cases c929 : y924.toInt = 2
  · refine g_tabIn (tgt := 86) (a := 2) hk dX5_beginTell_12 c929 (by decide) (by decide) rfl (by decide) ?_
    refine g_aload_n hk dX5_beginTell_86 rfl ?_
    refine g_iconst (v := 5) hk dX5_beginTell_87 (by decide) ?_
    refine pX_i6 hk hin5 (List.mem_cons_of_mem _ (List.mem_append_left _ (List.mem_of_getElem? (i := 5) rfl))) dX5_beginTell_88 ?_
    exact g_vret hk hR ⟨(upd (upd I 7 y924) 6 5), A, (show Md [6, 7, 9] I (upd (upd I 7 y924) 6 5) from (Md.up (Md.up Md.rf rfl) rfl)), (show Md [] A A from Md.rf), ⟨(IvX_f0 (I := I) (A := A) hIv), (IvX_f18 (I := I) (A := A) hIv), (IvX_f30 (I := I) (A := A) hIv), (IvX_f31 (I := I) (A := A) hIv), (IvX_a4 (I := I) (A := A) hIv), (IvX_a9 (I := I) (A := A) hIv), trivial⟩, rfl, rfl⟩ dX5_beginTell_91
  by_cases c930 : y924.toInt = 3
  · refine g_tabIn (tgt := 78) (a := 3) hk dX5_beginTell_12 c930 (by decide) (by decide) rfl (by decide) ?_
    refine g_aload_n hk dX5_beginTell_78 rfl ?_
    refine g_iconst (v := 4) hk dX5_beginTell_79 (by decide) ?_
    refine pX_i6 hk hin5 (List.mem_cons_of_mem _ (List.mem_append_left _ (List.mem_of_getElem? (i := 5) rfl))) dX5_beginTell_80 ?_
    refine g_goto (tgt := 91) hk dX5_beginTell_83 (by decide) ?_
    exact g_vret hk hR ⟨(upd (upd I 7 y924) 6 4), A, (show Md [6, 7, 9] I (upd (upd I 7 y924) 6 4) from (Md.up (Md.up Md.rf rfl) rfl)), (show Md [] A A from Md.rf), ⟨(IvX_f0 (I := I) (A := A) hIv), (IvX_f18 (I := I) (A := A) hIv), (IvX_f30 (I := I) (A := A) hIv), (IvX_f31 (I := I) (A := A) hIv), (IvX_a4 (I := I) (A := A) hIv), (IvX_a9 (I := I) (A := A) hIv), trivial⟩, rfl, rfl⟩ dX5_beginTell_91
  by_cases c931 : y924.toInt = 4
  · refine g_tabIn (tgt := 52) (a := 4) hk dX5_beginTell_12 c931 (by decide) (by decide) rfl (by decide) ?_
    refine g_aload_n hk dX5_beginTell_52 rfl ?_
    refine g_iconst (v := 1) hk dX5_beginTell_53 (by decide) ?_
    refine pX_i6 hk hin5 (List.mem_cons_of_mem _ (List.mem_append_left _ (List.mem_of_getElem? (i := 5) rfl))) dX5_beginTell_54 ?_
    refine g_aload_n hk dX5_beginTell_57 rfl ?_
    refine g_iconst (v := 0) hk dX5_beginTell_58 (by decide) ?_
    refine pX_i9 hk hin5 (List.mem_cons_of_mem _ (List.mem_append_left _ (List.mem_of_getElem? (i := 6) rfl))) dX5_beginTell_59 ?_
    refine g_goto (tgt := 91) hk dX5_beginTell_62 (by decide) ?_
    exact g_vret hk hR ⟨(upd (upd (upd I 7 y924) 6 1) 9 0), A, (show Md [6, 7, 9] I (upd (upd (upd I 7 y924) 6 1) 9 0) from (Md.up (Md.up (Md.up Md.rf rfl) rfl) rfl)), (show Md [] A A from Md.rf), ⟨(IvX_f0 (I := I) (A := A) hIv), (IvX_f18 (I := I) (A := A) hIv), (IvX_f30 (I := I) (A := A) hIv), (IvX_f31 (I := I) (A := A) hIv), (IvX_a4 (I := I) (A := A) hIv), (IvX_a9 (I := I) (A := A) hIv), trivial⟩, rfl, rfl⟩ dX5_beginTell_91
  by_cases c932 : y924.toInt = 5
  · refine g_tabIn (tgt := 65) (a := 5) hk dX5_beginTell_12 c932 (by decide) (by decide) rfl (by decide) ?_
    refine g_aload_n hk dX5_beginTell_65 rfl ?_
    refine g_iconst (v := 2) hk dX5_beginTell_66 (by decide) ?_
    refine pX_i6 hk hin5 (List.mem_cons_of_mem _ (List.mem_append_left _ (List.mem_of_getElem? (i := 5) rfl))) dX5_beginTell_67 ?_
    refine g_aload_n hk dX5_beginTell_70 rfl ?_
    refine g_iconst (v := 0) hk dX5_beginTell_71 (by decide) ?_
    refine pX_i9 hk hin5 (List.mem_cons_of_mem _ (List.mem_append_left _ (List.mem_of_getElem? (i := 6) rfl))) dX5_beginTell_72 ?_
    refine g_goto (tgt := 91) hk dX5_beginTell_75 (by decide) ?_
    exact g_vret hk hR ⟨(upd (upd (upd I 7 y924) 6 2) 9 0), A, (show Md [6, 7, 9] I (upd (upd (upd I 7 y924) 6 2) 9 0) from (Md.up (Md.up (Md.up Md.rf rfl) rfl) rfl)), (show Md [] A A from Md.rf), ⟨(IvX_f0 (I := I) (A := A) hIv), (IvX_f18 (I := I) (A := A) hIv), (IvX_f30 (I := I) (A := A) hIv), (IvX_f31 (I := I) (A := A) hIv), (IvX_a4 (I := I) (A := A) hIv), (IvX_a9 (I := I) (A := A) hIv), trivial⟩, rfl, rfl⟩ dX5_beginTell_91
  refine g_tabOut (tgt := 86) (a := y924.toInt) hk dX5_beginTell_12 rfl (by omega) (by decide) ?_
  refine g_aload_n hk dX5_beginTell_86 rfl ?_
  refine g_iconst (v := 5) hk dX5_beginTell_87 (by decide) ?_
  refine pX_i6 hk hin5 (List.mem_cons_of_mem _ (List.mem_append_left _ (List.mem_of_getElem? (i := 5) rfl))) dX5_beginTell_88 ?_
  exact g_vret hk hR ⟨(upd (upd I 7 y924) 6 5), A, (show Md [6, 7, 9] I (upd (upd I 7 y924) 6 5) from (Md.up (Md.up Md.rf rfl) rfl)), (show Md [] A A from Md.rf), ⟨(IvX_f0 (I := I) (A := A) hIv), (IvX_f18 (I := I) (A := A) hIv), (IvX_f30 (I := I) (A := A) hIv), (IvX_f31 (I := I) (A := A) hIv), (IvX_a4 (I := I) (A := A) hIv), (IvX_a9 (I := I) (A := A) hIv), trivial⟩, rfl, rfl⟩ dX5_beginTell_91
def wo_k155_X4_has : List Cond := [Cond.fieldLink RX4 18 "WarpDesk$Queries" "size" "I"]
def wz_k155_X4_has : List Cond := .code yX4_has cX4_has 2 (some .boolean) :: (wo_k155_X4_has ++ (wsX40 ++ ([] : List Cond)))
theorem zg_k155_X4_has : ∀ w ∈ wz_k155_X4_has, goodWord w = true := zg_cons rfl (zg_app (by decide +kernel) (zg_app zgU_wsX40 zg_nil))
theorem zi_k155_X4_has : ∀ w ∈ wz_k155_X4_has, w ∈ lw_tbl := zi_cons zw_749 (zi_app (zi_cons zw_219 zi_nil) (zi_app inX4 zi_nil))
set_option maxHeartbeats 4000000 in
set_option maxRecDepth 100000 in
theorem k155_X4_has (l : Launch) (D : va_G) (zt : Nat × Nat × Nat × (Nat → Nat) × (Nat → Nat)) (q : Nat → Nat) (d : Nat → ClassId) (I : Nat → Int32) (A : Nat → Nat → Int32) (z1 : Int32) (hIv : IvX I A) : GM l D zt (tyX d) yX4_has wz_k155_X4_has ({ frames := 0, cells := 0, slots := 0, locals := 0 } : Room) [.ref (q 8), .int z1] (wX q d I A) (fun v _ w' => (v = some (.int 0) ∧ w' = wX q d I A) ∨ ((¬ (z1.toInt < 0)) ∧ (¬ (5 ≤ z1.toInt)) ∧ (0 ≤ z1.toInt) ∧ (z1.toInt ≤ 4) ∧ v = some (.int 1) ∧ w' = wX q d I A)) 0 0 := by
  refine GM.of (cc := cX4_has) (maxL := 2) (ret := (some .boolean)) (own := RX4) (lv := [(0, .ref (q 8)), (1, .int z1)]) (by decide) rfl rfl (Nat.le_of_ble_eq_true rfl) rfl (fun κ sz hk hR hN => ?_)
  have hin4 : ∀ w ∈ u_ws RX4 TX4 3, w ∈ wz_k155_X4_has := fun w h => (List.mem_cons_of_mem _ (List.mem_append_right _ (List.mem_append_left _ h)))
  refine g_iload_n hk dX4_has_0 rfl ?_
  have b944l := Int32.le_toInt z1
  have b944h := Int32.toInt_lt z1
  refine g_if_lt (tgt := 21) (a := z1.toInt) hk dX4_has_1 (by decide) rfl (fun c945 => ?_) (fun c945 => ?_)
  · skip
    refine g_iconst (v := 0) hk dX4_has_21 (by decide) ?_
    exact g_iret hk hR rfl (Or.inl ⟨rfl, rfl⟩) dX4_has_22
  · skip
    refine g_iload_n hk dX4_has_4 rfl ?_
    refine g_aload_n hk dX4_has_5 rfl ?_
    refine gX_i16 (v := (I 16)) hk hin4 (List.mem_cons_of_mem _ (List.mem_append_left _ (List.mem_of_getElem? (i := 0) rfl))) dX4_has_6 rfl ?_
    have b946l := Int32.le_toInt (I 16)
    have b946h := Int32.toInt_lt (I 16)
    refine g_icmp_ge (tgt := 21) (a := z1.toInt) (b := (I 16).toInt) hk dX4_has_9 (by decide) rfl rfl (fun c947 => ?_) (fun c947 => ?_)
    · skip
      refine g_iconst (v := 0) hk dX4_has_21 (by decide) ?_
      exact g_iret hk hR rfl (Or.inl ⟨rfl, rfl⟩) dX4_has_22
    · skip
      refine g_iload_n hk dX4_has_12 rfl ?_
      refine g_iconst (v := 5) hk dX4_has_13 (by decide) ?_
      refine g_icmp_ge (tgt := 21) (a := z1.toInt) (b := 5) hk dX4_has_14 (by decide) rfl rfl (fun c948 => ?_) (fun c948 => ?_)
      · skip
        refine g_iconst (v := 0) hk dX4_has_21 (by decide) ?_
        exact g_iret hk hR rfl (Or.inl ⟨rfl, rfl⟩) dX4_has_22
      · skip
        refine g_iconst (v := 1) hk dX4_has_17 (by decide) ?_
        refine g_goto (tgt := 22) hk dX4_has_18 (by decide) ?_
        exact g_iret hk hR rfl (Or.inr (⟨c945, c948, (by omega), (by omega), rfl, rfl⟩)) dX4_has_22
