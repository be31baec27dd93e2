def wo_m205_X10_addFour : List Cond := [Cond.fieldLink RX10 15 "WarpDesk$Tape" "size" "I", Cond.fieldLink RX10 9 "WarpDesk$Tape" "bytes" "[I"]
def wz_m205_X10_addFour : List Cond := .code yX10_addFour cX10_addFour 3 none :: (wo_m205_X10_addFour ++ (wsX100 ++ ([] : List Cond)))
theorem zg_m205_X10_addFour : ∀ w ∈ wz_m205_X10_addFour, goodWord w = true := zg_cons rfl (zg_app (by decide +kernel) (zg_app zgU_wsX100 zg_nil))
theorem zi_m205_X10_addFour : ∀ w ∈ wz_m205_X10_addFour, w ∈ lw_tbl := zi_cons zw_525 (zi_app (zi_cons zw_137 (zi_cons zw_135 zi_nil)) (zi_app inX10 zi_nil))
set_option maxHeartbeats 4000000 in
set_option maxRecDepth 100000 in
theorem m205_X10_addFour (l : Launch) (D : va_G) (zt : Nat × Nat × Nat) (d : Nat → ClassId) (q : Nat → Nat) (a689 : Int32) : GM l D zt (tyX d) yX10_addFour wz_m205_X10_addFour ({ frames := 0, cells := 0, slots := 0, locals := 0 } : Room) [.ref (q 1), .int a689] (wX q d iX0 aX0) (fun v _ w' => ∃ (y691 : Int32), ∃ (y693 : Int32), ∃ (y695 : Int32), ∃ (y697 : Int32), v = none ∧ w' = wX q d (upd (upd (upd (upd iX0 0 1) 0 2) 0 3) 0 4) (up3 (up3 (up3 (up3 aX0 0 0 y691) 0 1 y693) 0 2 y695) 0 3 y697)) 0 0 := by
  refine GM.of (cc := cX10_addFour) (maxL := 3) (ret := none) (own := RX10) (lv := [(0, .ref (q 1)), (1, .int a689)]) (by decide) rfl rfl (Nat.le_of_ble_eq_true rfl) rfl (fun κ sz hk hR hN => ?_)
  have hin10 : ∀ w ∈ u_ws RX10 TX10 7, w ∈ wz_m205_X10_addFour := fun w h => (List.mem_cons_of_mem _ (List.mem_append_right _ (List.mem_append_left _ h)))
  refine g_bipush (v := 24) hk dX10_addFour_0 (by decide) ?_
  refine g_istore_n (lv' := [(2, .int 24), (0, .ref (q 1)), (1, .int a689)]) hk dX10_addFour_2 (by decide) rfl ?_
  refine g_iload_n hk dX10_addFour_3 rfl ?_
  refine g_if_lt (tgt := 58) (a := 24) hk dX10_addFour_4 (by decide) rfl (fun z9 => absurd z9 (show ¬ ((24 : Int) < (0 : Int)) from by decide)) (fun _ => ?_)
  refine g_aload_n hk dX10_addFour_7 rfl ?_
  refine gX_i0 (v := 0) hk hin10 (List.mem_cons_of_mem _ (List.mem_append_left _ (List.mem_of_getElem? (i := 0) rfl))) dX10_addFour_8 rfl ?_
  refine g_if_lt (tgt := 52) (a := 0) hk dX10_addFour_11 (by decide) rfl (fun z9 => absurd z9 (show ¬ ((0 : Int) < (0 : Int)) from by decide)) (fun _ => ?_)
  refine g_aload_n hk dX10_addFour_14 rfl ?_
  refine gX_i0 (v := 0) hk hin10 (List.mem_cons_of_mem _ (List.mem_append_left _ (List.mem_of_getElem? (i := 0) rfl))) dX10_addFour_15 rfl ?_
  refine g_aload_n hk dX10_addFour_18 rfl ?_
  refine gX_r1_0 hk hin10 (List.mem_cons_of_mem _ (List.mem_append_left _ (List.mem_of_getElem? (i := 1) rfl))) dX10_addFour_19 ?_
  refine nX_0 hk dX10_addFour_22 ?_
  refine g_icmp_ge (tgt := 52) (a := 0) (b := 2000) hk dX10_addFour_23 (by decide) rfl rfl (fun z9 => absurd z9 (show ¬ ((2000 : Int) ≤ (0 : Int)) from by decide)) (fun _ => ?_)
  refine g_aload_n hk dX10_addFour_26 rfl ?_
  refine gX_r1_0 hk hin10 (List.mem_cons_of_mem _ (List.mem_append_left _ (List.mem_of_getElem? (i := 1) rfl))) dX10_addFour_27 ?_
  refine g_aload_n hk dX10_addFour_30 rfl ?_
  refine gX_i0 (v := 0) hk hin10 (List.mem_cons_of_mem _ (List.mem_append_left _ (List.mem_of_getElem? (i := 0) rfl))) dX10_addFour_31 rfl ?_
  refine g_iload_n hk dX10_addFour_34 rfl ?_
  refine g_iload_n hk dX10_addFour_35 rfl ?_
  refine g_iushr hk dX10_addFour_36 rfl ?_
  refine g_topi (fun y690 ey690 => ?_)
  refine g_sipush (v := 255) hk dX10_addFour_37 (by decide) ?_
  refine g_iand hk dX10_addFour_40 ?_
  refine g_topi (fun y691 ey691 => ?_)
  refine sX_0 (j := 0) hk (vp_in_iff.mpr ⟨by decide, by decide⟩) (by decide) dX10_addFour_41 ?_
  refine g_aload_n hk dX10_addFour_42 rfl ?_
  refine g_dup hk dX10_addFour_43 rfl ?_
  refine gX_i0 (v := 0) hk hin10 (List.mem_cons_of_mem _ (List.mem_append_left _ (List.mem_of_getElem? (i := 0) rfl))) dX10_addFour_44 rfl ?_
  refine g_iconst (v := 1) hk dX10_addFour_47 (by decide) ?_
  refine g_iadd hk dX10_addFour_48 ?_
  refine g_norm (v := 1) (by decide) ?_
  refine pX_i0 hk hin10 (List.mem_cons_of_mem _ (List.mem_append_left _ (List.mem_of_getElem? (i := 0) rfl))) dX10_addFour_49 ?_
  refine g_iinc (v := 16) (lv' := [(2, .int 16), (0, .ref (q 1)), (1, .int a689)]) hk 0 dX10_addFour_52 rfl (by decide) (by decide) rfl ?_
  refine g_goto (tgt := 3) hk dX10_addFour_55 (by decide) ?_
  refine g_iload_n hk dX10_addFour_3 rfl ?_
  refine g_if_lt (tgt := 58) (a := 16) hk dX10_addFour_4 (by decide) rfl (fun z9 => absurd z9 (show ¬ ((16 : Int) < (0 : Int)) from by decide)) (fun _ => ?_)
  refine g_aload_n hk dX10_addFour_7 rfl ?_
  refine gX_i0 (v := 1) hk hin10 (List.mem_cons_of_mem _ (List.mem_append_left _ (List.mem_of_getElem? (i := 0) rfl))) dX10_addFour_8 rfl ?_
  refine g_if_lt (tgt := 52) (a := 1) hk dX10_addFour_11 (by decide) rfl (fun z9 => absurd z9 (show ¬ ((1 : Int) < (0 : Int)) from by decide)) (fun _ => ?_)
  refine g_aload_n hk dX10_addFour_14 rfl ?_
  refine gX_i0 (v := 1) hk hin10 (List.mem_cons_of_mem _ (List.mem_append_left _ (List.mem_of_getElem? (i := 0) rfl))) dX10_addFour_15 rfl ?_
  refine g_aload_n hk dX10_addFour_18 rfl ?_
  refine gX_r1_0 hk hin10 (List.mem_cons_of_mem _ (List.mem_append_left _ (List.mem_of_getElem? (i := 1) rfl))) dX10_addFour_19 ?_
  refine nX_0 hk dX10_addFour_22 ?_
  refine g_icmp_ge (tgt := 52) (a := 1) (b := 2000) hk dX10_addFour_23 (by decide) rfl rfl (fun z9 => absurd z9 (show ¬ ((2000 : Int) ≤ (1 : Int)) from by decide)) (fun _ => ?_)
  refine g_aload_n hk dX10_addFour_26 rfl ?_
  refine gX_r1_0 hk hin10 (List.mem_cons_of_mem _ (List.mem_append_left _ (List.mem_of_getElem? (i := 1) rfl))) dX10_addFour_27 ?_
  refine g_aload_n hk dX10_addFour_30 rfl ?_
  refine gX_i0 (v := 1) hk hin10 (List.mem_cons_of_mem _ (List.mem_append_left _ (List.mem_of_getElem? (i := 0) rfl))) dX10_addFour_31 rfl ?_
  refine g_iload_n hk dX10_addFour_34 rfl ?_
  refine g_iload_n hk dX10_addFour_35 rfl ?_
  refine g_iushr hk dX10_addFour_36 rfl ?_
  refine g_topi (fun y692 ey692 => ?_)
  refine g_sipush (v := 255) hk dX10_addFour_37 (by decide) ?_
  refine g_iand hk dX10_addFour_40 ?_
  refine g_topi (fun y693 ey693 => ?_)
  refine sX_0 (j := 1) hk (vp_in_iff.mpr ⟨by decide, by decide⟩) (by decide) dX10_addFour_41 ?_
  refine g_aload_n hk dX10_addFour_42 rfl ?_
  refine g_dup hk dX10_addFour_43 rfl ?_
  refine gX_i0 (v := 1) hk hin10 (List.mem_cons_of_mem _ (List.mem_append_left _ (List.mem_of_getElem? (i := 0) rfl))) dX10_addFour_44 rfl ?_
  refine g_iconst (v := 1) hk dX10_addFour_47 (by decide) ?_
  refine g_iadd hk dX10_addFour_48 ?_
  refine g_norm (v := 2) (by decide) ?_
  refine pX_i0 hk hin10 (List.mem_cons_of_mem _ (List.mem_append_left _ (List.mem_of_getElem? (i := 0) rfl))) dX10_addFour_49 ?_
  refine g_iinc (v := 8) (lv' := [(2, .int 8), (0, .ref (q 1)), (1, .int a689)]) hk 0 dX10_addFour_52 rfl (by decide) (by decide) rfl ?_
  refine g_goto (tgt := 3) hk dX10_addFour_55 (by decide) ?_
  refine g_iload_n hk dX10_addFour_3 rfl ?_
  refine g_if_lt (tgt := 58) (a := 8) hk dX10_addFour_4 (by decide) rfl (fun z9 => absurd z9 (show ¬ ((8 : Int) < (0 : Int)) from by decide)) (fun _ => ?_)
  refine g_aload_n hk dX10_addFour_7 rfl ?_
  refine gX_i0 (v := 2) hk hin10 (List.mem_cons_of_mem _ (List.mem_append_left _ (List.mem_of_getElem? (i := 0) rfl))) dX10_addFour_8 rfl ?_
  refine g_if_lt (tgt := 52) (a := 2) hk dX10_addFour_11 (by decide) rfl (fun z9 => absurd z9 (show ¬ ((2 : Int) < (0 : Int)) from by decide)) (fun _ => ?_)
  refine g_aload_n hk dX10_addFour_14 rfl ?_
  refine gX_i0 (v := 2) hk hin10 (List.mem_cons_of_mem _ (List.mem_append_left _ (List.mem_of_getElem? (i := 0) rfl))) dX10_addFour_15 rfl ?_
  refine g_aload_n hk dX10_addFour_18 rfl ?_
  refine gX_r1_0 hk hin10 (List.mem_cons_of_mem _ (List.mem_append_left _ (List.mem_of_getElem? (i := 1) rfl))) dX10_addFour_19 ?_
  refine nX_0 hk dX10_addFour_22 ?_
  refine g_icmp_ge (tgt := 52) (a := 2) (b := 2000) hk dX10_addFour_23 (by decide) rfl rfl (fun z9 => absurd z9 (show ¬ ((2000 : Int) ≤ (2 : Int)) from by decide)) (fun _ => ?_)
  refine g_aload_n hk dX10_addFour_26 rfl ?_
  refine gX_r1_0 hk hin10 (List.mem_cons_of_mem _ (List.mem_append_left _ (List.mem_of_getElem? (i := 1) rfl))) dX10_addFour_27 ?_
  refine g_aload_n hk dX10_addFour_30 rfl ?_
  refine gX_i0 (v := 2) hk hin10 (List.mem_cons_of_mem _ (List.mem_append_left _ (List.mem_of_getElem? (i := 0) rfl))) dX10_addFour_31 rfl ?_
  refine g_iload_n hk dX10_addFour_34 rfl ?_
  refine g_iload_n hk dX10_addFour_35 rfl ?_
  refine g_iushr hk dX10_addFour_36 rfl ?_
  refine g_topi (fun y694 ey694 => ?_)
  refine g_sipush (v := 255) hk dX10_addFour_37 (by decide) ?_
  refine g_iand hk dX10_addFour_40 ?_
  refine g_topi (fun y695 ey695 => ?_)
  refine sX_0 (j := 2) hk (vp_in_iff.mpr ⟨by decide, by decide⟩) (by decide) dX10_addFour_41 ?_
  refine g_aload_n hk dX10_addFour_42 rfl ?_
  refine g_dup hk dX10_addFour_43 rfl ?_
  refine gX_i0 (v := 2) hk hin10 (List.mem_cons_of_mem _ (List.mem_append_left _ (List.mem_of_getElem? (i := 0) rfl))) dX10_addFour_44 rfl ?_
  refine g_iconst (v := 1) hk dX10_addFour_47 (by decide) ?_
  refine g_iadd hk dX10_addFour_48 ?_
  refine g_norm (v := 3) (by decide) ?_
  refine pX_i0 hk hin10 (List.mem_cons_of_mem _ (List.mem_append_left _ (List.mem_of_getElem? (i := 0) rfl))) dX10_addFour_49 ?_
  refine g_iinc (v := 0) (lv' := [(2, .int 0), (0, .ref (q 1)), (1, .int a689)]) hk 0 dX10_addFour_52 rfl (by decide) (by decide) rfl ?_
  refine g_goto (tgt := 3) hk dX10_addFour_55 (by decide) ?_
  refine g_iload_n hk dX10_addFour_3 rfl ?_
  refine g_if_lt (tgt := 58) (a := 0) hk dX10_addFour_4 (by decide) rfl (fun z9 => absurd z9 (show ¬ ((0 : Int) < (0 : Int)) from by decide)) (fun _ => ?_)
  refine g_aload_n hk dX10_addFour_7 rfl ?_
  refine gX_i0 (v := 3) hk hin10 (List.mem_cons_of_mem _ (List.mem_append_left _ (List.mem_of_getElem? (i := 0) rfl))) dX10_addFour_8 rfl ?_
  refine g_if_lt (tgt := 52) (a := 3) hk dX10_addFour_11 (by decide) rfl (fun z9 => absurd z9 (show ¬ ((3 : Int) < (0 : Int)) from by decide)) (fun _ => ?_)
  refine g_aload_n hk dX10_addFour_14 rfl ?_
  refine gX_i0 (v := 3) hk hin10 (List.mem_cons_of_mem _ (List.mem_append_left _ (List.mem_of_getElem? (i := 0) rfl))) dX10_addFour_15 rfl ?_
  refine g_aload_n hk dX10_addFour_18 rfl ?_
  refine gX_r1_0 hk hin10 (List.mem_cons_of_mem _ (List.mem_append_left _ (List.mem_of_getElem? (i := 1) rfl))) dX10_addFour_19 ?_
  refine nX_0 hk dX10_addFour_22 ?_
  refine g_icmp_ge (tgt := 52) (a := 3) (b := 2000) hk dX10_addFour_23 (by decide) rfl rfl (fun z9 => absurd z9 (show ¬ ((2000 : Int) ≤ (3 : Int)) from by decide)) (fun _ => ?_)
  refine g_aload_n hk dX10_addFour_26 rfl ?_
  refine gX_r1_0 hk hin10 (List.mem_cons_of_mem _ (List.mem_append_left _ (List.mem_of_getElem? (i := 1) rfl))) dX10_addFour_27 ?_
  refine g_aload_n hk dX10_addFour_30 rfl ?_
  refine gX_i0 (v := 3) hk hin10 (List.mem_cons_of_mem _ (List.mem_append_left _ (List.mem_of_getElem? (i := 0) rfl))) dX10_addFour_31 rfl ?_
  refine g_iload_n hk dX10_addFour_34 rfl ?_
  refine g_iload_n hk dX10_addFour_35 rfl ?_
  refine g_iushr hk dX10_addFour_36 rfl ?_
  refine g_topi (fun y696 ey696 => ?_)
  refine g_sipush (v := 255) hk dX10_addFour_37 (by decide) ?_
  refine g_iand hk dX10_addFour_40 ?_
  refine g_topi (fun y697 ey697 => ?_)
  refine sX_0 (j := 3) hk (vp_in_iff.mpr ⟨by decide, by decide⟩) (by decide) dX10_addFour_41 ?_
  refine g_aload_n hk dX10_addFour_42 rfl ?_
  refine g_dup hk dX10_addFour_43 rfl ?_
  refine gX_i0 (v := 3) hk hin10 (List.mem_cons_of_mem _ (List.mem_append_left _ (List.mem_of_getElem? (i := 0) rfl))) dX10_addFour_44 rfl ?_
  refine g_iconst (v := 1) hk dX10_addFour_47 (by decide) ?_
  refine g_iadd hk dX10_addFour_48 ?_
  refine g_norm (v := 4) (by decide) ?_
  refine pX_i0 hk hin10 (List.mem_cons_of_mem _ (List.mem_append_left _ (List.mem_of_getElem? (i := 0) rfl))) dX10_addFour_49 ?_
  refine g_iinc (v := (-8)) (lv' := [(2, .int (-8)), (0, .ref (q 1)), (1, .int a689)]) hk 0 dX10_addFour_52 rfl (by decide) (by decide) rfl ?_
  refine g_goto (tgt := 3) hk dX10_addFour_55 (by decide) ?_
  refine g_iload_n hk dX10_addFour_3 rfl ?_
  refine g_if_lt (tgt := 58) (a := (-8)) hk dX10_addFour_4 (by decide) rfl (fun _ => ?_) (fun z9 => absurd (show ((-8) : Int) < (0 : Int) from by decide) z9)
  exact g_vret hk hR ⟨y691, y693, y695, y697, rfl, rfl⟩ dX10_addFour_58
def wo_m206_X10_addFour : List Cond := [Cond.fieldLink RX10 15 "WarpDesk$Tape" "size" "I", Cond.fieldLink RX10 9 "WarpDesk$Tape" "bytes" "[I"]
def wz_m206_X10_addFour : List Cond := .code yX10_addFour cX10_addFour 3 none :: (wo_m206_X10_addFour ++ (wsX100 ++ ([] : List Cond)))
theorem zg_m206_X10_addFour : ∀ w ∈ wz_m206_X10_addFour, goodWord w = true := zg_cons rfl (zg_app (by decide +kernel) (zg_app zgU_wsX100 zg_nil))
theorem zi_m206_X10_addFour : ∀ w ∈ wz_m206_X10_addFour, w ∈ lw_tbl := zi_cons zw_525 (zi_app (zi_cons zw_137 (zi_cons zw_135 zi_nil)) (zi_app inX10 zi_nil))
set_option maxHeartbeats 4000000 in
set_option maxRecDepth 100000 in
theorem m206_X10_addFour (l : Launch) (D : va_G) (zt : Nat × Nat × Nat) (d : Nat → ClassId) (q : Nat → Nat) (y698 : Int32) (y699 : Int32) (y700 : Int32) (y701 : Int32) (a702 : Int32) : GM l D zt (tyX d) yX10_addFour wz_m206_X10_addFour ({ frames := 0, cells := 0, slots := 0, locals := 0 } : Room) [.ref (q 1), .int a702] (wX q d (upd (upd (upd (upd iX0 0 1) 0 2) 0 3) 0 4) (up3 (up3 (up3 (up3 aX0 0 0 y698) 0 1 y699) 0 2 y700) 0 3 y701)) (fun v _ w' => ∃ (y704 : Int32), ∃ (y706 : Int32), ∃ (y708 : Int32), ∃ (y710 : Int32), v = none ∧ w' = wX q d (upd (upd (upd (upd (upd (upd (upd (upd iX0 0 1) 0 2) 0 3) 0 4) 0 5) 0 6) 0 7) 0 8) (up3 (up3 (up3 (up3 (up3 (up3 (up3 (up3 aX0 0 0 y698) 0 1 y699) 0 2 y700) 0 3 y701) 0 4 y704) 0 5 y706) 0 6 y708) 0 7 y710)) 0 0 := by
  refine GM.of (cc := cX10_addFour) (maxL := 3) (ret := none) (own := RX10) (lv := [(0, .ref (q 1)), (1, .int a702)]) (by decide) rfl rfl (Nat.le_of_ble_eq_true rfl) rfl (fun κ sz hk hR hN => ?_)
  have hin10 : ∀ w ∈ u_ws RX10 TX10 7, w ∈ wz_m206_X10_addFour := fun w h => (List.mem_cons_of_mem _ (List.mem_append_right _ (List.mem_append_left _ h)))
  refine g_bipush (v := 24) hk dX10_addFour_0 (by decide) ?_
  refine g_istore_n (lv' := [(2, .int 24), (0, .ref (q 1)), (1, .int a702)]) hk dX10_addFour_2 (by decide) rfl ?_
  refine g_iload_n hk dX10_addFour_3 rfl ?_
  refine g_if_lt (tgt := 58) (a := 24) hk dX10_addFour_4 (by decide) rfl (fun z9 => absurd z9 (show ¬ ((24 : Int) < (0 : Int)) from by decide)) (fun _ => ?_)
  refine g_aload_n hk dX10_addFour_7 rfl ?_
  refine gX_i0 (v := 4) hk hin10 (List.mem_cons_of_mem _ (List.mem_append_left _ (List.mem_of_getElem? (i := 0) rfl))) dX10_addFour_8 rfl ?_
  refine g_if_lt (tgt := 52) (a := 4) hk dX10_addFour_11 (by decide) rfl (fun z9 => absurd z9 (show ¬ ((4 : Int) < (0 : Int)) from by decide)) (fun _ => ?_)
  refine g_aload_n hk dX10_addFour_14 rfl ?_
  refine gX_i0 (v := 4) hk hin10 (List.mem_cons_of_mem _ (List.mem_append_left _ (List.mem_of_getElem? (i := 0) rfl))) dX10_addFour_15 rfl ?_
  refine g_aload_n hk dX10_addFour_18 rfl ?_
  refine gX_r1_0 hk hin10 (List.mem_cons_of_mem _ (List.mem_append_left _ (List.mem_of_getElem? (i := 1) rfl))) dX10_addFour_19 ?_
  refine nX_0 hk dX10_addFour_22 ?_
  refine g_icmp_ge (tgt := 52) (a := 4) (b := 2000) hk dX10_addFour_23 (by decide) rfl rfl (fun z9 => absurd z9 (show ¬ ((2000 : Int) ≤ (4 : Int)) from by decide)) (fun _ => ?_)
  refine g_aload_n hk dX10_addFour_26 rfl ?_
  refine gX_r1_0 hk hin10 (List.mem_cons_of_mem _ (List.mem_append_left _ (List.mem_of_getElem? (i := 1) rfl))) dX10_addFour_27 ?_
  refine g_aload_n hk dX10_addFour_30 rfl ?_
  refine gX_i0 (v := 4) hk hin10 (List.mem_cons_of_mem _ (List.mem_append_left _ (List.mem_of_getElem? (i := 0) rfl))) dX10_addFour_31 rfl ?_
  refine g_iload_n hk dX10_addFour_34 rfl ?_
  refine g_iload_n hk dX10_addFour_35 rfl ?_
  refine g_iushr hk dX10_addFour_36 rfl ?_
  refine g_topi (fun y703 ey703 => ?_)
  refine g_sipush (v := 255) hk dX10_addFour_37 (by decide) ?_
  refine g_iand hk dX10_addFour_40 ?_
  refine g_topi (fun y704 ey704 => ?_)
  refine sX_0 (j := 4) hk (vp_in_iff.mpr ⟨by decide, by decide⟩) (by decide) dX10_addFour_41 ?_
  refine g_aload_n hk dX10_addFour_42 rfl ?_
  refine g_dup hk dX10_addFour_43 rfl ?_
  refine gX_i0 (v := 4) hk hin10 (List.mem_cons_of_mem _ (List.mem_append_left _ (List.mem_of_getElem? (i := 0) rfl))) dX10_addFour_44 rfl ?_
  refine g_iconst (v := 1) hk dX10_addFour_47 (by decide) ?_
  refine g_iadd hk dX10_addFour_48 ?_
  refine g_norm (v := 5) (by decide) ?_
  refine pX_i0 hk hin10 (List.mem_cons_of_mem _ (List.mem_append_left _ (List.mem_of_getElem? (i := 0) rfl))) dX10_addFour_49 ?_
  refine g_iinc (v := 16) (lv' := [(2, .int 16), (0, .ref (q 1)), (1, .int a702)]) hk 0 dX10_addFour_52 rfl (by decide) (by decide) rfl ?_
  refine g_goto (tgt := 3) hk dX10_addFour_55 (by decide) ?_
  refine g_iload_n hk dX10_addFour_3 rfl ?_
  refine g_if_lt (tgt := 58) (a := 16) hk dX10_addFour_4 (by decide) rfl (fun z9 => absurd z9 (show ¬ ((16 : Int) < (0 : Int)) from by decide)) (fun _ => ?_)
  refine g_aload_n hk dX10_addFour_7 rfl ?_
  refine gX_i0 (v := 5) hk hin10 (List.mem_cons_of_mem _ (List.mem_append_left _ (List.mem_of_getElem? (i := 0) rfl))) dX10_addFour_8 rfl ?_
  refine g_if_lt (tgt := 52) (a := 5) hk dX10_addFour_11 (by decide) rfl (fun z9 => absurd z9 (show ¬ ((5 : Int) < (0 : Int)) from by decide)) (fun _ => ?_)
  refine g_aload_n hk dX10_addFour_14 rfl ?_
  refine gX_i0 (v := 5) hk hin10 (List.mem_cons_of_mem _ (List.mem_append_left _ (List.mem_of_getElem? (i := 0) rfl))) dX10_addFour_15 rfl ?_
  refine g_aload_n hk dX10_addFour_18 rfl ?_
  refine gX_r1_0 hk hin10 (List.mem_cons_of_mem _ (List.mem_append_left _ (List.mem_of_getElem? (i := 1) rfl))) dX10_addFour_19 ?_
  refine nX_0 hk dX10_addFour_22 ?_
  refine g_icmp_ge (tgt := 52) (a := 5) (b := 2000) hk dX10_addFour_23 (by decide) rfl rfl (fun z9 => absurd z9 (show ¬ ((2000 : Int) ≤ (5 : Int)) from by decide)) (fun _ => ?_)
  refine g_aload_n hk dX10_addFour_26 rfl ?_
  refine gX_r1_0 hk hin10 (List.mem_cons_of_mem _ (List.mem_append_left _ (List.mem_of_getElem? (i := 1) rfl))) dX10_addFour_27 ?_
  refine g_aload_n hk dX10_addFour_30 rfl ?_
  refine gX_i0 (v := 5) hk hin10 (List.mem_cons_of_mem _ (List.mem_append_left _ (List.mem_of_getElem? (i := 0) rfl))) dX10_addFour_31 rfl ?_
  refine g_iload_n hk dX10_addFour_34 rfl ?_
  refine g_iload_n hk dX10_addFour_35 rfl ?_
  refine g_iushr hk dX10_addFour_36 rfl ?_
  refine g_topi (fun y705 ey705 => ?_)
  refine g_sipush (v := 255) hk dX10_addFour_37 (by decide) ?_
  refine g_iand hk dX10_addFour_40 ?_
  refine g_topi (fun y706 ey706 => ?_)
  refine sX_0 (j := 5) hk (vp_in_iff.mpr ⟨by decide, by decide⟩) (by decide) dX10_addFour_41 ?_
  refine g_aload_n hk dX10_addFour_42 rfl ?_
  refine g_dup hk dX10_addFour_43 rfl ?_
  refine gX_i0 (v := 5) hk hin10 (List.mem_cons_of_mem _ (List.mem_append_left _ (List.mem_of_getElem? (i := 0) rfl))) dX10_addFour_44 rfl ?_
  refine g_iconst (v := 1) hk dX10_addFour_47 (by decide) ?_
  refine g_iadd hk dX10_addFour_48 ?_
  refine g_norm (v := 6) (by decide) ?_
  refine pX_i0 hk hin10 (List.mem_cons_of_mem _ (List.mem_append_left _ (List.mem_of_getElem? (i := 0) rfl))) dX10_addFour_49 ?_
  refine g_iinc (v := 8) (lv' := [(2, .int 8), (0, .ref (q 1)), (1, .int a702)]) hk 0 dX10_addFour_52 rfl (by decide) (by decide) rfl ?_
  refine g_goto (tgt := 3) hk dX10_addFour_55 (by decide) ?_
  refine g_iload_n hk dX10_addFour_3 rfl ?_
  refine g_if_lt (tgt := 58) (a := 8) hk dX10_addFour_4 (by decide) rfl (fun z9 => absurd z9 (show ¬ ((8 : Int) < (0 : Int)) from by decide)) (fun _ => ?_)
  refine g_aload_n hk dX10_addFour_7 rfl ?_
  refine gX_i0 (v := 6) hk hin10 (List.mem_cons_of_mem _ (List.mem_append_left _ (List.mem_of_getElem? (i := 0) rfl))) dX10_addFour_8 rfl ?_
  refine g_if_lt (tgt := 52) (a := 6) hk dX10_addFour_11 (by decide) rfl (fun z9 => absurd z9 (show ¬ ((6 : Int) < (0 : Int)) from by decide)) (fun _ => ?_)
  refine g_aload_n hk dX10_addFour_14 rfl ?_
  refine gX_i0 (v := 6) hk hin10 (List.mem_cons_of_mem _ (List.mem_append_left _ (List.mem_of_getElem? (i := 0) rfl))) dX10_addFour_15 rfl ?_
  refine g_aload_n hk dX10_addFour_18 rfl ?_
  refine gX_r1_0 hk hin10 (List.mem_cons_of_mem _ (List.mem_append_left _ (List.mem_of_getElem? (i := 1) rfl))) dX10_addFour_19 ?_
  refine nX_0 hk dX10_addFour_22 ?_
  refine g_icmp_ge (tgt := 52) (a := 6) (b := 2000) hk dX10_addFour_23 (by decide) rfl rfl (fun z9 => absurd z9 (show ¬ ((2000 : Int) ≤ (6 : Int)) from by decide)) (fun _ => ?_)
  refine g_aload_n hk dX10_addFour_26 rfl ?_
  refine gX_r1_0 hk hin10 (List.mem_cons_of_mem _ (List.mem_append_left _ (List.mem_of_getElem? (i := 1) rfl))) dX10_addFour_27 ?_
  refine g_aload_n hk dX10_addFour_30 rfl ?_
  refine gX_i0 (v := 6) hk hin10 (List.mem_cons_of_mem _ (List.mem_append_left _ (List.mem_of_getElem? (i := 0) rfl))) dX10_addFour_31 rfl ?_
  refine g_iload_n hk dX10_addFour_34 rfl ?_
  refine g_iload_n hk dX10_addFour_35 rfl ?_
  refine g_iushr hk dX10_addFour_36 rfl ?_
  refine g_topi (fun y707 ey707 => ?_)
  refine g_sipush (v := 255) hk dX10_addFour_37 (by decide) ?_
  refine g_iand hk dX10_addFour_40 ?_
  refine g_topi (fun y708 ey708 => ?_)
  refine sX_0 (j := 6) hk (vp_in_iff.mpr ⟨by decide, by decide⟩) (by decide) dX10_addFour_41 ?_
  refine g_aload_n hk dX10_addFour_42 rfl ?_
  refine g_dup hk dX10_addFour_43 rfl ?_
  refine gX_i0 (v := 6) hk hin10 (List.mem_cons_of_mem _ (List.mem_append_left _ (List.mem_of_getElem? (i := 0) rfl))) dX10_addFour_44 rfl ?_
  refine g_iconst (v := 1) hk dX10_addFour_47 (by decide) ?_
  refine g_iadd hk dX10_addFour_48 ?_
  refine g_norm (v := 7) (by decide) ?_
  refine pX_i0 hk hin10 (List.mem_cons_of_mem _ (List.mem_append_left _ (List.mem_of_getElem? (i := 0) rfl))) dX10_addFour_49 ?_
  refine g_iinc (v := 0) (lv' := [(2, .int 0), (0, .ref (q 1)), (1, .int a702)]) hk 0 dX10_addFour_52 rfl (by decide) (by decide) rfl ?_
  refine g_goto (tgt := 3) hk dX10_addFour_55 (by decide) ?_
  refine g_iload_n hk dX10_addFour_3 rfl ?_
  refine g_if_lt (tgt := 58) (a := 0) hk dX10_addFour_4 (by decide) rfl (fun z9 => absurd z9 (show ¬ ((0 : Int) < (0 : Int)) from by decide)) (fun _ => ?_)
  refine g_aload_n hk dX10_addFour_7 rfl ?_
  refine gX_i0 (v := 7) hk hin10 (List.mem_cons_of_mem _ (List.mem_append_left _ (List.mem_of_getElem? (i := 0) rfl))) dX10_addFour_8 rfl ?_
  refine g_if_lt (tgt := 52) (a := 7) hk dX10_addFour_11 (by decide) rfl (fun z9 => absurd z9 (show ¬ ((7 : Int) < (0 : Int)) from by decide)) (fun _ => ?_)
  refine g_aload_n hk dX10_addFour_14 rfl ?_
  refine gX_i0 (v := 7) hk hin10 (List.mem_cons_of_mem _ (List.mem_append_left _ (List.mem_of_getElem? (i := 0) rfl))) dX10_addFour_15 rfl ?_
  refine g_aload_n hk dX10_addFour_18 rfl ?_
  refine gX_r1_0 hk hin10 (List.mem_cons_of_mem _ (List.mem_append_left _ (List.mem_of_getElem? (i := 1) rfl))) dX10_addFour_19 ?_
  refine nX_0 hk dX10_addFour_22 ?_
  refine g_icmp_ge (tgt := 52) (a := 7) (b := 2000) hk dX10_addFour_23 (by decide) rfl rfl (fun z9 => absurd z9 (show ¬ ((2000 : Int) ≤ (7 : Int)) from by decide)) (fun _ => ?_)
  refine g_aload_n hk dX10_addFour_26 rfl ?_
  refine gX_r1_0 hk hin10 (List.mem_cons_of_mem _ (List.mem_append_left _ (List.mem_of_getElem? (i := 1) rfl))) dX10_addFour_27 ?_
  refine g_aload_n hk dX10_addFour_30 rfl ?_
  refine gX_i0 (v := 7) hk hin10 (List.mem_cons_of_mem _ (List.mem_append_left _ (List.mem_of_getElem? (i := 0) rfl))) dX10_addFour_31 rfl ?_
  refine g_iload_n hk dX10_addFour_34 rfl ?_
  refine g_iload_n hk dX10_addFour_35 rfl ?_
  refine g_iushr hk dX10_addFour_36 rfl ?_
  refine g_topi (fun y709 ey709 => ?_)
  refine g_sipush (v := 255) hk dX10_addFour_37 (by decide) ?_
  refine g_iand hk dX10_addFour_40 ?_
  refine g_topi (fun y710 ey710 => ?_)
  refine sX_0 (j := 7) hk (vp_in_iff.mpr ⟨by decide, by decide⟩) (by decide) dX10_addFour_41 ?_
  refine g_aload_n hk dX10_addFour_42 rfl ?_
  refine g_dup hk dX10_addFour_43 rfl ?_
  refine gX_i0 (v := 7) hk hin10 (List.mem_cons_of_mem _ (List.mem_append_left _ (List.mem_of_getElem? (i := 0) rfl))) dX10_addFour_44 rfl ?_
  refine g_iconst (v := 1) hk dX10_addFour_47 (by decide) ?_
  refine g_iadd hk dX10_addFour_48 ?_
  refine g_norm (v := 8) (by decide) ?_
  refine pX_i0 hk hin10 (List.mem_cons_of_mem _ (List.mem_append_left _ (List.mem_of_getElem? (i := 0) rfl))) dX10_addFour_49 ?_
  refine g_iinc (v := (-8)) (lv' := [(2, .int (-8)), (0, .ref (q 1)), (1, .int a702)]) hk 0 dX10_addFour_52 rfl (by decide) (by decide) rfl ?_
  refine g_goto (tgt := 3) hk dX10_addFour_55 (by decide) ?_
  refine g_iload_n hk dX10_addFour_3 rfl ?_
  refine g_if_lt (tgt := 58) (a := (-8)) hk dX10_addFour_4 (by decide) rfl (fun _ => ?_) (fun z9 => absurd (show ((-8) : Int) < (0 : Int) from by decide) z9)
  exact g_vret hk hR ⟨y704, y706, y708, y710, rfl, rfl⟩ dX10_addFour_58
def wo_m207_X10_addFour : List Cond := [Cond.fieldLink RX10 15 "WarpDesk$Tape" "size" "I", Cond.fieldLink RX10 9 "WarpDesk$Tape" "bytes" "[I"]
def wz_m207_X10_addFour : List Cond := .code yX10_addFour cX10_addFour 3 none :: (wo_m207_X10_addFour ++ (wsX100 ++ ([] : List Cond)))
theorem zg_m207_X10_addFour : ∀ w ∈ wz_m207_X10_addFour, goodWord w = true := zg_cons rfl (zg_app (by decide +kernel) (zg_app zgU_wsX100 zg_nil))
theorem zi_m207_X10_addFour : ∀ w ∈ wz_m207_X10_addFour, w ∈ lw_tbl := zi_cons zw_525 (zi_app (zi_cons zw_137 (zi_cons zw_135 zi_nil)) (zi_app inX10 zi_nil))
set_option maxHeartbeats 4000000 in
set_option maxRecDepth 100000 in
theorem m207_X10_addFour (l : Launch) (D : va_G) (zt : Nat × Nat × Nat) (d : Nat → ClassId) (q : Nat → Nat) (y698 : Int32) (y699 : Int32) (y700 : Int32) (y701 : Int32) (y711 : Int32) (y712 : Int32) (y713 : Int32) (y714 : Int32) (a715 : Int32) : GM l D zt (tyX d) yX10_addFour wz_m207_X10_addFour ({ frames := 0, cells := 0, slots := 0, locals := 0 } : Room) [.ref (q 1), .int a715] (wX q d (upd (upd (upd (upd (upd (upd (upd (upd iX0 0 1) 0 2) 0 3) 0 4) 0 5) 0 6) 0 7) 0 8) (up3 (up3 (up3 (up3 (up3 (up3 (up3 (up3 aX0 0 0 y698) 0 1 y699) 0 2 y700) 0 3 y701) 0 4 y711) 0 5 y712) 0 6 y713) 0 7 y714)) (fun v _ w' => ∃ (y717 : Int32), ∃ (y719 : Int32), ∃ (y721 : Int32), ∃ (y723 : Int32), v = none ∧ w' = wX q d (upd (upd (upd (upd (upd (upd (upd (upd (upd (upd (upd (upd iX0 0 1) 0 2) 0 3) 0 4) 0 5) 0 6) 0 7) 0 8) 0 9) 0 10) 0 11) 0 12) (up3 (up3 (up3 (up3 (up3 (up3 (up3 (up3 (up3 (up3 (up3 (up3 aX0 0 0 y698) 0 1 y699) 0 2 y700) 0 3 y701) 0 4 y711) 0 5 y712) 0 6 y713) 0 7 y714) 0 8 y717) 0 9 y719) 0 10 y721) 0 11 y723)) 0 0 := by
  refine GM.of (cc := cX10_addFour) (maxL := 3) (ret := none) (own := RX10) (lv := [(0, .ref (q 1)), (1, .int a715)]) (by decide) rfl rfl (Nat.le_of_ble_eq_true rfl) rfl (fun κ sz hk hR hN => ?_)
  have hin10 : ∀ w ∈ u_ws RX10 TX10 7, w ∈ wz_m207_X10_addFour := fun w h => (List.mem_cons_of_mem _ (List.mem_append_right _ (List.mem_append_left _ h)))
  refine g_bipush (v := 24) hk dX10_addFour_0 (by decide) ?_
  refine g_istore_n (lv' := [(2, .int 24), (0, .ref (q 1)), (1, .int a715)]) hk dX10_addFour_2 (by decide) rfl ?_
  refine g_iload_n hk dX10_addFour_3 rfl ?_
  refine g_if_lt (tgt := 58) (a := 24) hk dX10_addFour_4 (by decide) rfl (fun z9 => absurd z9 (show ¬ ((24 : Int) < (0 : Int)) from by decide)) (fun _ => ?_)
  refine g_aload_n hk dX10_addFour_7 rfl ?_
  refine gX_i0 (v := 8) hk hin10 (List.mem_cons_of_mem _ (List.mem_append_left _ (List.mem_of_getElem? (i := 0) rfl))) dX10_addFour_8 rfl ?_
  refine g_if_lt (tgt := 52) (a := 8) hk dX10_addFour_11 (by decide) rfl (fun z9 => absurd z9 (show ¬ ((8 : Int) < (0 : Int)) from by decide)) (fun _ => ?_)
  refine g_aload_n hk dX10_addFour_14 rfl ?_
  refine gX_i0 (v := 8) hk hin10 (List.mem_cons_of_mem _ (List.mem_append_left _ (List.mem_of_getElem? (i := 0) rfl))) dX10_addFour_15 rfl ?_
  refine g_aload_n hk dX10_addFour_18 rfl ?_
  refine gX_r1_0 hk hin10 (List.mem_cons_of_mem _ (List.mem_append_left _ (List.mem_of_getElem? (i := 1) rfl))) dX10_addFour_19 ?_
  refine nX_0 hk dX10_addFour_22 ?_
  refine g_icmp_ge (tgt := 52) (a := 8) (b := 2000) hk dX10_addFour_23 (by decide) rfl rfl (fun z9 => absurd z9 (show ¬ ((2000 : Int) ≤ (8 : Int)) from by decide)) (fun _ => ?_)
  refine g_aload_n hk dX10_addFour_26 rfl ?_
  refine gX_r1_0 hk hin10 (List.mem_cons_of_mem _ (List.mem_append_left _ (List.mem_of_getElem? (i := 1) rfl))) dX10_addFour_27 ?_
  refine g_aload_n hk dX10_addFour_30 rfl ?_
  refine gX_i0 (v := 8) hk hin10 (List.mem_cons_of_mem _ (List.mem_append_left _ (List.mem_of_getElem? (i := 0) rfl))) dX10_addFour_31 rfl ?_
  refine g_iload_n hk dX10_addFour_34 rfl ?_
  refine g_iload_n hk dX10_addFour_35 rfl ?_
  refine g_iushr hk dX10_addFour_36 rfl ?_
  refine g_topi (fun y716 ey716 => ?_)
  refine g_sipush (v := 255) hk dX10_addFour_37 (by decide) ?_
  refine g_iand hk dX10_addFour_40 ?_
  refine g_topi (fun y717 ey717 => ?_)
  refine sX_0 (j := 8) hk (vp_in_iff.mpr ⟨by decide, by decide⟩) (by decide) dX10_addFour_41 ?_
  refine g_aload_n hk dX10_addFour_42 rfl ?_
  refine g_dup hk dX10_addFour_43 rfl ?_
  refine gX_i0 (v := 8) hk hin10 (List.mem_cons_of_mem _ (List.mem_append_left _ (List.mem_of_getElem? (i := 0) rfl))) dX10_addFour_44 rfl ?_
  refine g_iconst (v := 1) hk dX10_addFour_47 (by decide) ?_
  refine g_iadd hk dX10_addFour_48 ?_
  refine g_norm (v := 9) (by decide) ?_
  refine pX_i0 hk hin10 (List.mem_cons_of_mem _ (List.mem_append_left _ (List.mem_of_getElem? (i := 0) rfl))) dX10_addFour_49 ?_
  refine g_iinc (v := 16) (lv' := [(2, .int 16), (0, .ref (q 1)), (1, .int a715)]) hk 0 dX10_addFour_52 rfl (by decide) (by decide) rfl ?_
  refine g_goto (tgt := 3) hk dX10_addFour_55 (by decide) ?_
  refine g_iload_n hk dX10_addFour_3 rfl ?_
  refine g_if_lt (tgt := 58) (a := 16) hk dX10_addFour_4 (by decide) rfl (fun z9 => absurd z9 (show ¬ ((16 : Int) < (0 : Int)) from by decide)) (fun _ => ?_)
  refine g_aload_n hk dX10_addFour_7 rfl ?_
  refine gX_i0 (v := 9) hk hin10 (List.mem_cons_of_mem _ (List.mem_append_left _ (List.mem_of_getElem? (i := 0) rfl))) dX10_addFour_8 rfl ?_
  refine g_if_lt (tgt := 52) (a := 9) hk dX10_addFour_11 (by decide) rfl (fun z9 => absurd z9 (show ¬ ((9 : Int) < (0 : Int)) from by decide)) (fun _ => ?_)
  refine g_aload_n hk dX10_addFour_14 rfl ?_
  refine gX_i0 (v := 9) hk hin10 (List.mem_cons_of_mem _ (List.mem_append_left _ (List.mem_of_getElem? (i := 0) rfl))) dX10_addFour_15 rfl ?_
  refine g_aload_n hk dX10_addFour_18 rfl ?_
  refine gX_r1_0 hk hin10 (List.mem_cons_of_mem _ (List.mem_append_left _ (List.mem_of_getElem? (i := 1) rfl))) dX10_addFour_19 ?_
  refine nX_0 hk dX10_addFour_22 ?_
  refine g_icmp_ge (tgt := 52) (a := 9) (b := 2000) hk dX10_addFour_23 (by decide) rfl rfl (fun z9 => absurd z9 (show ¬ ((2000 : Int) ≤ (9 : Int)) from by decide)) (fun _ => ?_)
  refine g_aload_n hk dX10_addFour_26 rfl ?_
  refine gX_r1_0 hk hin10 (List.mem_cons_of_mem _ (List.mem_append_left _ (List.mem_of_getElem? (i := 1) rfl))) dX10_addFour_27 ?_
  refine g_aload_n hk dX10_addFour_30 rfl ?_
  refine gX_i0 (v := 9) hk hin10 (List.mem_cons_of_mem _ (List.mem_append_left _ (List.mem_of_getElem? (i := 0) rfl))) dX10_addFour_31 rfl ?_
  refine g_iload_n hk dX10_addFour_34 rfl ?_
  refine g_iload_n hk dX10_addFour_35 rfl ?_
  refine g_iushr hk dX10_addFour_36 rfl ?_
  refine g_topi (fun y718 ey718 => ?_)
  refine g_sipush (v := 255) hk dX10_addFour_37 (by decide) ?_
  refine g_iand hk dX10_addFour_40 ?_
  refine g_topi (fun y719 ey719 => ?_)
  refine sX_0 (j := 9) hk (vp_in_iff.mpr ⟨by decide, by decide⟩) (by decide) dX10_addFour_41 ?_
  refine g_aload_n hk dX10_addFour_42 rfl ?_
  refine g_dup hk dX10_addFour_43 rfl ?_
  refine gX_i0 (v := 9) hk hin10 (List.mem_cons_of_mem _ (List.mem_append_left _ (List.mem_of_getElem? (i := 0) rfl))) dX10_addFour_44 rfl ?_
  refine g_iconst (v := 1) hk dX10_addFour_47 (by decide) ?_
  refine g_iadd hk dX10_addFour_48 ?_
  refine g_norm (v := 10) (by decide) ?_
  refine pX_i0 hk hin10 (List.mem_cons_of_mem _ (List.mem_append_left _ (List.mem_of_getElem? (i := 0) rfl))) dX10_addFour_49 ?_
  refine g_iinc (v := 8) (lv' := [(2, .int 8), (0, .ref (q 1)), (1, .int a715)]) hk 0 dX10_addFour_52 rfl (by decide) (by decide) rfl ?_
  refine g_goto (tgt := 3) hk dX10_addFour_55 (by decide) ?_
  refine g_iload_n hk dX10_addFour_3 rfl ?_
  refine g_if_lt (tgt := 58) (a := 8) hk dX10_addFour_4 (by decide) rfl (fun z9 => absurd z9 (show ¬ ((8 : Int) < (0 : Int)) from by decide)) (fun _ => ?_)
  refine g_aload_n hk dX10_addFour_7 rfl ?_
  refine gX_i0 (v := 10) hk hin10 (List.mem_cons_of_mem _ (List.mem_append_left _ (List.mem_of_getElem? (i := 0) rfl))) dX10_addFour_8 rfl ?_
  refine g_if_lt (tgt := 52) (a := 10) hk dX10_addFour_11 (by decide) rfl (fun z9 => absurd z9 (show ¬ ((10 : Int) < (0 : Int)) from by decide)) (fun _ => ?_)
  refine g_aload_n hk dX10_addFour_14 rfl ?_
  refine gX_i0 (v := 10) hk hin10 (List.mem_cons_of_mem _ (List.mem_append_left _ (List.mem_of_getElem? (i := 0) rfl))) dX10_addFour_15 rfl ?_
  refine g_aload_n hk dX10_addFour_18 rfl ?_
  refine gX_r1_0 hk hin10 (List.mem_cons_of_mem _ (List.mem_append_left _ (List.mem_of_getElem? (i := 1) rfl))) dX10_addFour_19 ?_
  refine nX_0 hk dX10_addFour_22 ?_
  refine g_icmp_ge (tgt := 52) (a := 10) (b := 2000) hk dX10_addFour_23 (by decide) rfl rfl (fun z9 => absurd z9 (show ¬ ((2000 : Int) ≤ (10 : Int)) from by decide)) (fun _ => ?_)
  refine g_aload_n hk dX10_addFour_26 rfl ?_
  refine gX_r1_0 hk hin10 (List.mem_cons_of_mem _ (List.mem_append_left _ (List.mem_of_getElem? (i := 1) rfl))) dX10_addFour_27 ?_
  refine g_aload_n hk dX10_addFour_30 rfl ?_
  refine gX_i0 (v := 10) hk hin10 (List.mem_cons_of_mem _ (List.mem_append_left _ (List.mem_of_getElem? (i := 0) rfl))) dX10_addFour_31 rfl ?_
  refine g_iload_n hk dX10_addFour_34 rfl ?_
  refine g_iload_n hk dX10_addFour_35 rfl ?_
  refine g_iushr hk dX10_addFour_36 rfl ?_
  refine g_topi (fun y720 ey720 => ?_)
  refine g_sipush (v := 255) hk dX10_addFour_37 (by decide) ?_
  refine g_iand hk dX10_addFour_40 ?_
  refine g_topi (fun y721 ey721 => ?_)
  refine sX_0 (j := 10) hk (vp_in_iff.mpr ⟨by decide, by decide⟩) (by decide) dX10_addFour_41 ?_
  refine g_aload_n hk dX10_addFour_42 rfl ?_
  refine g_dup hk dX10_addFour_43 rfl ?_
  refine gX_i0 (v := 10) hk hin10 (List.mem_cons_of_mem _ (List.mem_append_left _ (List.mem_of_getElem? (i := 0) rfl))) dX10_addFour_44 rfl ?_
  refine g_iconst (v := 1) hk dX10_addFour_47 (by decide) ?_
  refine g_iadd hk dX10_addFour_48 ?_
  refine g_norm (v := 11) (by decide) ?_
  refine pX_i0 hk hin10 (List.mem_cons_of_mem _ (List.mem_append_left _ (List.mem_of_getElem? (i := 0) rfl))) dX10_addFour_49 ?_
  refine g_iinc (v := 0) (lv' := [(2, .int 0), (0, .ref (q 1)), (1, .int a715)]) hk 0 dX10_addFour_52 rfl (by decide) (by decide) rfl ?_
  refine g_goto (tgt := 3) hk dX10_addFour_55 (by decide) ?_
  refine g_iload_n hk dX10_addFour_3 rfl ?_
  refine g_if_lt (tgt := 58) (a := 0) hk dX10_addFour_4 (by decide) rfl (fun z9 => absurd z9 (show ¬ ((0 : Int) < (0 : Int)) from by decide)) (fun _ => ?_)
  refine g_aload_n hk dX10_addFour_7 rfl ?_
  refine gX_i0 (v := 11) hk hin10 (List.mem_cons_of_mem _ (List.mem_append_left _ (List.mem_of_getElem? (i := 0) rfl))) dX10_addFour_8 rfl ?_
  refine g_if_lt (tgt := 52) (a := 11) hk dX10_addFour_11 (by decide) rfl (fun z9 => absurd z9 (show ¬ ((11 : Int) < (0 : Int)) from by decide)) (fun _ => ?_)
  refine g_aload_n hk dX10_addFour_14 rfl ?_
  refine gX_i0 (v := 11) hk hin10 (List.mem_cons_of_mem _ (List.mem_append_left _ (List.mem_of_getElem? (i := 0) rfl))) dX10_addFour_15 rfl ?_
  refine g_aload_n hk dX10_addFour_18 rfl ?_
  refine gX_r1_0 hk hin10 (List.mem_cons_of_mem _ (List.mem_append_left _ (List.mem_of_getElem? (i := 1) rfl))) dX10_addFour_19 ?_
  refine nX_0 hk dX10_addFour_22 ?_
  refine g_icmp_ge (tgt := 52) (a := 11) (b := 2000) hk dX10_addFour_23 (by decide) rfl rfl (fun z9 => absurd z9 (show ¬ ((2000 : Int) ≤ (11 : Int)) from by decide)) (fun _ => ?_)
  refine g_aload_n hk dX10_addFour_26 rfl ?_
  refine gX_r1_0 hk hin10 (List.mem_cons_of_mem _ (List.mem_append_left _ (List.mem_of_getElem? (i := 1) rfl))) dX10_addFour_27 ?_
  refine g_aload_n hk dX10_addFour_30 rfl ?_
  refine gX_i0 (v := 11) hk hin10 (List.mem_cons_of_mem _ (List.mem_append_left _ (List.mem_of_getElem? (i := 0) rfl))) dX10_addFour_31 rfl ?_
  refine g_iload_n hk dX10_addFour_34 rfl ?_
  refine g_iload_n hk dX10_addFour_35 rfl ?_
  refine g_iushr hk dX10_addFour_36 rfl ?_
  refine g_topi (fun y722 ey722 => ?_)
  refine g_sipush (v := 255) hk dX10_addFour_37 (by decide) ?_
  refine g_iand hk dX10_addFour_40 ?_
  refine g_topi (fun y723 ey723 => ?_)
  refine sX_0 (j := 11) hk (vp_in_iff.mpr ⟨by decide, by decide⟩) (by decide) dX10_addFour_41 ?_
  refine g_aload_n hk dX10_addFour_42 rfl ?_
  refine g_dup hk dX10_addFour_43 rfl ?_
  refine gX_i0 (v := 11) hk hin10 (List.mem_cons_of_mem _ (List.mem_append_left _ (List.mem_of_getElem? (i := 0) rfl))) dX10_addFour_44 rfl ?_
  refine g_iconst (v := 1) hk dX10_addFour_47 (by decide) ?_
  refine g_iadd hk dX10_addFour_48 ?_
  refine g_norm (v := 12) (by decide) ?_
  refine pX_i0 hk hin10 (List.mem_cons_of_mem _ (List.mem_append_left _ (List.mem_of_getElem? (i := 0) rfl))) dX10_addFour_49 ?_
  refine g_iinc (v := (-8)) (lv' := [(2, .int (-8)), (0, .ref (q 1)), (1, .int a715)]) hk 0 dX10_addFour_52 rfl (by decide) (by decide) rfl ?_
  refine g_goto (tgt := 3) hk dX10_addFour_55 (by decide) ?_
  refine g_iload_n hk dX10_addFour_3 rfl ?_
  refine g_if_lt (tgt := 58) (a := (-8)) hk dX10_addFour_4 (by decide) rfl (fun _ => ?_) (fun z9 => absurd (show ((-8) : Int) < (0 : Int) from by decide) z9)
  exact g_vret hk hR ⟨y717, y719, y721, y723, rfl, rfl⟩ dX10_addFour_58
def wo_m208_X10_addFour : List Cond := [Cond.fieldLink RX10 15 "WarpDesk$Tape" "size" "I", Cond.fieldLink RX10 9 "WarpDesk$Tape" "bytes" "[I"]
def wz_m208_X10_addFour : List Cond := .code yX10_addFour cX10_addFour 3 none :: (wo_m208_X10_addFour ++ (wsX100 ++ ([] : List Cond)))
theorem zg_m208_X10_addFour : ∀ w ∈ wz_m208_X10_addFour, goodWord w = true := zg_cons rfl (zg_app (by decide +kernel) (zg_app zgU_wsX100 zg_nil))
theorem zi_m208_X10_addFour : ∀ w ∈ wz_m208_X10_addFour, w ∈ lw_tbl := zi_cons zw_525 (zi_app (zi_cons zw_137 (zi_cons zw_135 zi_nil)) (zi_app inX10 zi_nil))
set_option maxHeartbeats 4000000 in
set_option maxRecDepth 100000 in
theorem m208_X10_addFour (l : Launch) (D : va_G) (zt : Nat × Nat × Nat) (d : Nat → ClassId) (q : Nat → Nat) (y698 : Int32) (y699 : Int32) (y700 : Int32) (y701 : Int32) (y711 : Int32) (y712 : Int32) (y713 : Int32) (y714 : Int32) (y724 : Int32) (y725 : Int32) (y726 : Int32) (y727 : Int32) (a728 : Int32) : GM l D zt (tyX d) yX10_addFour wz_m208_X10_addFour ({ frames := 0, cells := 0, slots := 0, locals := 0 } : Room) [.ref (q 1), .int a728] (wX q d (upd (upd (upd (upd (upd (upd (upd (upd (upd (upd (upd (upd iX0 0 1) 0 2) 0 3) 0 4) 0 5) 0 6) 0 7) 0 8) 0 9) 0 10) 0 11) 0 12) (up3 (up3 (up3 (up3 (up3 (up3 (up3 (up3 (up3 (up3 (up3 (up3 aX0 0 0 y698) 0 1 y699) 0 2 y700) 0 3 y701) 0 4 y711) 0 5 y712) 0 6 y713) 0 7 y714) 0 8 y724) 0 9 y725) 0 10 y726) 0 11 y727)) (fun v _ w' => ∃ (y730 : Int32), ∃ (y732 : Int32), ∃ (y734 : Int32), ∃ (y736 : Int32), v = none ∧ w' = wX q d (upd (upd (upd (upd (upd (upd (upd (upd (upd (upd (upd (upd (upd (upd (upd (upd iX0 0 1) 0 2) 0 3) 0 4) 0 5) 0 6) 0 7) 0 8) 0 9) 0 10) 0 11) 0 12) 0 13) 0 14) 0 15) 0 16) (up3 (up3 (up3 (up3 (up3 (up3 (up3 (up3 (up3 (up3 (up3 (up3 (up3 (up3 (up3 (up3 aX0 0 0 y698) 0 1 y699) 0 2 y700) 0 3 y701) 0 4 y711) 0 5 y712) 0 6 y713) 0 7 y714) 0 8 y724) 0 9 y725) 0 10 y726) 0 11 y727) 0 12 y730) 0 13 y732) 0 14 y734) 0 15 y736)) 0 0 := by
  refine GM.of (cc := cX10_addFour) (maxL := 3) (ret := none) (own := RX10) (lv := [(0, .ref (q 1)), (1, .int a728)]) (by decide) rfl rfl (Nat.le_of_ble_eq_true rfl) rfl (fun κ sz hk hR hN => ?_)
  have hin10 : ∀ w ∈ u_ws RX10 TX10 7, w ∈ wz_m208_X10_addFour := fun w h => (List.mem_cons_of_mem _ (List.mem_append_right _ (List.mem_append_left _ h)))
  refine g_bipush (v := 24) hk dX10_addFour_0 (by decide) ?_
  refine g_istore_n (lv' := [(2, .int 24), (0, .ref (q 1)), (1, .int a728)]) hk dX10_addFour_2 (by decide) rfl ?_
  refine g_iload_n hk dX10_addFour_3 rfl ?_
  refine g_if_lt (tgt := 58) (a := 24) hk dX10_addFour_4 (by decide) rfl (fun z9 => absurd z9 (show ¬ ((24 : Int) < (0 : Int)) from by decide)) (fun _ => ?_)
  refine g_aload_n hk dX10_addFour_7 rfl ?_
  refine gX_i0 (v := 12) hk hin10 (List.mem_cons_of_mem _ (List.mem_append_left _ (List.mem_of_getElem? (i := 0) rfl))) dX10_addFour_8 rfl ?_
  refine g_if_lt (tgt := 52) (a := 12) hk dX10_addFour_11 (by decide) rfl (fun z9 => absurd z9 (show ¬ ((12 : Int) < (0 : Int)) from by decide)) (fun _ => ?_)
  refine g_aload_n hk dX10_addFour_14 rfl ?_
  refine gX_i0 (v := 12) hk hin10 (List.mem_cons_of_mem _ (List.mem_append_left _ (List.mem_of_getElem? (i := 0) rfl))) dX10_addFour_15 rfl ?_
  refine g_aload_n hk dX10_addFour_18 rfl ?_
  refine gX_r1_0 hk hin10 (List.mem_cons_of_mem _ (List.mem_append_left _ (List.mem_of_getElem? (i := 1) rfl))) dX10_addFour_19 ?_
  refine nX_0 hk dX10_addFour_22 ?_
  refine g_icmp_ge (tgt := 52) (a := 12) (b := 2000) hk dX10_addFour_23 (by decide) rfl rfl (fun z9 => absurd z9 (show ¬ ((2000 : Int) ≤ (12 : Int)) from by decide)) (fun _ => ?_)
  refine g_aload_n hk dX10_addFour_26 rfl ?_
  refine gX_r1_0 hk hin10 (List.mem_cons_of_mem _ (List.mem_append_left _ (List.mem_of_getElem? (i := 1) rfl))) dX10_addFour_27 ?_
  refine g_aload_n hk dX10_addFour_30 rfl ?_
  refine gX_i0 (v := 12) hk hin10 (List.mem_cons_of_mem _ (List.mem_append_left _ (List.mem_of_getElem? (i := 0) rfl))) dX10_addFour_31 rfl ?_
  refine g_iload_n hk dX10_addFour_34 rfl ?_
  refine g_iload_n hk dX10_addFour_35 rfl ?_
  refine g_iushr hk dX10_addFour_36 rfl ?_
  refine g_topi (fun y729 ey729 => ?_)
  refine g_sipush (v := 255) hk dX10_addFour_37 (by decide) ?_
  refine g_iand hk dX10_addFour_40 ?_
  refine g_topi (fun y730 ey730 => ?_)
  refine sX_0 (j := 12) hk (vp_in_iff.mpr ⟨by decide, by decide⟩) (by decide) dX10_addFour_41 ?_
  refine g_aload_n hk dX10_addFour_42 rfl ?_
  refine g_dup hk dX10_addFour_43 rfl ?_
  refine gX_i0 (v := 12) hk hin10 (List.mem_cons_of_mem _ (List.mem_append_left _ (List.mem_of_getElem? (i := 0) rfl))) dX10_addFour_44 rfl ?_
  refine g_iconst (v := 1) hk dX10_addFour_47 (by decide) ?_
  refine g_iadd hk dX10_addFour_48 ?_
  refine g_norm (v := 13) (by decide) ?_
  refine pX_i0 hk hin10 (List.mem_cons_of_mem _ (List.mem_append_left _ (List.mem_of_getElem? (i := 0) rfl))) dX10_addFour_49 ?_
  refine g_iinc (v := 16) (lv' := [(2, .int 16), (0, .ref (q 1)), (1, .int a728)]) hk 0 dX10_addFour_52 rfl (by decide) (by decide) rfl ?_
  refine g_goto (tgt := 3) hk dX10_addFour_55 (by decide) ?_
  refine g_iload_n hk dX10_addFour_3 rfl ?_
  refine g_if_lt (tgt := 58) (a := 16) hk dX10_addFour_4 (by decide) rfl (fun z9 => absurd z9 (show ¬ ((16 : Int) < (0 : Int)) from by decide)) (fun _ => ?_)
  refine g_aload_n hk dX10_addFour_7 rfl ?_
  refine gX_i0 (v := 13) hk hin10 (List.mem_cons_of_mem _ (List.mem_append_left _ (List.mem_of_getElem? (i := 0) rfl))) dX10_addFour_8 rfl ?_
  refine g_if_lt (tgt := 52) (a := 13) hk dX10_addFour_11 (by decide) rfl (fun z9 => absurd z9 (show ¬ ((13 : Int) < (0 : Int)) from by decide)) (fun _ => ?_)
  refine g_aload_n hk dX10_addFour_14 rfl ?_
  refine gX_i0 (v := 13) hk hin10 (List.mem_cons_of_mem _ (List.mem_append_left _ (List.mem_of_getElem? (i := 0) rfl))) dX10_addFour_15 rfl ?_
  refine g_aload_n hk dX10_addFour_18 rfl ?_
  refine gX_r1_0 hk hin10 (List.mem_cons_of_mem _ (List.mem_append_left _ (List.mem_of_getElem? (i := 1) rfl))) dX10_addFour_19 ?_
  refine nX_0 hk dX10_addFour_22 ?_
  refine g_icmp_ge (tgt := 52) (a := 13) (b := 2000) hk dX10_addFour_23 (by decide) rfl rfl (fun z9 => absurd z9 (show ¬ ((2000 : Int) ≤ (13 : Int)) from by decide)) (fun _ => ?_)
  refine g_aload_n hk dX10_addFour_26 rfl ?_
  refine gX_r1_0 hk hin10 (List.mem_cons_of_mem _ (List.mem_append_left _ (List.mem_of_getElem? (i := 1) rfl))) dX10_addFour_27 ?_
  refine g_aload_n hk dX10_addFour_30 rfl ?_
  refine gX_i0 (v := 13) hk hin10 (List.mem_cons_of_mem _ (List.mem_append_left _ (List.mem_of_getElem? (i := 0) rfl))) dX10_addFour_31 rfl ?_
  refine g_iload_n hk dX10_addFour_34 rfl ?_
  refine g_iload_n hk dX10_addFour_35 rfl ?_
  refine g_iushr hk dX10_addFour_36 rfl ?_
  refine g_topi (fun y731 ey731 => ?_)
  refine g_sipush (v := 255) hk dX10_addFour_37 (by decide) ?_
  refine g_iand hk dX10_addFour_40 ?_
  refine g_topi (fun y732 ey732 => ?_)
  refine sX_0 (j := 13) hk (vp_in_iff.mpr ⟨by decide, by decide⟩) (by decide) dX10_addFour_41 ?_
  refine g_aload_n hk dX10_addFour_42 rfl ?_
  refine g_dup hk dX10_addFour_43 rfl ?_
  refine gX_i0 (v := 13) hk hin10 (List.mem_cons_of_mem _ (List.mem_append_left _ (List.mem_of_getElem? (i := 0) rfl))) dX10_addFour_44 rfl ?_
  refine g_iconst (v := 1) hk dX10_addFour_47 (by decide) ?_
  refine g_iadd hk dX10_addFour_48 ?_
  refine g_norm (v := 14) (by decide) ?_
  refine pX_i0 hk hin10 (List.mem_cons_of_mem _ (List.mem_append_left _ (List.mem_of_getElem? (i := 0) rfl))) dX10_addFour_49 ?_
  refine g_iinc (v := 8) (lv' := [(2, .int 8), (0, .ref (q 1)), (1, .int a728)]) hk 0 dX10_addFour_52 rfl (by decide) (by decide) rfl ?_
  refine g_goto (tgt := 3) hk dX10_addFour_55 (by decide) ?_
  refine g_iload_n hk dX10_addFour_3 rfl ?_
  refine g_if_lt (tgt := 58) (a := 8) hk dX10_addFour_4 (by decide) rfl (fun z9 => absurd z9 (show ¬ ((8 : Int) < (0 : Int)) from by decide)) (fun _ => ?_)
  refine g_aload_n hk dX10_addFour_7 rfl ?_
  refine gX_i0 (v := 14) hk hin10 (List.mem_cons_of_mem _ (List.mem_append_left _ (List.mem_of_getElem? (i := 0) rfl))) dX10_addFour_8 rfl ?_
  refine g_if_lt (tgt := 52) (a := 14) hk dX10_addFour_11 (by decide) rfl (fun z9 => absurd z9 (show ¬ ((14 : Int) < (0 : Int)) from by decide)) (fun _ => ?_)
  refine g_aload_n hk dX10_addFour_14 rfl ?_
  refine gX_i0 (v := 14) hk hin10 (List.mem_cons_of_mem _ (List.mem_append_left _ (List.mem_of_getElem? (i := 0) rfl))) dX10_addFour_15 rfl ?_
  refine g_aload_n hk dX10_addFour_18 rfl ?_
  refine gX_r1_0 hk hin10 (List.mem_cons_of_mem _ (List.mem_append_left _ (List.mem_of_getElem? (i := 1) rfl))) dX10_addFour_19 ?_
  refine nX_0 hk dX10_addFour_22 ?_
  refine g_icmp_ge (tgt := 52) (a := 14) (b := 2000) hk dX10_addFour_23 (by decide) rfl rfl (fun z9 => absurd z9 (show ¬ ((2000 : Int) ≤ (14 : Int)) from by decide)) (fun _ => ?_)
  refine g_aload_n hk dX10_addFour_26 rfl ?_
  refine gX_r1_0 hk hin10 (List.mem_cons_of_mem _ (List.mem_append_left _ (List.mem_of_getElem? (i := 1) rfl))) dX10_addFour_27 ?_
  refine g_aload_n hk dX10_addFour_30 rfl ?_
  refine gX_i0 (v := 14) hk hin10 (List.mem_cons_of_mem _ (List.mem_append_left _ (List.mem_of_getElem? (i := 0) rfl))) dX10_addFour_31 rfl ?_
  refine g_iload_n hk dX10_addFour_34 rfl ?_
  refine g_iload_n hk dX10_addFour_35 rfl ?_
  refine g_iushr hk dX10_addFour_36 rfl ?_
  refine g_topi (fun y733 ey733 => ?_)
  refine g_sipush (v := 255) hk dX10_addFour_37 (by decide) ?_
  refine g_iand hk dX10_addFour_40 ?_
  refine g_topi (fun y734 ey734 => ?_)
  refine sX_0 (j := 14) hk (vp_in_iff.mpr ⟨by decide, by decide⟩) (by decide) dX10_addFour_41 ?_
  refine g_aload_n hk dX10_addFour_42 rfl ?_
  refine g_dup hk dX10_addFour_43 rfl ?_
  refine gX_i0 (v := 14) hk hin10 (List.mem_cons_of_mem _ (List.mem_append_left _ (List.mem_of_getElem? (i := 0) rfl))) dX10_addFour_44 rfl ?_
  refine g_iconst (v := 1) hk dX10_addFour_47 (by decide) ?_
  refine g_iadd hk dX10_addFour_48 ?_
  refine g_norm (v := 15) (by decide) ?_
  refine pX_i0 hk hin10 (List.mem_cons_of_mem _ (List.mem_append_left _ (List.mem_of_getElem? (i := 0) rfl))) dX10_addFour_49 ?_
  refine g_iinc (v := 0) (lv' := [(2, .int 0), (0, .ref (q 1)), (1, .int a728)]) hk 0 dX10_addFour_52 rfl (by decide) (by decide) rfl ?_
  refine g_goto (tgt := 3) hk dX10_addFour_55 (by decide) ?_
  refine g_iload_n hk dX10_addFour_3 rfl ?_
  refine g_if_lt (tgt := 58) (a := 0) hk dX10_addFour_4 (by decide) rfl (fun z9 => absurd z9 (show ¬ ((0 : Int) < (0 : Int)) from by decide)) (fun _ => ?_)
  refine g_aload_n hk dX10_addFour_7 rfl ?_
  refine gX_i0 (v := 15) hk hin10 (List.mem_cons_of_mem _ (List.mem_append_left _ (List.mem_of_getElem? (i := 0) rfl))) dX10_addFour_8 rfl ?_
  refine g_if_lt (tgt := 52) (a := 15) hk dX10_addFour_11 (by decide) rfl (fun z9 => absurd z9 (show ¬ ((15 : Int) < (0 : Int)) from by decide)) (fun _ => ?_)
  refine g_aload_n hk dX10_addFour_14 rfl ?_
  refine gX_i0 (v := 15) hk hin10 (List.mem_cons_of_mem _ (List.mem_append_left _ (List.mem_of_getElem? (i := 0) rfl))) dX10_addFour_15 rfl ?_
  refine g_aload_n hk dX10_addFour_18 rfl ?_
  refine gX_r1_0 hk hin10 (List.mem_cons_of_mem _ (List.mem_append_left _ (List.mem_of_getElem? (i := 1) rfl))) dX10_addFour_19 ?_
  refine nX_0 hk dX10_addFour_22 ?_
  refine g_icmp_ge (tgt := 52) (a := 15) (b := 2000) hk dX10_addFour_23 (by decide) rfl rfl (fun z9 => absurd z9 (show ¬ ((2000 : Int) ≤ (15 : Int)) from by decide)) (fun _ => ?_)
  refine g_aload_n hk dX10_addFour_26 rfl ?_
  refine gX_r1_0 hk hin10 (List.mem_cons_of_mem _ (List.mem_append_left _ (List.mem_of_getElem? (i := 1) rfl))) dX10_addFour_27 ?_
  refine g_aload_n hk dX10_addFour_30 rfl ?_
  refine gX_i0 (v := 15) hk hin10 (List.mem_cons_of_mem _ (List.mem_append_left _ (List.mem_of_getElem? (i := 0) rfl))) dX10_addFour_31 rfl ?_
  refine g_iload_n hk dX10_addFour_34 rfl ?_
  refine g_iload_n hk dX10_addFour_35 rfl ?_
  refine g_iushr hk dX10_addFour_36 rfl ?_
  refine g_topi (fun y735 ey735 => ?_)
  refine g_sipush (v := 255) hk dX10_addFour_37 (by decide) ?_
  refine g_iand hk dX10_addFour_40 ?_
  refine g_topi (fun y736 ey736 => ?_)
  refine sX_0 (j := 15) hk (vp_in_iff.mpr ⟨by decide, by decide⟩) (by decide) dX10_addFour_41 ?_
  refine g_aload_n hk dX10_addFour_42 rfl ?_
  refine g_dup hk dX10_addFour_43 rfl ?_
  refine gX_i0 (v := 15) hk hin10 (List.mem_cons_of_mem _ (List.mem_append_left _ (List.mem_of_getElem? (i := 0) rfl))) dX10_addFour_44 rfl ?_
  refine g_iconst (v := 1) hk dX10_addFour_47 (by decide) ?_
  refine g_iadd hk dX10_addFour_48 ?_
  refine g_norm (v := 16) (by decide) ?_
  refine pX_i0 hk hin10 (List.mem_cons_of_mem _ (List.mem_append_left _ (List.mem_of_getElem? (i := 0) rfl))) dX10_addFour_49 ?_
  refine g_iinc (v := (-8)) (lv' := [(2, .int (-8)), (0, .ref (q 1)), (1, .int a728)]) hk 0 dX10_addFour_52 rfl (by decide) (by decide) rfl ?_
  refine g_goto (tgt := 3) hk dX10_addFour_55 (by decide) ?_
  refine g_iload_n hk dX10_addFour_3 rfl ?_
  refine g_if_lt (tgt := 58) (a := (-8)) hk dX10_addFour_4 (by decide) rfl (fun _ => ?_) (fun z9 => absurd (show ((-8) : Int) < (0 : Int) from by decide) z9)
  exact g_vret hk hR ⟨y730, y732, y734, y736, rfl, rfl⟩ dX10_addFour_58
def wo_m209_X10_addFour : List Cond := [Cond.fieldLink RX10 15 "WarpDesk$Tape" "size" "I", Cond.fieldLink RX10 9 "WarpDesk$Tape" "bytes" "[I"]
def wz_m209_X10_addFour : List Cond := .code yX10_addFour cX10_addFour 3 none :: (wo_m209_X10_addFour ++ (wsX100 ++ ([] : List Cond)))
theorem zg_m209_X10_addFour : ∀ w ∈ wz_m209_X10_addFour, goodWord w = true := zg_cons rfl (zg_app (by decide +kernel) (zg_app zgU_wsX100 zg_nil))
theorem zi_m209_X10_addFour : ∀ w ∈ wz_m209_X10_addFour, w ∈ lw_tbl := zi_cons zw_525 (zi_app (zi_cons zw_137 (zi_cons zw_135 zi_nil)) (zi_app inX10 zi_nil))
set_option maxHeartbeats 4000000 in
set_option maxRecDepth 100000 in
theorem m209_X10_addFour (l : Launch) (D : va_G) (zt : Nat × Nat × Nat) (d : Nat → ClassId) (q : Nat → Nat) (y698 : Int32) (y699 : Int32) (y700 : Int32) (y701 : Int32) (y711 : Int32) (y712 : Int32) (y713 : Int32) (y714 : Int32) (y724 : Int32) (y725 : Int32) (y726 : Int32) (y727 : Int32) (y737 : Int32) (y738 : Int32) (y739 : Int32) (y740 : Int32) (a741 : Int32) : GM l D zt (tyX d) yX10_addFour wz_m209_X10_addFour ({ frames := 0, cells := 0, slots := 0, locals := 0 } : Room) [.ref (q 1), .int a741] (wX q d (upd (upd (upd (upd (upd (upd (upd (upd (upd (upd (upd (upd (upd (upd (upd (upd iX0 0 1) 0 2) 0 3) 0 4) 0 5) 0 6) 0 7) 0 8) 0 9) 0 10) 0 11) 0 12) 0 13) 0 14) 0 15) 0 16) (up3 (up3 (up3 (up3 (up3 (up3 (up3 (up3 (up3 (up3 (up3 (up3 (up3 (up3 (up3 (up3 aX0 0 0 y698) 0 1 y699) 0 2 y700) 0 3 y701) 0 4 y711) 0 5 y712) 0 6 y713) 0 7 y714) 0 8 y724) 0 9 y725) 0 10 y726) 0 11 y727) 0 12 y737) 0 13 y738) 0 14 y739) 0 15 y740)) (fun v _ w' => ∃ (y743 : Int32), ∃ (y745 : Int32), ∃ (y747 : Int32), ∃ (y749 : Int32), v = none ∧ w' = wX q d (upd (upd (upd (upd (upd (upd (upd (upd (upd (upd (upd (upd (upd (upd (upd (upd (upd (upd (upd (upd iX0 0 1) 0 2) 0 3) 0 4) 0 5) 0 6) 0 7) 0 8) 0 9) 0 10) 0 11) 0 12) 0 13) 0 14) 0 15) 0 16) 0 17) 0 18) 0 19) 0 20) (up3 (up3 (up3 (up3 (up3 (up3 (up3 (up3 (up3 (up3 (up3 (up3 (up3 (up3 (up3 (up3 (up3 (up3 (up3 (up3 aX0 0 0 y698) 0 1 y699) 0 2 y700) 0 3 y701) 0 4 y711) 0 5 y712) 0 6 y713) 0 7 y714) 0 8 y724) 0 9 y725) 0 10 y726) 0 11 y727) 0 12 y737) 0 13 y738) 0 14 y739) 0 15 y740) 0 16 y743) 0 17 y745) 0 18 y747) 0 19 y749)) 0 0 := by
  refine GM.of (cc := cX10_addFour) (maxL := 3) (ret := none) (own := RX10) (lv := [(0, .ref (q 1)), (1, .int a741)]) (by decide) rfl rfl (Nat.le_of_ble_eq_true rfl) rfl (fun κ sz hk hR hN => ?_)
  have hin10 : ∀ w ∈ u_ws RX10 TX10 7, w ∈ wz_m209_X10_addFour := fun w h => (List.mem_cons_of_mem _ (List.mem_append_right _ (List.mem_append_left _ h)))
  refine g_bipush (v := 24) hk dX10_addFour_0 (by decide) ?_
  refine g_istore_n (lv' := [(2, .int 24), (0, .ref (q 1)), (1, .int a741)]) hk dX10_addFour_2 (by decide) rfl ?_
  refine g_iload_n hk dX10_addFour_3 rfl ?_
  refine g_if_lt (tgt := 58) (a := 24) hk dX10_addFour_4 (by decide) rfl (fun z9 => absurd z9 (show ¬ ((24 : Int) < (0 : Int)) from by decide)) (fun _ => ?_)
  refine g_aload_n hk dX10_addFour_7 rfl ?_
  refine gX_i0 (v := 16) hk hin10 (List.mem_cons_of_mem _ (List.mem_append_left _ (List.mem_of_getElem? (i := 0) rfl))) dX10_addFour_8 rfl ?_
  refine g_if_lt (tgt := 52) (a := 16) hk dX10_addFour_11 (by decide) rfl (fun z9 => absurd z9 (show ¬ ((16 : Int) < (0 : Int)) from by decide)) (fun _ => ?_)
  refine g_aload_n hk dX10_addFour_14 rfl ?_
  refine gX_i0 (v := 16) hk hin10 (List.mem_cons_of_mem _ (List.mem_append_left _ (List.mem_of_getElem? (i := 0) rfl))) dX10_addFour_15 rfl ?_
  refine g_aload_n hk dX10_addFour_18 rfl ?_
  refine gX_r1_0 hk hin10 (List.mem_cons_of_mem _ (List.mem_append_left _ (List.mem_of_getElem? (i := 1) rfl))) dX10_addFour_19 ?_
  refine nX_0 hk dX10_addFour_22 ?_
  refine g_icmp_ge (tgt := 52) (a := 16) (b := 2000) hk dX10_addFour_23 (by decide) rfl rfl (fun z9 => absurd z9 (show ¬ ((2000 : Int) ≤ (16 : Int)) from by decide)) (fun _ => ?_)
  refine g_aload_n hk dX10_addFour_26 rfl ?_
  refine gX_r1_0 hk hin10 (List.mem_cons_of_mem _ (List.mem_append_left _ (List.mem_of_getElem? (i := 1) rfl))) dX10_addFour_27 ?_
  refine g_aload_n hk dX10_addFour_30 rfl ?_
  refine gX_i0 (v := 16) hk hin10 (List.mem_cons_of_mem _ (List.mem_append_left _ (List.mem_of_getElem? (i := 0) rfl))) dX10_addFour_31 rfl ?_
  refine g_iload_n hk dX10_addFour_34 rfl ?_
  refine g_iload_n hk dX10_addFour_35 rfl ?_
  refine g_iushr hk dX10_addFour_36 rfl ?_
  refine g_topi (fun y742 ey742 => ?_)
  refine g_sipush (v := 255) hk dX10_addFour_37 (by decide) ?_
  refine g_iand hk dX10_addFour_40 ?_
  refine g_topi (fun y743 ey743 => ?_)
  refine sX_0 (j := 16) hk (vp_in_iff.mpr ⟨by decide, by decide⟩) (by decide) dX10_addFour_41 ?_
  refine g_aload_n hk dX10_addFour_42 rfl ?_
  refine g_dup hk dX10_addFour_43 rfl ?_
  refine gX_i0 (v := 16) hk hin10 (List.mem_cons_of_mem _ (List.mem_append_left _ (List.mem_of_getElem? (i := 0) rfl))) dX10_addFour_44 rfl ?_
  refine g_iconst (v := 1) hk dX10_addFour_47 (by decide) ?_
  refine g_iadd hk dX10_addFour_48 ?_
  refine g_norm (v := 17) (by decide) ?_
  refine pX_i0 hk hin10 (List.mem_cons_of_mem _ (List.mem_append_left _ (List.mem_of_getElem? (i := 0) rfl))) dX10_addFour_49 ?_
  refine g_iinc (v := 16) (lv' := [(2, .int 16), (0, .ref (q 1)), (1, .int a741)]) hk 0 dX10_addFour_52 rfl (by decide) (by decide) rfl ?_
  refine g_goto (tgt := 3) hk dX10_addFour_55 (by decide) ?_
  refine g_iload_n hk dX10_addFour_3 rfl ?_
  refine g_if_lt (tgt := 58) (a := 16) hk dX10_addFour_4 (by decide) rfl (fun z9 => absurd z9 (show ¬ ((16 : Int) < (0 : Int)) from by decide)) (fun _ => ?_)
  refine g_aload_n hk dX10_addFour_7 rfl ?_
  refine gX_i0 (v := 17) hk hin10 (List.mem_cons_of_mem _ (List.mem_append_left _ (List.mem_of_getElem? (i := 0) rfl))) dX10_addFour_8 rfl ?_
  refine g_if_lt (tgt := 52) (a := 17) hk dX10_addFour_11 (by decide) rfl (fun z9 => absurd z9 (show ¬ ((17 : Int) < (0 : Int)) from by decide)) (fun _ => ?_)
  refine g_aload_n hk dX10_addFour_14 rfl ?_
  refine gX_i0 (v := 17) hk hin10 (List.mem_cons_of_mem _ (List.mem_append_left _ (List.mem_of_getElem? (i := 0) rfl))) dX10_addFour_15 rfl ?_
  refine g_aload_n hk dX10_addFour_18 rfl ?_
  refine gX_r1_0 hk hin10 (List.mem_cons_of_mem _ (List.mem_append_left _ (List.mem_of_getElem? (i := 1) rfl))) dX10_addFour_19 ?_
  refine nX_0 hk dX10_addFour_22 ?_
  refine g_icmp_ge (tgt := 52) (a := 17) (b := 2000) hk dX10_addFour_23 (by decide) rfl rfl (fun z9 => absurd z9 (show ¬ ((2000 : Int) ≤ (17 : Int)) from by decide)) (fun _ => ?_)
  refine g_aload_n hk dX10_addFour_26 rfl ?_
  refine gX_r1_0 hk hin10 (List.mem_cons_of_mem _ (List.mem_append_left _ (List.mem_of_getElem? (i := 1) rfl))) dX10_addFour_27 ?_
  refine g_aload_n hk dX10_addFour_30 rfl ?_
  refine gX_i0 (v := 17) hk hin10 (List.mem_cons_of_mem _ (List.mem_append_left _ (List.mem_of_getElem? (i := 0) rfl))) dX10_addFour_31 rfl ?_
  refine g_iload_n hk dX10_addFour_34 rfl ?_
  refine g_iload_n hk dX10_addFour_35 rfl ?_
  refine g_iushr hk dX10_addFour_36 rfl ?_
  refine g_topi (fun y744 ey744 => ?_)
  refine g_sipush (v := 255) hk dX10_addFour_37 (by decide) ?_
  refine g_iand hk dX10_addFour_40 ?_
  refine g_topi (fun y745 ey745 => ?_)
  refine sX_0 (j := 17) hk (vp_in_iff.mpr ⟨by decide, by decide⟩) (by decide) dX10_addFour_41 ?_
  refine g_aload_n hk dX10_addFour_42 rfl ?_
  refine g_dup hk dX10_addFour_43 rfl ?_
  refine gX_i0 (v := 17) hk hin10 (List.mem_cons_of_mem _ (List.mem_append_left _ (List.mem_of_getElem? (i := 0) rfl))) dX10_addFour_44 rfl ?_
  refine g_iconst (v := 1) hk dX10_addFour_47 (by decide) ?_
  refine g_iadd hk dX10_addFour_48 ?_
  refine g_norm (v := 18) (by decide) ?_
  refine pX_i0 hk hin10 (List.mem_cons_of_mem _ (List.mem_append_left _ (List.mem_of_getElem? (i := 0) rfl))) dX10_addFour_49 ?_
  refine g_iinc (v := 8) (lv' := [(2, .int 8), (0, .ref (q 1)), (1, .int a741)]) hk 0 dX10_addFour_52 rfl (by decide) (by decide) rfl ?_
  refine g_goto (tgt := 3) hk dX10_addFour_55 (by decide) ?_
  refine g_iload_n hk dX10_addFour_3 rfl ?_
  refine g_if_lt (tgt := 58) (a := 8) hk dX10_addFour_4 (by decide) rfl (fun z9 => absurd z9 (show ¬ ((8 : Int) < (0 : Int)) from by decide)) (fun _ => ?_)
  refine g_aload_n hk dX10_addFour_7 rfl ?_
  refine gX_i0 (v := 18) hk hin10 (List.mem_cons_of_mem _ (List.mem_append_left _ (List.mem_of_getElem? (i := 0) rfl))) dX10_addFour_8 rfl ?_
  refine g_if_lt (tgt := 52) (a := 18) hk dX10_addFour_11 (by decide) rfl (fun z9 => absurd z9 (show ¬ ((18 : Int) < (0 : Int)) from by decide)) (fun _ => ?_)
  refine g_aload_n hk dX10_addFour_14 rfl ?_
  refine gX_i0 (v := 18) hk hin10 (List.mem_cons_of_mem _ (List.mem_append_left _ (List.mem_of_getElem? (i := 0) rfl))) dX10_addFour_15 rfl ?_
  refine g_aload_n hk dX10_addFour_18 rfl ?_
  refine gX_r1_0 hk hin10 (List.mem_cons_of_mem _ (List.mem_append_left _ (List.mem_of_getElem? (i := 1) rfl))) dX10_addFour_19 ?_
  refine nX_0 hk dX10_addFour_22 ?_
  refine g_icmp_ge (tgt := 52) (a := 18) (b := 2000) hk dX10_addFour_23 (by decide) rfl rfl (fun z9 => absurd z9 (show ¬ ((2000 : Int) ≤ (18 : Int)) from by decide)) (fun _ => ?_)
  refine g_aload_n hk dX10_addFour_26 rfl ?_
  refine gX_r1_0 hk hin10 (List.mem_cons_of_mem _ (List.mem_append_left _ (List.mem_of_getElem? (i := 1) rfl))) dX10_addFour_27 ?_
  refine g_aload_n hk dX10_addFour_30 rfl ?_
  refine gX_i0 (v := 18) hk hin10 (List.mem_cons_of_mem _ (List.mem_append_left _ (List.mem_of_getElem? (i := 0) rfl))) dX10_addFour_31 rfl ?_
  refine g_iload_n hk dX10_addFour_34 rfl ?_
  refine g_iload_n hk dX10_addFour_35 rfl ?_
  refine g_iushr hk dX10_addFour_36 rfl ?_
  refine g_topi (fun y746 ey746 => ?_)
  refine g_sipush (v := 255) hk dX10_addFour_37 (by decide) ?_
  refine g_iand hk dX10_addFour_40 ?_
  refine g_topi (fun y747 ey747 => ?_)
  refine sX_0 (j := 18) hk (vp_in_iff.mpr ⟨by decide, by decide⟩) (by decide) dX10_addFour_41 ?_
  refine g_aload_n hk dX10_addFour_42 rfl ?_
  refine g_dup hk dX10_addFour_43 rfl ?_
  refine gX_i0 (v := 18) hk hin10 (List.mem_cons_of_mem _ (List.mem_append_left _ (List.mem_of_getElem? (i := 0) rfl))) dX10_addFour_44 rfl ?_
  refine g_iconst (v := 1) hk dX10_addFour_47 (by decide) ?_
  refine g_iadd hk dX10_addFour_48 ?_
  refine g_norm (v := 19) (by decide) ?_
  refine pX_i0 hk hin10 (List.mem_cons_of_mem _ (List.mem_append_left _ (List.mem_of_getElem? (i := 0) rfl))) dX10_addFour_49 ?_
  refine g_iinc (v := 0) (lv' := [(2, .int 0), (0, .ref (q 1)), (1, .int a741)]) hk 0 dX10_addFour_52 rfl (by decide) (by decide) rfl ?_
  refine g_goto (tgt := 3) hk dX10_addFour_55 (by decide) ?_
  refine g_iload_n hk dX10_addFour_3 rfl ?_
  refine g_if_lt (tgt := 58) (a := 0) hk dX10_addFour_4 (by decide) rfl (fun z9 => absurd z9 (show ¬ ((0 : Int) < (0 : Int)) from by decide)) (fun _ => ?_)
  refine g_aload_n hk dX10_addFour_7 rfl ?_
  refine gX_i0 (v := 19) hk hin10 (List.mem_cons_of_mem _ (List.mem_append_left _ (List.mem_of_getElem? (i := 0) rfl))) dX10_addFour_8 rfl ?_
  refine g_if_lt (tgt := 52) (a := 19) hk dX10_addFour_11 (by decide) rfl (fun z9 => absurd z9 (show ¬ ((19 : Int) < (0 : Int)) from by decide)) (fun _ => ?_)
  refine g_aload_n hk dX10_addFour_14 rfl ?_
  refine gX_i0 (v := 19) hk hin10 (List.mem_cons_of_mem _ (List.mem_append_left _ (List.mem_of_getElem? (i := 0) rfl))) dX10_addFour_15 rfl ?_
  refine g_aload_n hk dX10_addFour_18 rfl ?_
  refine gX_r1_0 hk hin10 (List.mem_cons_of_mem _ (List.mem_append_left _ (List.mem_of_getElem? (i := 1) rfl))) dX10_addFour_19 ?_
  refine nX_0 hk dX10_addFour_22 ?_
  refine g_icmp_ge (tgt := 52) (a := 19) (b := 2000) hk dX10_addFour_23 (by decide) rfl rfl (fun z9 => absurd z9 (show ¬ ((2000 : Int) ≤ (19 : Int)) from by decide)) (fun _ => ?_)
  refine g_aload_n hk dX10_addFour_26 rfl ?_
  refine gX_r1_0 hk hin10 (List.mem_cons_of_mem _ (List.mem_append_left _ (List.mem_of_getElem? (i := 1) rfl))) dX10_addFour_27 ?_
  refine g_aload_n hk dX10_addFour_30 rfl ?_
  refine gX_i0 (v := 19) hk hin10 (List.mem_cons_of_mem _ (List.mem_append_left _ (List.mem_of_getElem? (i := 0) rfl))) dX10_addFour_31 rfl ?_
  refine g_iload_n hk dX10_addFour_34 rfl ?_
  refine g_iload_n hk dX10_addFour_35 rfl ?_
  refine g_iushr hk dX10_addFour_36 rfl ?_
  refine g_topi (fun y748 ey748 => ?_)
  refine g_sipush (v := 255) hk dX10_addFour_37 (by decide) ?_
  refine g_iand hk dX10_addFour_40 ?_
  refine g_topi (fun y749 ey749 => ?_)
  refine sX_0 (j := 19) hk (vp_in_iff.mpr ⟨by decide, by decide⟩) (by decide) dX10_addFour_41 ?_
  refine g_aload_n hk dX10_addFour_42 rfl ?_
  refine g_dup hk dX10_addFour_43 rfl ?_
  refine gX_i0 (v := 19) hk hin10 (List.mem_cons_of_mem _ (List.mem_append_left _ (List.mem_of_getElem? (i := 0) rfl))) dX10_addFour_44 rfl ?_
  refine g_iconst (v := 1) hk dX10_addFour_47 (by decide) ?_
  refine g_iadd hk dX10_addFour_48 ?_
  refine g_norm (v := 20) (by decide) ?_
  refine pX_i0 hk hin10 (List.mem_cons_of_mem _ (List.mem_append_left _ (List.mem_of_getElem? (i := 0) rfl))) dX10_addFour_49 ?_
  refine g_iinc (v := (-8)) (lv' := [(2, .int (-8)), (0, .ref (q 1)), (1, .int a741)]) hk 0 dX10_addFour_52 rfl (by decide) (by decide) rfl ?_
  refine g_goto (tgt := 3) hk dX10_addFour_55 (by decide) ?_
  refine g_iload_n hk dX10_addFour_3 rfl ?_
  refine g_if_lt (tgt := 58) (a := (-8)) hk dX10_addFour_4 (by decide) rfl (fun _ => ?_) (fun z9 => absurd (show ((-8) : Int) < (0 : Int) from by decide) z9)
  exact g_vret hk hR ⟨y743, y745, y747, y749, rfl, rfl⟩ dX10_addFour_58
def wo_m204_X11_feed : List Cond := [Cond.fieldLink RX11 10 "WarpDesk" "tape" "LWarpDesk$Tape;", Cond.fieldLink RX11 85 "WarpDesk$Tape" "size" "I", Cond.methodLink RX11 89 yX10_addFour, Cond.instanceMethod yX10_addFour, Cond.selects RX10 yX10_addFour yX10_addFour, Cond.initialized RX10]
def wz_m204_X11_feed : List Cond := .code yX11_feed cX11_feed 6 (some .int) :: (wo_m204_X11_feed ++ (wsX100 ++ (wsX110 ++ (wz_m205_X10_addFour ++ (wz_m206_X10_addFour ++ (wz_m207_X10_addFour ++ (wz_m208_X10_addFour ++ (wz_m209_X10_addFour ++ ([] : List Cond)))))))))
theorem zg_m204_X11_feed : ∀ w ∈ wz_m204_X11_feed, goodWord w = true := zg_cons rfl (zg_app (by decide +kernel) (zg_app zgU_wsX100 (zg_app zgU_wsX110 (zg_app zg_m205_X10_addFour (zg_app zg_m206_X10_addFour (zg_app zg_m207_X10_addFour (zg_app zg_m208_X10_addFour (zg_app zg_m209_X10_addFour zg_nil))))))))
theorem zi_m204_X11_feed : ∀ w ∈ wz_m204_X11_feed, w ∈ lw_tbl := zi_cons zw_521 (zi_app (zi_cons zw_487 (zi_cons zw_136 (zi_cons zw_522 (zi_cons zw_523 (zi_cons zw_524 (zi_cons zw_104 zi_nil)))))) (zi_app inX10 (zi_app inX11 (zi_app zi_m205_X10_addFour (zi_app zi_m206_X10_addFour (zi_app zi_m207_X10_addFour (zi_app zi_m208_X10_addFour (zi_app zi_m209_X10_addFour zi_nil))))))))
set_option maxHeartbeats 4000000 in
set_option maxRecDepth 100000 in
theorem m204_X11_feed (l : Launch) (D : va_G) (zt : Nat × Nat × Nat) (d : Nat → ClassId) (q : Nat → Nat) (a684 : Int32) (a685 : Int32) (a686 : Int32) (a687 : Int32) (a688 : Int32) : GM l D zt (tyX d) yX11_feed wz_m204_X11_feed ({ frames := 1, cells := 0, slots := 0, locals := 22 } : Room) [.ref (q 0), .int a684, .int a685, .int a686, .int a687, .int a688] (wX q d iX0 aX0) (fun v _ w' => ∃ (y698 : Int32), ∃ (y699 : Int32), ∃ (y700 : Int32), ∃ (y701 : Int32), ∃ (y711 : Int32), ∃ (y712 : Int32), ∃ (y713 : Int32), ∃ (y714 : Int32), ∃ (y724 : Int32), ∃ (y725 : Int32), ∃ (y726 : Int32), ∃ (y727 : Int32), ∃ (y737 : Int32), ∃ (y738 : Int32), ∃ (y739 : Int32), ∃ (y740 : Int32), ∃ (y750 : Int32), ∃ (y751 : Int32), ∃ (y752 : Int32), ∃ (y753 : Int32), v = some (.int 20) ∧ w' = wX q d (upd (upd (upd (upd (upd (upd (upd (upd (upd (upd (upd (upd (upd (upd (upd (upd (upd (upd (upd (upd iX0 0 1) 0 2) 0 3) 0 4) 0 5) 0 6) 0 7) 0 8) 0 9) 0 10) 0 11) 0 12) 0 13) 0 14) 0 15) 0 16) 0 17) 0 18) 0 19) 0 20) (up3 (up3 (up3 (up3 (up3 (up3 (up3 (up3 (up3 (up3 (up3 (up3 (up3 (up3 (up3 (up3 (up3 (up3 (up3 (up3 aX0 0 0 y698) 0 1 y699) 0 2 y700) 0 3 y701) 0 4 y711) 0 5 y712) 0 6 y713) 0 7 y714) 0 8 y724) 0 9 y725) 0 10 y726) 0 11 y727) 0 12 y737) 0 13 y738) 0 14 y739) 0 15 y740) 0 16 y750) 0 17 y751) 0 18 y752) 0 19 y753)) 0 0 := by
  refine GM.of (cc := cX11_feed) (maxL := 6) (ret := (some .int)) (own := RX11) (lv := [(0, .ref (q 0)), (1, .int a684), (2, .int a685), (3, .int a686), (4, .int a687), (5, .int a688)]) (by decide) rfl rfl (Nat.le_of_ble_eq_true rfl) rfl (fun κ sz hk hR hN => ?_)
  have hin10 : ∀ w ∈ u_ws RX10 TX10 7, w ∈ wz_m204_X11_feed := fun w h => (List.mem_cons_of_mem _ (List.mem_append_right _ (List.mem_append_left _ h)))
  have hin11 : ∀ w ∈ u_ws RX11 TX11 10, w ∈ wz_m204_X11_feed := fun w h => (List.mem_cons_of_mem _ (List.mem_append_right _ (List.mem_append_right _ (List.mem_append_left _ h))))
  refine g_aload_n hk dX11_feed_0 rfl ?_
  refine gX_r0_0 hk hin11 (List.mem_cons_of_mem _ (List.mem_append_left _ (List.mem_of_getElem? (i := 0) rfl))) dX11_feed_1 ?_
  refine gX_i0 (v := 0) hk hin10 (List.mem_cons_of_mem _ (List.mem_append_left _ (List.mem_of_getElem? (i := 1) rfl))) dX11_feed_4 rfl ?_
  refine g_sipush (v := 1980) hk dX11_feed_7 (by decide) ?_
  refine g_icmp_le (tgt := 15) (a := 0) (b := 1980) hk dX11_feed_10 (by decide) rfl rfl (fun _ => ?_) (fun z9 => absurd (show (0 : Int) ≤ (1980 : Int) from by decide) z9)
  refine g_aload_n hk dX11_feed_15 rfl ?_
  refine gX_r0_0 hk hin11 (List.mem_cons_of_mem _ (List.mem_append_left _ (List.mem_of_getElem? (i := 0) rfl))) dX11_feed_16 ?_
  refine g_iload_n hk dX11_feed_19 rfl ?_
  refine g_callV (n := 1) hk (m205_X10_addFour l D zt d q a684) (SP.same _) (fun _ h => h) (gi_V (List.mem_cons_of_mem _ (List.mem_append_left _ (List.mem_of_getElem? (i := 2) rfl))) (List.mem_cons_of_mem _ (List.mem_append_left _ (List.mem_of_getElem? (i := 3) rfl))) (List.mem_cons_of_mem _ (List.mem_append_left _ (List.mem_of_getElem? (i := 4) rfl))) (List.mem_cons_of_mem _ (List.mem_append_left _ (List.mem_of_getElem? (i := 5) rfl))) (gi_sub (fun w h => (List.mem_cons_of_mem _ (List.mem_append_right _ (List.mem_append_right _ (List.mem_append_right _ (List.mem_append_left _ h)))))) zg_m205_X10_addFour)) rfl rfl rfl (by decide +kernel) ⟨Nat.le_of_ble_eq_true rfl, Nat.le_of_ble_eq_true rfl⟩ 1 rfl rfl rfl rfl (Nat.le_of_ble_eq_true rfl) ⟨Nat.le_of_ble_eq_true rfl, Nat.le_of_ble_eq_true rfl⟩ dX11_feed_20 (fun v ty' w' hp hk' => ?_)
  obtain ⟨y698, y699, y700, y701, rfl, rfl⟩ := hp
  show GW κ 6 0 0 (wX q d (upd (upd (upd (upd iX0 0 1) 0 2) 0 3) 0 4) (up3 (up3 (up3 (up3 aX0 0 0 y698) 0 1 y699) 0 2 y700) 0 3 y701)) 23 [(0, .ref (q 0)), (1, .int a684), (2, .int a685), (3, .int a686), (4, .int a687), (5, .int a688)] []
  refine g_aload_n hk dX11_feed_23 rfl ?_
  refine gX_r0_0 hk hin11 (List.mem_cons_of_mem _ (List.mem_append_left _ (List.mem_of_getElem? (i := 0) rfl))) dX11_feed_24 ?_
  refine g_iload_n hk dX11_feed_27 rfl ?_
  refine g_callV (n := 1) hk (m206_X10_addFour l D zt d q y698 y699 y700 y701 a685) (SP.same _) (fun _ h => h) (gi_V (List.mem_cons_of_mem _ (List.mem_append_left _ (List.mem_of_getElem? (i := 2) rfl))) (List.mem_cons_of_mem _ (List.mem_append_left _ (List.mem_of_getElem? (i := 3) rfl))) (List.mem_cons_of_mem _ (List.mem_append_left _ (List.mem_of_getElem? (i := 4) rfl))) (List.mem_cons_of_mem _ (List.mem_append_left _ (List.mem_of_getElem? (i := 5) rfl))) (gi_sub (fun w h => (List.mem_cons_of_mem _ (List.mem_append_right _ (List.mem_append_right _ (List.mem_append_right _ (List.mem_append_right _ (List.mem_append_left _ h))))))) zg_m206_X10_addFour)) rfl rfl rfl (by decide +kernel) ⟨Nat.le_of_ble_eq_true rfl, Nat.le_of_ble_eq_true rfl⟩ 1 rfl rfl rfl rfl (Nat.le_of_ble_eq_true rfl) ⟨Nat.le_of_ble_eq_true rfl, Nat.le_of_ble_eq_true rfl⟩ dX11_feed_28 (fun v ty' w' hp hk' => ?_)
  obtain ⟨y711, y712, y713, y714, rfl, rfl⟩ := hp
  show GW κ 6 0 0 (wX q d (upd (upd (upd (upd (upd (upd (upd (upd iX0 0 1) 0 2) 0 3) 0 4) 0 5) 0 6) 0 7) 0 8) (up3 (up3 (up3 (up3 (up3 (up3 (up3 (up3 aX0 0 0 y698) 0 1 y699) 0 2 y700) 0 3 y701) 0 4 y711) 0 5 y712) 0 6 y713) 0 7 y714)) 31 [(0, .ref (q 0)), (1, .int a684), (2, .int a685), (3, .int a686), (4, .int a687), (5, .int a688)] []
  refine g_aload_n hk dX11_feed_31 rfl ?_
  refine gX_r0_0 hk hin11 (List.mem_cons_of_mem _ (List.mem_append_left _ (List.mem_of_getElem? (i := 0) rfl))) dX11_feed_32 ?_
  refine g_iload_n hk dX11_feed_35 rfl ?_
  refine g_callV (n := 1) hk (m207_X10_addFour l D zt d q y698 y699 y700 y701 y711 y712 y713 y714 a686) (SP.same _) (fun _ h => h) (gi_V (List.mem_cons_of_mem _ (List.mem_append_left _ (List.mem_of_getElem? (i := 2) rfl))) (List.mem_cons_of_mem _ (List.mem_append_left _ (List.mem_of_getElem? (i := 3) rfl))) (List.mem_cons_of_mem _ (List.mem_append_left _ (List.mem_of_getElem? (i := 4) rfl))) (List.mem_cons_of_mem _ (List.mem_append_left _ (List.mem_of_getElem? (i := 5) rfl))) (gi_sub (fun w h => (List.mem_cons_of_mem _ (List.mem_append_right _ (List.mem_append_right _ (List.mem_append_right _ (List.mem_append_right _ (List.mem_append_right _ (List.mem_append_left _ h)))))))) zg_m207_X10_addFour)) rfl rfl rfl (by decide +kernel) ⟨Nat.le_of_ble_eq_true rfl, Nat.le_of_ble_eq_true rfl⟩ 1 rfl rfl rfl rfl (Nat.le_of_ble_eq_true rfl) ⟨Nat.le_of_ble_eq_true rfl, Nat.le_of_ble_eq_true rfl⟩ dX11_feed_36 (fun v ty' w' hp hk' => ?_)
  obtain ⟨y724, y725, y726, y727, rfl, rfl⟩ := hp
  show GW κ 6 0 0 (wX q d (upd (upd (upd (upd (upd (upd (upd (upd (upd (upd (upd (upd iX0 0 1) 0 2) 0 3) 0 4) 0 5) 0 6) 0 7) 0 8) 0 9) 0 10) 0 11) 0 12) (up3 (up3 (up3 (up3 (up3 (up3 (up3 (up3 (up3 (up3 (up3 (up3 aX0 0 0 y698) 0 1 y699) 0 2 y700) 0 3 y701) 0 4 y711) 0 5 y712) 0 6 y713) 0 7 y714) 0 8 y724) 0 9 y725) 0 10 y726) 0 11 y727)) 39 [(0, .ref (q 0)), (1, .int a684), (2, .int a685), (3, .int a686), (4, .int a687), (5, .int a688)] []
  refine g_aload_n hk dX11_feed_39 rfl ?_
  refine gX_r0_0 hk hin11 (List.mem_cons_of_mem _ (List.mem_append_left _ (List.mem_of_getElem? (i := 0) rfl))) dX11_feed_40 ?_
  refine g_iload hk dX11_feed_43 rfl ?_
  refine g_callV (n := 1) hk (m208_X10_addFour l D zt d q y698 y699 y700 y701 y711 y712 y713 y714 y724 y725 y726 y727 a687) (SP.same _) (fun _ h => h) (gi_V (List.mem_cons_of_mem _ (List.mem_append_left _ (List.mem_of_getElem? (i := 2) rfl))) (List.mem_cons_of_mem _ (List.mem_append_left _ (List.mem_of_getElem? (i := 3) rfl))) (List.mem_cons_of_mem _ (List.mem_append_left _ (List.mem_of_getElem? (i := 4) rfl))) (List.mem_cons_of_mem _ (List.mem_append_left _ (List.mem_of_getElem? (i := 5) rfl))) (gi_sub (fun w h => (List.mem_cons_of_mem _ (List.mem_append_right _ (List.mem_append_right _ (List.mem_append_right _ (List.mem_append_right _ (List.mem_append_right _ (List.mem_append_right _ (List.mem_append_left _ h))))))))) zg_m208_X10_addFour)) rfl rfl rfl (by decide +kernel) ⟨Nat.le_of_ble_eq_true rfl, Nat.le_of_ble_eq_true rfl⟩ 1 rfl rfl rfl rfl (Nat.le_of_ble_eq_true rfl) ⟨Nat.le_of_ble_eq_true rfl, Nat.le_of_ble_eq_true rfl⟩ dX11_feed_45 (fun v ty' w' hp hk' => ?_)
  obtain ⟨y737, y738, y739, y740, rfl, rfl⟩ := hp
  show GW κ 6 0 0 (wX q d (upd (upd (upd (upd (upd (upd (upd (upd (upd (upd (upd (upd (upd (upd (upd (upd iX0 0 1) 0 2) 0 3) 0 4) 0 5) 0 6) 0 7) 0 8) 0 9) 0 10) 0 11) 0 12) 0 13) 0 14) 0 15) 0 16) (up3 (up3 (up3 (up3 (up3 (up3 (up3 (up3 (up3 (up3 (up3 (up3 (up3 (up3 (up3 (up3 aX0 0 0 y698) 0 1 y699) 0 2 y700) 0 3 y701) 0 4 y711) 0 5 y712) 0 6 y713) 0 7 y714) 0 8 y724) 0 9 y725) 0 10 y726) 0 11 y727) 0 12 y737) 0 13 y738) 0 14 y739) 0 15 y740)) 48 [(0, .ref (q 0)), (1, .int a684), (2, .int a685), (3, .int a686), (4, .int a687), (5, .int a688)] []
  refine g_aload_n hk dX11_feed_48 rfl ?_
  refine gX_r0_0 hk hin11 (List.mem_cons_of_mem _ (List.mem_append_left _ (List.mem_of_getElem? (i := 0) rfl))) dX11_feed_49 ?_
  refine g_iload hk dX11_feed_52 rfl ?_
  refine g_callV (n := 1) hk (m209_X10_addFour l D zt d q y698 y699 y700 y701 y711 y712 y713 y714 y724 y725 y726 y727 y737 y738 y739 y740 a688) (SP.same _) (fun _ h => h) (gi_V (List.mem_cons_of_mem _ (List.mem_append_left _ (List.mem_of_getElem? (i := 2) rfl))) (List.mem_cons_of_mem _ (List.mem_append_left _ (List.mem_of_getElem? (i := 3) rfl))) (List.mem_cons_of_mem _ (List.mem_append_left _ (List.mem_of_getElem? (i := 4) rfl))) (List.mem_cons_of_mem _ (List.mem_append_left _ (List.mem_of_getElem? (i := 5) rfl))) (gi_sub (fun w h => (List.mem_cons_of_mem _ (List.mem_append_right _ (List.mem_append_right _ (List.mem_append_right _ (List.mem_append_right _ (List.mem_append_right _ (List.mem_append_right _ (List.mem_append_right _ (List.mem_append_left _ h)))))))))) zg_m209_X10_addFour)) rfl rfl rfl (by decide +kernel) ⟨Nat.le_of_ble_eq_true rfl, Nat.le_of_ble_eq_true rfl⟩ 1 rfl rfl rfl rfl (Nat.le_of_ble_eq_true rfl) ⟨Nat.le_of_ble_eq_true rfl, Nat.le_of_ble_eq_true rfl⟩ dX11_feed_54 (fun v ty' w' hp hk' => ?_)
  obtain ⟨y750, y751, y752, y753, rfl, rfl⟩ := hp
  show GW κ 6 0 0 (wX q d (upd (upd (upd (upd (upd (upd (upd (upd (upd (upd (upd (upd (upd (upd (upd (upd (upd (upd (upd (upd iX0 0 1) 0 2) 0 3) 0 4) 0 5) 0 6) 0 7) 0 8) 0 9) 0 10) 0 11) 0 12) 0 13) 0 14) 0 15) 0 16) 0 17) 0 18) 0 19) 0 20) (up3 (up3 (up3 (up3 (up3 (up3 (up3 (up3 (up3 (up3 (up3 (up3 (up3 (up3 (up3 (up3 (up3 (up3 (up3 (up3 aX0 0 0 y698) 0 1 y699) 0 2 y700) 0 3 y701) 0 4 y711) 0 5 y712) 0 6 y713) 0 7 y714) 0 8 y724) 0 9 y725) 0 10 y726) 0 11 y727) 0 12 y737) 0 13 y738) 0 14 y739) 0 15 y740) 0 16 y750) 0 17 y751) 0 18 y752) 0 19 y753)) 57 [(0, .ref (q 0)), (1, .int a684), (2, .int a685), (3, .int a686), (4, .int a687), (5, .int a688)] []
  refine g_aload_n hk dX11_feed_57 rfl ?_
  refine gX_r0_0 hk hin11 (List.mem_cons_of_mem _ (List.mem_append_left _ (List.mem_of_getElem? (i := 0) rfl))) dX11_feed_58 ?_
  refine gX_i0 (v := 20) hk hin10 (List.mem_cons_of_mem _ (List.mem_append_left _ (List.mem_of_getElem? (i := 1) rfl))) dX11_feed_61 rfl ?_
  exact g_iret hk hR rfl ⟨y698, y699, y700, y701, y711, y712, y713, y714, y724, y725, y726, y727, y737, y738, y739, y740, y750, y751, y752, y753, rfl, rfl⟩ dX11_feed_64
def wo_m210_X11_back : List Cond := [Cond.fieldLink RX11 10 "WarpDesk" "tape" "LWarpDesk$Tape;", Cond.fieldLink RX11 85 "WarpDesk$Tape" "size" "I"]
def wz_m210_X11_back : List Cond := .code yX11_back cX11_back 2 (some .int) :: (wo_m210_X11_back ++ (wsX100 ++ (wsX110 ++ ([] : List Cond))))
theorem zg_m210_X11_back : ∀ w ∈ wz_m210_X11_back, goodWord w = true := zg_cons rfl (zg_app (by decide +kernel) (zg_app zgU_wsX100 (zg_app zgU_wsX110 zg_nil)))
theorem zi_m210_X11_back : ∀ w ∈ wz_m210_X11_back, w ∈ lw_tbl := zi_cons zw_529 (zi_app (zi_cons zw_487 (zi_cons zw_136 zi_nil)) (zi_app inX10 (zi_app inX11 zi_nil)))
set_option maxHeartbeats 4000000 in
set_option maxRecDepth 100000 in
theorem m210_X11_back (l : Launch) (D : va_G) (zt : Nat × Nat × Nat) (d : Nat → ClassId) (q : Nat → Nat) (a754 : Int32) : GM l D zt (tyX d) yX11_back wz_m210_X11_back ({ frames := 0, cells := 0, slots := 0, locals := 0 } : Room) [.ref (q 0), .int a754] (wX q d iX0 aX0) (fun v _ w' => ((a754.toInt < 0) ∧ v = some (.int (-1)) ∧ w' = wX q d iX0 aX0) ∨ ((¬ (a754.toInt < 0)) ∧ (a754.toInt ≤ 0) ∧ (a754.toInt = 0) ∧ v = some (.int 0) ∧ w' = wX q d iX0 aX0) ∨ ((¬ (a754.toInt < 0)) ∧ (¬ (a754.toInt ≤ 0)) ∧ v = some (.int (-1)) ∧ w' = wX q d iX0 aX0)) 0 0 := by
  refine GM.of (cc := cX11_back) (maxL := 2) (ret := (some .int)) (own := RX11) (lv := [(0, .ref (q 0)), (1, .int a754)]) (by decide) rfl rfl (Nat.le_of_ble_eq_true rfl) rfl (fun κ sz hk hR hN => ?_)
  have hin10 : ∀ w ∈ u_ws RX10 TX10 7, w ∈ wz_m210_X11_back := fun w h => (List.mem_cons_of_mem _ (List.mem_append_right _ (List.mem_append_left _ h)))
  have hin11 : ∀ w ∈ u_ws RX11 TX11 10, w ∈ wz_m210_X11_back := fun w h => (List.mem_cons_of_mem _ (List.mem_append_right _ (List.mem_append_right _ (List.mem_append_left _ h))))
  refine g_iload_n hk dX11_back_0 rfl ?_
  refine g_if_lt (tgt := 15) (a := a754.toInt) hk dX11_back_1 (by decide) rfl (fun c755 => ?_) (fun c755 => ?_)
  · skip
    refine g_iconst (v := (-1)) hk dX11_back_15 (by decide) ?_
    exact g_iret hk hR rfl (Or.inl ⟨c755, rfl, rfl⟩) dX11_back_16
  · skip
    refine g_iload_n hk dX11_back_4 rfl ?_
    refine g_aload_n hk dX11_back_5 rfl ?_
    refine gX_r0_0 hk hin11 (List.mem_cons_of_mem _ (List.mem_append_left _ (List.mem_of_getElem? (i := 0) rfl))) dX11_back_6 ?_
    refine gX_i0 (v := 0) hk hin10 (List.mem_cons_of_mem _ (List.mem_append_left _ (List.mem_of_getElem? (i := 1) rfl))) dX11_back_9 rfl ?_
    refine g_icmp_le (tgt := 17) (a := a754.toInt) (b := 0) hk dX11_back_12 (by decide) rfl rfl (fun c756 => ?_) (fun c756 => ?_)
    · skip
      refine g_aload_n hk dX11_back_17 rfl ?_
      refine gX_r0_0 hk hin11 (List.mem_cons_of_mem _ (List.mem_append_left _ (List.mem_of_getElem? (i := 0) rfl))) dX11_back_18 ?_
      refine g_dup hk dX11_back_21 rfl ?_
      refine gX_i0 (v := 0) hk hin10 (List.mem_cons_of_mem _ (List.mem_append_left _ (List.mem_of_getElem? (i := 1) rfl))) dX11_back_22 rfl ?_
      refine g_iload_n hk dX11_back_25 rfl ?_
      by_cases c757 : a754.toInt = 0
      · obtain rfl : a754 = 0 := Int32.toInt_inj.mp c757
        refine g_isub hk dX11_back_26 ?_
        refine g_norm (v := 0) (by decide) ?_
        refine pX_i0 hk hin10 (List.mem_cons_of_mem _ (List.mem_append_left _ (List.mem_of_getElem? (i := 1) rfl))) dX11_back_27 ?_
        refine gX_sameI rfl ?_
        refine g_aload_n hk dX11_back_30 rfl ?_
        refine gX_r0_0 hk hin11 (List.mem_cons_of_mem _ (List.mem_append_left _ (List.mem_of_getElem? (i := 0) rfl))) dX11_back_31 ?_
        refine gX_i0 (v := 0) hk hin10 (List.mem_cons_of_mem _ (List.mem_append_left _ (List.mem_of_getElem? (i := 1) rfl))) dX11_back_34 rfl ?_
        exact g_iret hk hR rfl (Or.inr (Or.inl ⟨c755, c756, c757, rfl, rfl⟩)) dX11_back_37
      exfalso; omega
    · skip
      refine g_iconst (v := (-1)) hk dX11_back_15 (by decide) ?_
      exact g_iret hk hR rfl (Or.inr (Or.inr (⟨c755, c756, rfl, rfl⟩))) dX11_back_16
def wo_m216_X7_put : List Cond := [Cond.fieldLink RX7 20 "WarpDesk$Settings" "values" "[I"]
def wz_m216_X7_put : List Cond := .code yX7_put cX7_put 3 none :: (wo_m216_X7_put ++ (wsX70 ++ ([] : List Cond)))
theorem zg_m216_X7_put : ∀ w ∈ wz_m216_X7_put, goodWord w = true := zg_cons rfl (zg_app (by decide +kernel) (zg_app zgU_wsX70 zg_nil))
theorem zi_m216_X7_put : ∀ w ∈ wz_m216_X7_put, w ∈ lw_tbl := zi_cons zw_553 (zi_app (zi_cons zw_190 zi_nil) (zi_app inX7 zi_nil))
set_option maxHeartbeats 4000000 in
set_option maxRecDepth 100000 in
theorem m216_X7_put (l : Launch) (D : va_G) (zt : Nat × Nat × Nat) (d : Nat → ClassId) (q : Nat → Nat) : GM l D zt (tyX d) yX7_put wz_m216_X7_put ({ frames := 0, cells := 0, slots := 0, locals := 0 } : Room) [.ref (q 6), .int 0, .int 2] (wX q d iX0 aX0) (fun v _ w' => v = none ∧ w' = wX q d iX0 aX0) 0 0 := by
  refine GM.of (cc := cX7_put) (maxL := 3) (ret := none) (own := RX7) (lv := [(0, .ref (q 6)), (1, .int 0), (2, .int 2)]) (by decide) rfl rfl (Nat.le_of_ble_eq_true rfl) rfl (fun κ sz hk hR hN => ?_)
  have hin7 : ∀ w ∈ u_ws RX7 TX7 1, w ∈ wz_m216_X7_put := fun w h => (List.mem_cons_of_mem _ (List.mem_append_right _ (List.mem_append_left _ h)))
  refine g_iload_n hk dX7_put_0 rfl ?_
  refine g_if_lt (tgt := 20) (a := 0) hk dX7_put_1 (by decide) rfl (fun z9 => absurd z9 (show ¬ ((0 : Int) < (0 : Int)) from by decide)) (fun _ => ?_)
  refine g_iload_n hk dX7_put_4 rfl ?_
  refine g_aload_n hk dX7_put_5 rfl ?_
  refine gX_r6_0 hk hin7 (List.mem_cons_of_mem _ (List.mem_append_left _ (List.mem_of_getElem? (i := 0) rfl))) dX7_put_6 ?_
  refine nX_2 hk dX7_put_9 ?_
  refine g_icmp_ge (tgt := 20) (a := 0) (b := 4) hk dX7_put_10 (by decide) rfl rfl (fun z9 => absurd z9 (show ¬ ((4 : Int) ≤ (0 : Int)) from by decide)) (fun _ => ?_)
  refine g_aload_n hk dX7_put_13 rfl ?_
  refine gX_r6_0 hk hin7 (List.mem_cons_of_mem _ (List.mem_append_left _ (List.mem_of_getElem? (i := 0) rfl))) dX7_put_14 ?_
  refine g_iload_n hk dX7_put_17 rfl ?_
  refine g_iload_n hk dX7_put_18 rfl ?_
  refine sX_2 (j := 0) hk (vp_in_iff.mpr ⟨by decide, by decide⟩) (by decide) dX7_put_19 ?_
  refine gX_same rfl ?_
  exact g_vret hk hR ⟨rfl, rfl⟩ dX7_put_20
def wo_m217_X7_put : List Cond := [Cond.fieldLink RX7 20 "WarpDesk$Settings" "values" "[I"]
def wz_m217_X7_put : List Cond := .code yX7_put cX7_put 3 none :: (wo_m217_X7_put ++ (wsX70 ++ ([] : List Cond)))
theorem zg_m217_X7_put : ∀ w ∈ wz_m217_X7_put, goodWord w = true := zg_cons rfl (zg_app (by decide +kernel) (zg_app zgU_wsX70 zg_nil))
theorem zi_m217_X7_put : ∀ w ∈ wz_m217_X7_put, w ∈ lw_tbl := zi_cons zw_553 (zi_app (zi_cons zw_190 zi_nil) (zi_app inX7 zi_nil))
set_option maxHeartbeats 4000000 in
set_option maxRecDepth 100000 in
theorem m217_X7_put (l : Launch) (D : va_G) (zt : Nat × Nat × Nat) (d : Nat → ClassId) (q : Nat → Nat) : GM l D zt (tyX d) yX7_put wz_m217_X7_put ({ frames := 0, cells := 0, slots := 0, locals := 0 } : Room) [.ref (q 6), .int 1, .int 0] (wX q d iX0 aX0) (fun v _ w' => v = none ∧ w' = wX q d iX0 aX0) 0 0 := by
  refine GM.of (cc := cX7_put) (maxL := 3) (ret := none) (own := RX7) (lv := [(0, .ref (q 6)), (1, .int 1), (2, .int 0)]) (by decide) rfl rfl (Nat.le_of_ble_eq_true rfl) rfl (fun κ sz hk hR hN => ?_)
  have hin7 : ∀ w ∈ u_ws RX7 TX7 1, w ∈ wz_m217_X7_put := fun w h => (List.mem_cons_of_mem _ (List.mem_append_right _ (List.mem_append_left _ h)))
  refine g_iload_n hk dX7_put_0 rfl ?_
  refine g_if_lt (tgt := 20) (a := 1) hk dX7_put_1 (by decide) rfl (fun z9 => absurd z9 (show ¬ ((1 : Int) < (0 : Int)) from by decide)) (fun _ => ?_)
  refine g_iload_n hk dX7_put_4 rfl ?_
  refine g_aload_n hk dX7_put_5 rfl ?_
  refine gX_r6_0 hk hin7 (List.mem_cons_of_mem _ (List.mem_append_left _ (List.mem_of_getElem? (i := 0) rfl))) dX7_put_6 ?_
  refine nX_2 hk dX7_put_9 ?_
  refine g_icmp_ge (tgt := 20) (a := 1) (b := 4) hk dX7_put_10 (by decide) rfl rfl (fun z9 => absurd z9 (show ¬ ((4 : Int) ≤ (1 : Int)) from by decide)) (fun _ => ?_)
  refine g_aload_n hk dX7_put_13 rfl ?_
  refine gX_r6_0 hk hin7 (List.mem_cons_of_mem _ (List.mem_append_left _ (List.mem_of_getElem? (i := 0) rfl))) dX7_put_14 ?_
  refine g_iload_n hk dX7_put_17 rfl ?_
  refine g_iload_n hk dX7_put_18 rfl ?_
  refine sX_2 (j := 1) hk (vp_in_iff.mpr ⟨by decide, by decide⟩) (by decide) dX7_put_19 ?_
  refine gX_same rfl ?_
  exact g_vret hk hR ⟨rfl, rfl⟩ dX7_put_20
def wo_m218_X7_put : List Cond := [Cond.fieldLink RX7 20 "WarpDesk$Settings" "values" "[I"]
def wz_m218_X7_put : List Cond := .code yX7_put cX7_put 3 none :: (wo_m218_X7_put ++ (wsX70 ++ ([] : List Cond)))
theorem zg_m218_X7_put : ∀ w ∈ wz_m218_X7_put, goodWord w = true := zg_cons rfl (zg_app (by decide +kernel) (zg_app zgU_wsX70 zg_nil))
theorem zi_m218_X7_put : ∀ w ∈ wz_m218_X7_put, w ∈ lw_tbl := zi_cons zw_553 (zi_app (zi_cons zw_190 zi_nil) (zi_app inX7 zi_nil))
set_option maxHeartbeats 4000000 in
set_option maxRecDepth 100000 in
theorem m218_X7_put (l : Launch) (D : va_G) (zt : Nat × Nat × Nat) (d : Nat → ClassId) (q : Nat → Nat) : GM l D zt (tyX d) yX7_put wz_m218_X7_put ({ frames := 0, cells := 0, slots := 0, locals := 0 } : Room) [.ref (q 6), .int 2, .int 0] (wX q d iX0 aX0) (fun v _ w' => v = none ∧ w' = wX q d iX0 aX0) 0 0 := by
  refine GM.of (cc := cX7_put) (maxL := 3) (ret := none) (own := RX7) (lv := [(0, .ref (q 6)), (1, .int 2), (2, .int 0)]) (by decide) rfl rfl (Nat.le_of_ble_eq_true rfl) rfl (fun κ sz hk hR hN => ?_)
  have hin7 : ∀ w ∈ u_ws RX7 TX7 1, w ∈ wz_m218_X7_put := fun w h => (List.mem_cons_of_mem _ (List.mem_append_right _ (List.mem_append_left _ h)))
  refine g_iload_n hk dX7_put_0 rfl ?_
  refine g_if_lt (tgt := 20) (a := 2) hk dX7_put_1 (by decide) rfl (fun z9 => absurd z9 (show ¬ ((2 : Int) < (0 : Int)) from by decide)) (fun _ => ?_)
  refine g_iload_n hk dX7_put_4 rfl ?_
  refine g_aload_n hk dX7_put_5 rfl ?_
  refine gX_r6_0 hk hin7 (List.mem_cons_of_mem _ (List.mem_append_left _ (List.mem_of_getElem? (i := 0) rfl))) dX7_put_6 ?_
  refine nX_2 hk dX7_put_9 ?_
  refine g_icmp_ge (tgt := 20) (a := 2) (b := 4) hk dX7_put_10 (by decide) rfl rfl (fun z9 => absurd z9 (show ¬ ((4 : Int) ≤ (2 : Int)) from by decide)) (fun _ => ?_)
  refine g_aload_n hk dX7_put_13 rfl ?_
  refine gX_r6_0 hk hin7 (List.mem_cons_of_mem _ (List.mem_append_left _ (List.mem_of_getElem? (i := 0) rfl))) dX7_put_14 ?_
  refine g_iload_n hk dX7_put_17 rfl ?_
  refine g_iload_n hk dX7_put_18 rfl ?_
  refine sX_2 (j := 2) hk (vp_in_iff.mpr ⟨by decide, by decide⟩) (by decide) dX7_put_19 ?_
  refine gX_same rfl ?_
  exact g_vret hk hR ⟨rfl, rfl⟩ dX7_put_20
def wo_m219_X7_put : List Cond := [Cond.fieldLink RX7 20 "WarpDesk$Settings" "values" "[I"]
def wz_m219_X7_put : List Cond := .code yX7_put cX7_put 3 none :: (wo_m219_X7_put ++ (wsX70 ++ ([] : List Cond)))
theorem zg_m219_X7_put : ∀ w ∈ wz_m219_X7_put, goodWord w = true := zg_cons rfl (zg_app (by decide +kernel) (zg_app zgU_wsX70 zg_nil))
theorem zi_m219_X7_put : ∀ w ∈ wz_m219_X7_put, w ∈ lw_tbl := zi_cons zw_553 (zi_app (zi_cons zw_190 zi_nil) (zi_app inX7 zi_nil))
set_option maxHeartbeats 4000000 in
set_option maxRecDepth 100000 in
theorem m219_X7_put (l : Launch) (D : va_G) (zt : Nat × Nat × Nat) (d : Nat → ClassId) (q : Nat → Nat) : GM l D zt (tyX d) yX7_put wz_m219_X7_put ({ frames := 0, cells := 0, slots := 0, locals := 0 } : Room) [.ref (q 6), .int 3, .int 8] (wX q d iX0 aX0) (fun v _ w' => v = none ∧ w' = wX q d iX0 aX0) 0 0 := by
  refine GM.of (cc := cX7_put) (maxL := 3) (ret := none) (own := RX7) (lv := [(0, .ref (q 6)), (1, .int 3), (2, .int 8)]) (by decide) rfl rfl (Nat.le_of_ble_eq_true rfl) rfl (fun κ sz hk hR hN => ?_)
  have hin7 : ∀ w ∈ u_ws RX7 TX7 1, w ∈ wz_m219_X7_put := fun w h => (List.mem_cons_of_mem _ (List.mem_append_right _ (List.mem_append_left _ h)))
  refine g_iload_n hk dX7_put_0 rfl ?_
  refine g_if_lt (tgt := 20) (a := 3) hk dX7_put_1 (by decide) rfl (fun z9 => absurd z9 (show ¬ ((3 : Int) < (0 : Int)) from by decide)) (fun _ => ?_)
  refine g_iload_n hk dX7_put_4 rfl ?_
  refine g_aload_n hk dX7_put_5 rfl ?_
  refine gX_r6_0 hk hin7 (List.mem_cons_of_mem _ (List.mem_append_left _ (List.mem_of_getElem? (i := 0) rfl))) dX7_put_6 ?_
  refine nX_2 hk dX7_put_9 ?_
  refine g_icmp_ge (tgt := 20) (a := 3) (b := 4) hk dX7_put_10 (by decide) rfl rfl (fun z9 => absurd z9 (show ¬ ((4 : Int) ≤ (3 : Int)) from by decide)) (fun _ => ?_)
  refine g_aload_n hk dX7_put_13 rfl ?_
  refine gX_r6_0 hk hin7 (List.mem_cons_of_mem _ (List.mem_append_left _ (List.mem_of_getElem? (i := 0) rfl))) dX7_put_14 ?_
  refine g_iload_n hk dX7_put_17 rfl ?_
  refine g_iload_n hk dX7_put_18 rfl ?_
  refine sX_2 (j := 3) hk (vp_in_iff.mpr ⟨by decide, by decide⟩) (by decide) dX7_put_19 ?_
  refine gX_same rfl ?_
  exact g_vret hk hR ⟨rfl, rfl⟩ dX7_put_20
def wo_m215_X7_clear : List Cond := [Cond.fieldLink RX7 9 "WarpDesk$Settings" "UNTOLD" "[I", Cond.methodLink RX7 29 yX7_put, Cond.instanceMethod yX7_put, Cond.selects RX7 yX7_put yX7_put, Cond.initialized RX7]
def wz_m215_X7_clear : List Cond := .code yX7_clear cX7_clear 2 none :: (wo_m215_X7_clear ++ (wz_m216_X7_put ++ (wz_m217_X7_put ++ (wz_m218_X7_put ++ (wz_m219_X7_put ++ ([] : List Cond))))))
theorem zg_m215_X7_clear : ∀ w ∈ wz_m215_X7_clear, goodWord w = true := zg_cons rfl (zg_app (by decide +kernel) (zg_app zg_m216_X7_put (zg_app zg_m217_X7_put (zg_app zg_m218_X7_put (zg_app zg_m219_X7_put zg_nil)))))
theorem zi_m215_X7_clear : ∀ w ∈ wz_m215_X7_clear, w ∈ lw_tbl := zi_cons zw_549 (zi_app (zi_cons zw_181 (zi_cons zw_550 (zi_cons zw_551 (zi_cons zw_552 (zi_cons zw_107 zi_nil))))) (zi_app zi_m216_X7_put (zi_app zi_m217_X7_put (zi_app zi_m218_X7_put (zi_app zi_m219_X7_put zi_nil)))))
set_option maxHeartbeats 4000000 in
set_option maxRecDepth 100000 in
theorem m215_X7_clear (l : Launch) (D : va_G) (zt : Nat × Nat × Nat) (d : Nat → ClassId) (q : Nat → Nat) : GM l D zt (tyX d) yX7_clear wz_m215_X7_clear ({ frames := 1, cells := 0, slots := 0, locals := 22 } : Room) [.ref (q 6)] (wX q d iX0 aX0) (fun v _ w' => v = none ∧ w' = wX q d iX0 aX0) 0 0 := by
  refine GM.of (cc := cX7_clear) (maxL := 2) (ret := none) (own := RX7) (lv := [(0, .ref (q 6))]) (by decide) rfl rfl (Nat.le_of_ble_eq_true rfl) rfl (fun κ sz hk hR hN => ?_)
  refine g_iconst (v := 0) hk dX7_clear_0 (by decide) ?_
  refine g_istore_n (lv' := [(1, .int 0), (0, .ref (q 6))]) hk dX7_clear_1 (by decide) rfl ?_
  refine g_iload_n hk dX7_clear_2 rfl ?_
  refine g_getsU hk (List.mem_cons_of_mem _ (List.mem_append_left _ (List.mem_of_getElem? (i := 0) rfl))) dX7_clear_3 ?_
  refine g_lenU hk dX7_clear_6 ?_
  refine g_icmp_ge (tgt := 26) (a := 0) (b := 4) hk dX7_clear_7 (by decide) rfl rfl (fun z9 => absurd z9 (show ¬ ((4 : Int) ≤ (0 : Int)) from by decide)) (fun _ => ?_)
  refine g_aload_n hk dX7_clear_10 rfl ?_
  refine g_iload_n hk dX7_clear_11 rfl ?_
  refine g_getsU hk (List.mem_cons_of_mem _ (List.mem_append_left _ (List.mem_of_getElem? (i := 0) rfl))) dX7_clear_12 ?_
  refine g_iload_n hk dX7_clear_15 rfl ?_
  refine g_sU (v := .int 2) hk (vp_in_iff.mpr ⟨by decide, by decide⟩) rfl dX7_clear_16 ?_
  refine g_callV (n := 2) hk (m216_X7_put l D zt d q) (SP.same _) (fun _ h => h) (gi_V (List.mem_cons_of_mem _ (List.mem_append_left _ (List.mem_of_getElem? (i := 1) rfl))) (List.mem_cons_of_mem _ (List.mem_append_left _ (List.mem_of_getElem? (i := 2) rfl))) (List.mem_cons_of_mem _ (List.mem_append_left _ (List.mem_of_getElem? (i := 3) rfl))) (List.mem_cons_of_mem _ (List.mem_append_left _ (List.mem_of_getElem? (i := 4) rfl))) (gi_sub (fun w h => (List.mem_cons_of_mem _ (List.mem_append_right _ (List.mem_append_left _ h)))) zg_m216_X7_put)) rfl rfl rfl (by decide +kernel) ⟨Nat.le_of_ble_eq_true rfl, Nat.le_of_ble_eq_true rfl⟩ 6 rfl rfl rfl rfl (Nat.le_of_ble_eq_true rfl) ⟨Nat.le_of_ble_eq_true rfl, Nat.le_of_ble_eq_true rfl⟩ dX7_clear_17 (fun v ty' w' hp hk' => ?_)
  obtain ⟨rfl, rfl⟩ := hp
  show GW κ 2 0 0 (wX q d iX0 aX0) 20 [(1, .int 0), (0, .ref (q 6))] []
  refine g_iinc (v := 1) (lv' := [(1, .int 1), (0, .ref (q 6))]) hk 0 dX7_clear_20 rfl (by decide) (by decide) rfl ?_
  refine g_goto (tgt := 2) hk dX7_clear_23 (by decide) ?_
  refine g_iload_n hk dX7_clear_2 rfl ?_
  refine g_getsU hk (List.mem_cons_of_mem _ (List.mem_append_left _ (List.mem_of_getElem? (i := 0) rfl))) dX7_clear_3 ?_
  refine g_lenU hk dX7_clear_6 ?_
  refine g_icmp_ge (tgt := 26) (a := 1) (b := 4) hk dX7_clear_7 (by decide) rfl rfl (fun z9 => absurd z9 (show ¬ ((4 : Int) ≤ (1 : Int)) from by decide)) (fun _ => ?_)
  refine g_aload_n hk dX7_clear_10 rfl ?_
  refine g_iload_n hk dX7_clear_11 rfl ?_
  refine g_getsU hk (List.mem_cons_of_mem _ (List.mem_append_left _ (List.mem_of_getElem? (i := 0) rfl))) dX7_clear_12 ?_
  refine g_iload_n hk dX7_clear_15 rfl ?_
  refine g_sU (v := .int 0) hk (vp_in_iff.mpr ⟨by decide, by decide⟩) rfl dX7_clear_16 ?_
  refine g_callV (n := 2) hk (m217_X7_put l D zt d q) (SP.same _) (fun _ h => h) (gi_V (List.mem_cons_of_mem _ (List.mem_append_left _ (List.mem_of_getElem? (i := 1) rfl))) (List.mem_cons_of_mem _ (List.mem_append_left _ (List.mem_of_getElem? (i := 2) rfl))) (List.mem_cons_of_mem _ (List.mem_append_left _ (List.mem_of_getElem? (i := 3) rfl))) (List.mem_cons_of_mem _ (List.mem_append_left _ (List.mem_of_getElem? (i := 4) rfl))) (gi_sub (fun w h => (List.mem_cons_of_mem _ (List.mem_append_right _ (List.mem_append_right _ (List.mem_append_left _ h))))) zg_m217_X7_put)) rfl rfl rfl (by decide +kernel) ⟨Nat.le_of_ble_eq_true rfl, Nat.le_of_ble_eq_true rfl⟩ 6 rfl rfl rfl rfl (Nat.le_of_ble_eq_true rfl) ⟨Nat.le_of_ble_eq_true rfl, Nat.le_of_ble_eq_true rfl⟩ dX7_clear_17 (fun v ty' w' hp hk' => ?_)
  obtain ⟨rfl, rfl⟩ := hp
  show GW κ 2 0 0 (wX q d iX0 aX0) 20 [(1, .int 1), (0, .ref (q 6))] []
  refine g_iinc (v := 2) (lv' := [(1, .int 2), (0, .ref (q 6))]) hk 0 dX7_clear_20 rfl (by decide) (by decide) rfl ?_
  refine g_goto (tgt := 2) hk dX7_clear_23 (by decide) ?_
  refine g_iload_n hk dX7_clear_2 rfl ?_
  refine g_getsU hk (List.mem_cons_of_mem _ (List.mem_append_left _ (List.mem_of_getElem? (i := 0) rfl))) dX7_clear_3 ?_
  refine g_lenU hk dX7_clear_6 ?_
  refine g_icmp_ge (tgt := 26) (a := 2) (b := 4) hk dX7_clear_7 (by decide) rfl rfl (fun z9 => absurd z9 (show ¬ ((4 : Int) ≤ (2 : Int)) from by decide)) (fun _ => ?_)
  refine g_aload_n hk dX7_clear_10 rfl ?_
  refine g_iload_n hk dX7_clear_11 rfl ?_
  refine g_getsU hk (List.mem_cons_of_mem _ (List.mem_append_left _ (List.mem_of_getElem? (i := 0) rfl))) dX7_clear_12 ?_
  refine g_iload_n hk dX7_clear_15 rfl ?_
  refine g_sU (v := .int 0) hk (vp_in_iff.mpr ⟨by decide, by decide⟩) rfl dX7_clear_16 ?_
  refine g_callV (n := 2) hk (m218_X7_put l D zt d q) (SP.same _) (fun _ h => h) (gi_V (List.mem_cons_of_mem _ (List.mem_append_left _ (List.mem_of_getElem? (i := 1) rfl))) (List.mem_cons_of_mem _ (List.mem_append_left _ (List.mem_of_getElem? (i := 2) rfl))) (List.mem_cons_of_mem _ (List.mem_append_left _ (List.mem_of_getElem? (i := 3) rfl))) (List.mem_cons_of_mem _ (List.mem_append_left _ (List.mem_of_getElem? (i := 4) rfl))) (gi_sub (fun w h => (List.mem_cons_of_mem _ (List.mem_append_right _ (List.mem_append_right _ (List.mem_append_right _ (List.mem_append_left _ h)))))) zg_m218_X7_put)) rfl rfl rfl (by decide +kernel) ⟨Nat.le_of_ble_eq_true rfl, Nat.le_of_ble_eq_true rfl⟩ 6 rfl rfl rfl rfl (Nat.le_of_ble_eq_true rfl) ⟨Nat.le_of_ble_eq_true rfl, Nat.le_of_ble_eq_true rfl⟩ dX7_clear_17 (fun v ty' w' hp hk' => ?_)
  obtain ⟨rfl, rfl⟩ := hp
  show GW κ 2 0 0 (wX q d iX0 aX0) 20 [(1, .int 2), (0, .ref (q 6))] []
  refine g_iinc (v := 3) (lv' := [(1, .int 3), (0, .ref (q 6))]) hk 0 dX7_clear_20 rfl (by decide) (by decide) rfl ?_
  refine g_goto (tgt := 2) hk dX7_clear_23 (by decide) ?_
  refine g_iload_n hk dX7_clear_2 rfl ?_
  refine g_getsU hk (List.mem_cons_of_mem _ (List.mem_append_left _ (List.mem_of_getElem? (i := 0) rfl))) dX7_clear_3 ?_
  refine g_lenU hk dX7_clear_6 ?_
  refine g_icmp_ge (tgt := 26) (a := 3) (b := 4) hk dX7_clear_7 (by decide) rfl rfl (fun z9 => absurd z9 (show ¬ ((4 : Int) ≤ (3 : Int)) from by decide)) (fun _ => ?_)
  refine g_aload_n hk dX7_clear_10 rfl ?_
  refine g_iload_n hk dX7_clear_11 rfl ?_
  refine g_getsU hk (List.mem_cons_of_mem _ (List.mem_append_left _ (List.mem_of_getElem? (i := 0) rfl))) dX7_clear_12 ?_
  refine g_iload_n hk dX7_clear_15 rfl ?_
  refine g_sU (v := .int 8) hk (vp_in_iff.mpr ⟨by decide, by decide⟩) rfl dX7_clear_16 ?_
  refine g_callV (n := 2) hk (m219_X7_put l D zt d q) (SP.same _) (fun _ h => h) (gi_V (List.mem_cons_of_mem _ (List.mem_append_left _ (List.mem_of_getElem? (i := 1) rfl))) (List.mem_cons_of_mem _ (List.mem_append_left _ (List.mem_of_getElem? (i := 2) rfl))) (List.mem_cons_of_mem _ (List.mem_append_left _ (List.mem_of_getElem? (i := 3) rfl))) (List.mem_cons_of_mem _ (List.mem_append_left _ (List.mem_of_getElem? (i := 4) rfl))) (gi_sub (fun w h => (List.mem_cons_of_mem _ (List.mem_append_right _ (List.mem_append_right _ (List.mem_append_right _ (List.mem_append_right _ (List.mem_append_left _ h))))))) zg_m219_X7_put)) rfl rfl rfl (by decide +kernel) ⟨Nat.le_of_ble_eq_true rfl, Nat.le_of_ble_eq_true rfl⟩ 6 rfl rfl rfl rfl (Nat.le_of_ble_eq_true rfl) ⟨Nat.le_of_ble_eq_true rfl, Nat.le_of_ble_eq_true rfl⟩ dX7_clear_17 (fun v ty' w' hp hk' => ?_)
  obtain ⟨rfl, rfl⟩ := hp
  show GW κ 2 0 0 (wX q d iX0 aX0) 20 [(1, .int 3), (0, .ref (q 6))] []
  refine g_iinc (v := 4) (lv' := [(1, .int 4), (0, .ref (q 6))]) hk 0 dX7_clear_20 rfl (by decide) (by decide) rfl ?_
  refine g_goto (tgt := 2) hk dX7_clear_23 (by decide) ?_
  refine g_iload_n hk dX7_clear_2 rfl ?_
  refine g_getsU hk (List.mem_cons_of_mem _ (List.mem_append_left _ (List.mem_of_getElem? (i := 0) rfl))) dX7_clear_3 ?_
  refine g_lenU hk dX7_clear_6 ?_
  refine g_icmp_ge (tgt := 26) (a := 4) (b := 4) hk dX7_clear_7 (by decide) rfl rfl (fun _ => ?_) (fun z9 => absurd (show (4 : Int) ≤ (4 : Int) from by decide) z9)
  exact g_vret hk hR ⟨rfl, rfl⟩ dX7_clear_26
def wo_m214_X8_clear : List Cond := [Cond.fieldLink RX8 22 "WarpDesk$Stand" "size" "I", Cond.fieldLink RX8 18 "WarpDesk$Stand" "settings" "LWarpDesk$Settings;", Cond.methodLink RX8 26 yX7_clear, Cond.instanceMethod yX7_clear, Cond.selects RX7 yX7_clear yX7_clear, Cond.initialized RX7]
def wz_m214_X8_clear : List Cond := .code yX8_clear cX8_clear 1 none :: (wo_m214_X8_clear ++ (wsX80 ++ (wz_m215_X7_clear ++ ([] : List Cond))))
theorem zg_m214_X8_clear : ∀ w ∈ wz_m214_X8_clear, goodWord w = true := zg_cons rfl (zg_app (by decide +kernel) (zg_app zgU_wsX80 (zg_app zg_m215_X7_clear zg_nil)))
theorem zi_m214_X8_clear : ∀ w ∈ wz_m214_X8_clear, w ∈ lw_tbl := zi_cons zw_545 (zi_app (zi_cons zw_195 (zi_cons zw_198 (zi_cons zw_546 (zi_cons zw_547 (zi_cons zw_548 (zi_cons zw_107 zi_nil)))))) (zi_app inX8 (zi_app zi_m215_X7_clear zi_nil)))
set_option maxHeartbeats 4000000 in
set_option maxRecDepth 100000 in
theorem m214_X8_clear (l : Launch) (D : va_G) (zt : Nat × Nat × Nat) (d : Nat → ClassId) (q : Nat → Nat) : GM l D zt (tyX d) yX8_clear wz_m214_X8_clear ({ frames := 2, cells := 0, slots := 0, locals := 43 } : Room) [.ref (q 4)] (wX q d iX0 aX0) (fun v _ w' => v = none ∧ w' = wX q d iX0 aX0) 0 0 := by
  refine GM.of (cc := cX8_clear) (maxL := 1) (ret := none) (own := RX8) (lv := [(0, .ref (q 4))]) (by decide) rfl rfl (Nat.le_of_ble_eq_true rfl) rfl (fun κ sz hk hR hN => ?_)
  have hin8 : ∀ w ∈ u_ws RX8 TX8 4, w ∈ wz_m214_X8_clear := fun w h => (List.mem_cons_of_mem _ (List.mem_append_right _ (List.mem_append_left _ h)))
  refine g_aload_n hk dX8_clear_0 rfl ?_
  refine g_iconst (v := 0) hk dX8_clear_1 (by decide) ?_
  refine pX_i14 hk hin8 (List.mem_cons_of_mem _ (List.mem_append_left _ (List.mem_of_getElem? (i := 0) rfl))) dX8_clear_2 ?_
  refine gX_sameI rfl ?_
  refine g_aload_n hk dX8_clear_5 rfl ?_
  refine gX_r4_2 hk hin8 (List.mem_cons_of_mem _ (List.mem_append_left _ (List.mem_of_getElem? (i := 1) rfl))) dX8_clear_6 ?_
  refine g_callV (n := 0) hk (m215_X7_clear l D zt d q) (SP.same _) (fun _ h => h) (gi_V (List.mem_cons_of_mem _ (List.mem_append_left _ (List.mem_of_getElem? (i := 2) rfl))) (List.mem_cons_of_mem _ (List.mem_append_left _ (List.mem_of_getElem? (i := 3) rfl))) (List.mem_cons_of_mem _ (List.mem_append_left _ (List.mem_of_getElem? (i := 4) rfl))) (List.mem_cons_of_mem _ (List.mem_append_left _ (List.mem_of_getElem? (i := 5) rfl))) (gi_sub (fun w h => (List.mem_cons_of_mem _ (List.mem_append_right _ (List.mem_append_right _ (List.mem_append_left _ h))))) zg_m215_X7_clear)) rfl rfl rfl (by decide +kernel) ⟨Nat.le_of_ble_eq_true rfl, Nat.le_of_ble_eq_true rfl⟩ 6 rfl rfl rfl rfl (Nat.le_of_ble_eq_true rfl) ⟨Nat.le_of_ble_eq_true rfl, Nat.le_of_ble_eq_true rfl⟩ dX8_clear_9 (fun v ty' w' hp hk' => ?_)
  obtain ⟨rfl, rfl⟩ := hp
  show GW κ 1 0 0 (wX q d iX0 aX0) 12 [(0, .ref (q 4))] []
  exact g_vret hk hR ⟨rfl, rfl⟩ dX8_clear_12
def wo_m222_X10_behindBlanks : List Cond := [Cond.fieldLink RX10 15 "WarpDesk$Tape" "size" "I"]
def wz_m222_X10_behindBlanks : List Cond := .code yX10_behindBlanks cX10_behindBlanks 4 (some .int) :: (wo_m222_X10_behindBlanks ++ (wsX100 ++ ([] : List Cond)))
theorem zg_m222_X10_behindBlanks : ∀ w ∈ wz_m222_X10_behindBlanks, goodWord w = true := zg_cons rfl (zg_app (by decide +kernel) (zg_app zgU_wsX100 zg_nil))
theorem zi_m222_X10_behindBlanks : ∀ w ∈ wz_m222_X10_behindBlanks, w ∈ lw_tbl := zi_cons zw_565 (zi_app (zi_cons zw_137 zi_nil) (zi_app inX10 zi_nil))
set_option maxHeartbeats 4000000 in
set_option maxRecDepth 100000 in
theorem m222_X10_behindBlanks (l : Launch) (D : va_G) (zt : Nat × Nat × Nat) (d : Nat → ClassId) (q : Nat → Nat) : GM l D zt (tyX d) yX10_behindBlanks wz_m222_X10_behindBlanks ({ frames := 0, cells := 0, slots := 0, locals := 0 } : Room) [.ref (q 1), .int 0] (wX q d iX0 aX0) (fun v _ w' => v = some (.int 0) ∧ w' = wX q d iX0 aX0) 0 0 := by
  refine GM.of (cc := cX10_behindBlanks) (maxL := 4) (ret := (some .int)) (own := RX10) (lv := [(0, .ref (q 1)), (1, .int 0)]) (by decide) rfl rfl (Nat.le_of_ble_eq_true rfl) rfl (fun κ sz hk hR hN => ?_)
  have hin10 : ∀ w ∈ u_ws RX10 TX10 7, w ∈ wz_m222_X10_behindBlanks := fun w h => (List.mem_cons_of_mem _ (List.mem_append_right _ (List.mem_append_left _ h)))
  refine g_iload_n hk dX10_behindBlanks_0 rfl ?_
  refine g_istore_n (lv' := [(2, .int 0), (0, .ref (q 1)), (1, .int 0)]) hk dX10_behindBlanks_1 (by decide) rfl ?_
  refine g_iload_n hk dX10_behindBlanks_2 rfl ?_
  refine g_aload_n hk dX10_behindBlanks_3 rfl ?_
  refine gX_i0 (v := 0) hk hin10 (List.mem_cons_of_mem _ (List.mem_append_left _ (List.mem_of_getElem? (i := 0) rfl))) dX10_behindBlanks_4 rfl ?_
  refine g_icmp_ge (tgt := 48) (a := 0) (b := 0) hk dX10_behindBlanks_7 (by decide) rfl rfl (fun _ => ?_) (fun z9 => absurd (show (0 : Int) ≤ (0 : Int) from by decide) z9)
  refine g_aload_n hk dX10_behindBlanks_48 rfl ?_
  refine gX_i0 (v := 0) hk hin10 (List.mem_cons_of_mem _ (List.mem_append_left _ (List.mem_of_getElem? (i := 0) rfl))) dX10_behindBlanks_49 rfl ?_
  exact g_iret hk hR rfl ⟨rfl, rfl⟩ dX10_behindBlanks_52
def wo_m223_X10_byteAt : List Cond := [Cond.fieldLink RX10 15 "WarpDesk$Tape" "size" "I"]
def wz_m223_X10_byteAt : List Cond := .code yX10_byteAt cX10_byteAt 2 (some .int) :: (wo_m223_X10_byteAt ++ (wsX100 ++ ([] : List Cond)))
theorem zg_m223_X10_byteAt : ∀ w ∈ wz_m223_X10_byteAt, goodWord w = true := zg_cons rfl (zg_app (by decide +kernel) (zg_app zgU_wsX100 zg_nil))
theorem zi_m223_X10_byteAt : ∀ w ∈ wz_m223_X10_byteAt, w ∈ lw_tbl := zi_cons zw_569 (zi_app (zi_cons zw_137 zi_nil) (zi_app inX10 zi_nil))
set_option maxHeartbeats 4000000 in
set_option maxRecDepth 100000 in
theorem m223_X10_byteAt (l : Launch) (D : va_G) (zt : Nat × Nat × Nat) (d : Nat → ClassId) (q : Nat → Nat) : GM l D zt (tyX d) yX10_byteAt wz_m223_X10_byteAt ({ frames := 0, cells := 0, slots := 0, locals := 0 } : Room) [.ref (q 1), .int 0] (wX q d (upd iX0 4 1) aX0) (fun v _ w' => v = some (.int (-1)) ∧ w' = wX q d (upd iX0 4 1) aX0) 0 0 := by
  refine GM.of (cc := cX10_byteAt) (maxL := 2) (ret := (some .int)) (own := RX10) (lv := [(0, .ref (q 1)), (1, .int 0)]) (by decide) rfl rfl (Nat.le_of_ble_eq_true rfl) rfl (fun κ sz hk hR hN => ?_)
  have hin10 : ∀ w ∈ u_ws RX10 TX10 7, w ∈ wz_m223_X10_byteAt := fun w h => (List.mem_cons_of_mem _ (List.mem_append_right _ (List.mem_append_left _ h)))
  refine g_iload_n hk dX10_byteAt_0 rfl ?_
  refine g_if_lt (tgt := 30) (a := 0) hk dX10_byteAt_1 (by decide) rfl (fun z9 => absurd z9 (show ¬ ((0 : Int) < (0 : Int)) from by decide)) (fun _ => ?_)
  refine g_iload_n hk dX10_byteAt_4 rfl ?_
  refine g_aload_n hk dX10_byteAt_5 rfl ?_
  refine gX_i0 (v := 0) hk hin10 (List.mem_cons_of_mem _ (List.mem_append_left _ (List.mem_of_getElem? (i := 0) rfl))) dX10_byteAt_6 rfl ?_
  refine g_icmp_ge (tgt := 30) (a := 0) (b := 0) hk dX10_byteAt_9 (by decide) rfl rfl (fun _ => ?_) (fun z9 => absurd (show (0 : Int) ≤ (0 : Int) from by decide) z9)
  refine g_iconst (v := (-1)) hk dX10_byteAt_30 (by decide) ?_
  exact g_iret hk hR rfl ⟨rfl, rfl⟩ dX10_byteAt_31
def wo_m221_X10_toNextToken : List Cond := [Cond.fieldLink RX10 19 "WarpDesk$Tape" "behind" "I", Cond.methodLink RX10 28 yX10_behindBlanks, Cond.instanceMethod yX10_behindBlanks, Cond.selects RX10 yX10_behindBlanks yX10_behindBlanks, Cond.initialized RX10, Cond.fieldLink RX10 32 "WarpDesk$Tape" "start" "I", Cond.fieldLink RX10 22 "WarpDesk$Tape" "number" "I", Cond.fieldLink RX10 35 "WarpDesk$Tape" "value" "I", Cond.methodLink RX10 38 yX10_byteAt, Cond.instanceMethod yX10_byteAt, Cond.selects RX10 yX10_byteAt yX10_byteAt, Cond.fieldLink RX10 41 "WarpDesk$Tape" "kind" "I"]
def wz_m221_X10_toNextToken : List Cond := .code yX10_toNextToken cX10_toNextToken 2 none :: (wo_m221_X10_toNextToken ++ (wsX100 ++ (wz_m222_X10_behindBlanks ++ (wz_m223_X10_byteAt ++ ([] : List Cond)))))
theorem zg_m221_X10_toNextToken : ∀ w ∈ wz_m221_X10_toNextToken, goodWord w = true := zg_cons rfl (zg_app (by decide +kernel) (zg_app zgU_wsX100 (zg_app zg_m222_X10_behindBlanks (zg_app zg_m223_X10_byteAt zg_nil))))
theorem zi_m221_X10_toNextToken : ∀ w ∈ wz_m221_X10_toNextToken, w ∈ lw_tbl := zi_cons zw_561 (zi_app (zi_cons zw_146 (zi_cons zw_562 (zi_cons zw_564 (zi_cons zw_1 (zi_cons zw_104 (zi_cons zw_140 (zi_cons zw_144 (zi_cons zw_142 (zi_cons zw_566 (zi_cons zw_568 (zi_cons zw_2 (zi_cons zw_139 zi_nil)))))))))))) (zi_app inX10 (zi_app zi_m222_X10_behindBlanks (zi_app zi_m223_X10_byteAt zi_nil))))
set_option maxHeartbeats 4000000 in
set_option maxRecDepth 100000 in
theorem m221_X10_toNextToken (l : Launch) (D : va_G) (zt : Nat × Nat × Nat) (d : Nat → ClassId) (q : Nat → Nat) : GM l D zt (tyX d) yX10_toNextToken wz_m221_X10_toNextToken ({ frames := 1, cells := 0, slots := 0, locals := 23 } : Room) [.ref (q 1)] (wX q d iX0 aX0) (fun v _ w' => v = none ∧ w' = wX q d (upd iX0 4 1) aX0) 0 0 := by
  refine GM.of (cc := cX10_toNextToken) (maxL := 2) (ret := none) (own := RX10) (lv := [(0, .ref (q 1))]) (by decide) rfl rfl (Nat.le_of_ble_eq_true rfl) rfl (fun κ sz hk hR hN => ?_)
  have hin10 : ∀ w ∈ u_ws RX10 TX10 7, w ∈ wz_m221_X10_toNextToken := fun w h => (List.mem_cons_of_mem _ (List.mem_append_right _ (List.mem_append_left _ h)))
  refine g_aload_n hk dX10_toNextToken_0 rfl ?_
  refine g_aload_n hk dX10_toNextToken_1 rfl ?_
  refine g_aload_n hk dX10_toNextToken_2 rfl ?_
  refine gX_i5 (v := 0) hk hin10 (List.mem_cons_of_mem _ (List.mem_append_left _ (List.mem_of_getElem? (i := 0) rfl))) dX10_toNextToken_3 rfl ?_
  refine g_callV (n := 1) hk (m222_X10_behindBlanks l D zt d q) (SP.same _) (fun _ h => h) (gi_V (List.mem_cons_of_mem _ (List.mem_append_left _ (List.mem_of_getElem? (i := 1) rfl))) (List.mem_cons_of_mem _ (List.mem_append_left _ (List.mem_of_getElem? (i := 2) rfl))) (List.mem_cons_of_mem _ (List.mem_append_left _ (List.mem_of_getElem? (i := 3) rfl))) (List.mem_cons_of_mem _ (List.mem_append_left _ (List.mem_of_getElem? (i := 4) rfl))) (gi_sub (fun w h => (List.mem_cons_of_mem _ (List.mem_append_right _ (List.mem_append_right _ (List.mem_append_left _ h))))) zg_m222_X10_behindBlanks)) rfl rfl rfl (by decide +kernel) ⟨Nat.le_of_ble_eq_true rfl, Nat.le_of_ble_eq_true rfl⟩ 1 rfl rfl rfl rfl (Nat.le_of_ble_eq_true rfl) ⟨Nat.le_of_ble_eq_true rfl, Nat.le_of_ble_eq_true rfl⟩ dX10_toNextToken_6 (fun v ty' w' hp hk' => ?_)
  obtain ⟨rfl, rfl⟩ := hp
  show GW κ 2 0 0 (wX q d iX0 aX0) 9 [(0, .ref (q 1))] [.int 0, .ref (q 1)]
  refine pX_i2 hk hin10 (List.mem_cons_of_mem _ (List.mem_append_left _ (List.mem_of_getElem? (i := 5) rfl))) dX10_toNextToken_9 ?_
  refine gX_sameI rfl ?_
  refine g_aload_n hk dX10_toNextToken_12 rfl ?_
  refine g_dup hk dX10_toNextToken_13 rfl ?_
  refine gX_i4 (v := 0) hk hin10 (List.mem_cons_of_mem _ (List.mem_append_left _ (List.mem_of_getElem? (i := 6) rfl))) dX10_toNextToken_14 rfl ?_
  refine g_iconst (v := 1) hk dX10_toNextToken_17 (by decide) ?_
  refine g_iadd hk dX10_toNextToken_18 ?_
  refine g_norm (v := 1) (by decide) ?_
  refine pX_i4 hk hin10 (List.mem_cons_of_mem _ (List.mem_append_left _ (List.mem_of_getElem? (i := 6) rfl))) dX10_toNextToken_19 ?_
  refine g_aload_n hk dX10_toNextToken_22 rfl ?_
  refine g_iconst (v := 0) hk dX10_toNextToken_23 (by decide) ?_
  refine pX_i3 hk hin10 (List.mem_cons_of_mem _ (List.mem_append_left _ (List.mem_of_getElem? (i := 7) rfl))) dX10_toNextToken_24 ?_
  refine gX_sameI rfl ?_
  refine g_aload_n hk dX10_toNextToken_27 rfl ?_
  refine g_aload_n hk dX10_toNextToken_28 rfl ?_
  refine gX_i2 (v := 0) hk hin10 (List.mem_cons_of_mem _ (List.mem_append_left _ (List.mem_of_getElem? (i := 5) rfl))) dX10_toNextToken_29 rfl ?_
  refine g_callV (n := 1) hk (m223_X10_byteAt l D zt d q) (SP.same _) (fun _ h => h) (gi_V (List.mem_cons_of_mem _ (List.mem_append_left _ (List.mem_of_getElem? (i := 8) rfl))) (List.mem_cons_of_mem _ (List.mem_append_left _ (List.mem_of_getElem? (i := 9) rfl))) (List.mem_cons_of_mem _ (List.mem_append_left _ (List.mem_of_getElem? (i := 10) rfl))) (List.mem_cons_of_mem _ (List.mem_append_left _ (List.mem_of_getElem? (i := 4) rfl))) (gi_sub (fun w h => (List.mem_cons_of_mem _ (List.mem_append_right _ (List.mem_append_right _ (List.mem_append_right _ (List.mem_append_left _ h)))))) zg_m223_X10_byteAt)) rfl rfl rfl (by decide +kernel) ⟨Nat.le_of_ble_eq_true rfl, Nat.le_of_ble_eq_true rfl⟩ 1 rfl rfl rfl rfl (Nat.le_of_ble_eq_true rfl) ⟨Nat.le_of_ble_eq_true rfl, Nat.le_of_ble_eq_true rfl⟩ dX10_toNextToken_32 (fun v ty' w' hp hk' => ?_)
  obtain ⟨rfl, rfl⟩ := hp
  show GW κ 2 0 0 (wX q d (upd iX0 4 1) aX0) 35 [(0, .ref (q 1))] [.int (-1)]
  refine g_istore_n (lv' := [(1, .int (-1)), (0, .ref (q 1))]) hk dX10_toNextToken_35 (by decide) rfl ?_
  refine g_iload_n hk dX10_toNextToken_36 rfl ?_
  refine g_if_ge (tgt := 56) (a := (-1)) hk dX10_toNextToken_37 (by decide) rfl (fun z9 => absurd z9 (show ¬ ((0 : Int) ≤ ((-1) : Int)) from by decide)) (fun _ => ?_)
  refine g_aload_n hk dX10_toNextToken_40 rfl ?_
  refine g_iconst (v := 0) hk dX10_toNextToken_41 (by decide) ?_
  refine pX_i1 hk hin10 (List.mem_cons_of_mem _ (List.mem_append_left _ (List.mem_of_getElem? (i := 11) rfl))) dX10_toNextToken_42 ?_
  refine gX_sameI rfl ?_
  refine g_aload_n hk dX10_toNextToken_45 rfl ?_
  refine g_aload_n hk dX10_toNextToken_46 rfl ?_
  refine gX_i2 (v := 0) hk hin10 (List.mem_cons_of_mem _ (List.mem_append_left _ (List.mem_of_getElem? (i := 5) rfl))) dX10_toNextToken_47 rfl ?_
  refine pX_i5 hk hin10 (List.mem_cons_of_mem _ (List.mem_append_left _ (List.mem_of_getElem? (i := 0) rfl))) dX10_toNextToken_50 ?_
  refine gX_sameI rfl ?_
  refine g_goto (tgt := 119) hk dX10_toNextToken_53 (by decide) ?_
  exact g_vret hk hR ⟨rfl, rfl⟩ dX10_toNextToken_119
def wo_m220_X10_toFirstToken : List Cond := [Cond.fieldLink RX10 19 "WarpDesk$Tape" "behind" "I", Cond.fieldLink RX10 22 "WarpDesk$Tape" "number" "I", Cond.methodLink RX10 25 yX10_toNextToken, Cond.instanceMethod yX10_toNextToken, Cond.selects RX10 yX10_toNextToken yX10_toNextToken, Cond.initialized RX10]
def wz_m220_X10_toFirstToken : List Cond := .code yX10_toFirstToken cX10_toFirstToken 1 none :: (wo_m220_X10_toFirstToken ++ (wsX100 ++ (wz_m221_X10_toNextToken ++ ([] : List Cond))))
theorem zg_m220_X10_toFirstToken : ∀ w ∈ wz_m220_X10_toFirstToken, goodWord w = true := zg_cons rfl (zg_app (by decide +kernel) (zg_app zgU_wsX100 (zg_app zg_m221_X10_toNextToken zg_nil)))
theorem zi_m220_X10_toFirstToken : ∀ w ∈ wz_m220_X10_toFirstToken, w ∈ lw_tbl := zi_cons zw_557 (zi_app (zi_cons zw_146 (zi_cons zw_144 (zi_cons zw_558 (zi_cons zw_559 (zi_cons zw_560 (zi_cons zw_104 zi_nil)))))) (zi_app inX10 (zi_app zi_m221_X10_toNextToken zi_nil)))
set_option maxHeartbeats 4000000 in
set_option maxRecDepth 100000 in
theorem m220_X10_toFirstToken (l : Launch) (D : va_G) (zt : Nat × Nat × Nat) (d : Nat → ClassId) (q : Nat → Nat) : GM l D zt (tyX d) yX10_toFirstToken wz_m220_X10_toFirstToken ({ frames := 2, cells := 0, slots := 0, locals := 44 } : Room) [.ref (q 1)] (wX q d iX0 aX0) (fun v _ w' => v = none ∧ w' = wX q d (upd iX0 4 1) aX0) 0 0 := by
  refine GM.of (cc := cX10_toFirstToken) (maxL := 1) (ret := none) (own := RX10) (lv := [(0, .ref (q 1))]) (by decide) rfl rfl (Nat.le_of_ble_eq_true rfl) rfl (fun κ sz hk hR hN => ?_)
  have hin10 : ∀ w ∈ u_ws RX10 TX10 7, w ∈ wz_m220_X10_toFirstToken := fun w h => (List.mem_cons_of_mem _ (List.mem_append_right _ (List.mem_append_left _ h)))
  refine g_aload_n hk dX10_toFirstToken_0 rfl ?_
  refine g_iconst (v := 0) hk dX10_toFirstToken_1 (by decide) ?_
  refine pX_i5 hk hin10 (List.mem_cons_of_mem _ (List.mem_append_left _ (List.mem_of_getElem? (i := 0) rfl))) dX10_toFirstToken_2 ?_
  refine gX_sameI rfl ?_
  refine g_aload_n hk dX10_toFirstToken_5 rfl ?_
  refine g_iconst (v := 0) hk dX10_toFirstToken_6 (by decide) ?_
  refine pX_i4 hk hin10 (List.mem_cons_of_mem _ (List.mem_append_left _ (List.mem_of_getElem? (i := 1) rfl))) dX10_toFirstToken_7 ?_
  refine gX_sameI rfl ?_
  refine g_aload_n hk dX10_toFirstToken_10 rfl ?_
  refine g_callV (n := 0) hk (m221_X10_toNextToken l D zt d q) (SP.same _) (fun _ h => h) (gi_V (List.mem_cons_of_mem _ (List.mem_append_left _ (List.mem_of_getElem? (i := 2) rfl))) (List.mem_cons_of_mem _ (List.mem_append_left _ (List.mem_of_getElem? (i := 3) rfl))) (List.mem_cons_of_mem _ (List.mem_append_left _ (List.mem_of_getElem? (i := 4) rfl))) (List.mem_cons_of_mem _ (List.mem_append_left _ (List.mem_of_getElem? (i := 5) rfl))) (gi_sub (fun w h => (List.mem_cons_of_mem _ (List.mem_append_right _ (List.mem_append_right _ (List.mem_append_left _ h))))) zg_m221_X10_toNextToken)) rfl rfl rfl (by decide +kernel) ⟨Nat.le_of_ble_eq_true rfl, Nat.le_of_ble_eq_true rfl⟩ 1 rfl rfl rfl rfl (Nat.le_of_ble_eq_true rfl) ⟨Nat.le_of_ble_eq_true rfl, Nat.le_of_ble_eq_true rfl⟩ dX10_toFirstToken_11 (fun v ty' w' hp hk' => ?_)
  obtain ⟨rfl, rfl⟩ := hp
  show GW κ 1 0 0 (wX q d (upd iX0 4 1) aX0) 14 [(0, .ref (q 1))] []
  exact g_vret hk hR ⟨rfl, rfl⟩ dX10_toFirstToken_14
def wo_m213_X5_begin : List Cond := [Cond.fieldLink RX5 12 "WarpDesk$Reader" "draft" "LWarpDesk$Stand;", Cond.methodLink RX5 81 yX8_clear, Cond.instanceMethod yX8_clear, Cond.selects RX8 yX8_clear yX8_clear, Cond.initialized RX8, Cond.fieldLink RX5 21 "WarpDesk$Reader" "queries" "LWarpDesk$Queries;", Cond.fieldLink RX5 84 "WarpDesk$Queries" "size" "I", Cond.fieldLink RX5 75 "WarpDesk$Reader" "state" "I", Cond.fieldLink RX5 87 "WarpDesk$Reader" "isNegative" "Z", Cond.fieldLink RX5 32 "WarpDesk$Reader" "told" "I", Cond.fieldLink RX5 49 "WarpDesk$Reader" "isStopped" "Z", Cond.fieldLink RX5 78 "WarpDesk$Reader" "fault" "I", Cond.fieldLink RX5 36 "WarpDesk$Reader" "faultPlace" "I", Cond.fieldLink RX5 39 "WarpDesk$Reader" "faultCause" "I", Cond.fieldLink RX5 42 "WarpDesk$Reader" "tape" "LWarpDesk$Tape;", Cond.methodLink RX5 90 yX10_toFirstToken, Cond.instanceMethod yX10_toFirstToken, Cond.selects RX10 yX10_toFirstToken yX10_toFirstToken, Cond.initialized RX10]
def wz_m213_X5_begin : List Cond := .code yX5_begin cX5_begin 1 none :: (wo_m213_X5_begin ++ (wsX40 ++ (wsX50 ++ (wz_m214_X8_clear ++ (wz_m220_X10_toFirstToken ++ ([] : List Cond))))))
theorem zg_m213_X5_begin : ∀ w ∈ wz_m213_X5_begin, goodWord w = true := zg_cons rfl (zg_app (by decide +kernel) (zg_app zgU_wsX40 (zg_app zgU_wsX50 (zg_app zg_m214_X8_clear (zg_app zg_m220_X10_toFirstToken zg_nil)))))
theorem zi_m213_X5_begin : ∀ w ∈ wz_m213_X5_begin, w ∈ lw_tbl := zi_cons zw_541 (zi_app (zi_cons zw_231 (zi_cons zw_542 (zi_cons zw_543 (zi_cons zw_544 (zi_cons zw_106 (zi_cons zw_233 (zi_cons zw_220 (zi_cons zw_237 (zi_cons zw_239 (zi_cons zw_240 (zi_cons zw_241 (zi_cons zw_242 (zi_cons zw_243 (zi_cons zw_245 (zi_cons zw_230 (zi_cons zw_554 (zi_cons zw_555 (zi_cons zw_556 (zi_cons zw_104 zi_nil))))))))))))))))))) (zi_app inX4 (zi_app inX5 (zi_app zi_m214_X8_clear (zi_app zi_m220_X10_toFirstToken zi_nil)))))
set_option maxHeartbeats 4000000 in
set_option maxRecDepth 100000 in
theorem m213_X5_begin (l : Launch) (D : va_G) (zt : Nat × Nat × Nat) (d : Nat → ClassId) (q : Nat → Nat) : GM l D zt (tyX d) yX5_begin wz_m213_X5_begin ({ frames := 3, cells := 0, slots := 0, locals := 64 } : Room) [.ref (q 3)] (wX q d iX0 aX0) (fun v _ w' => v = none ∧ w' = wX q d (upd iX0 4 1) aX0) 0 0 := by
  refine GM.of (cc := cX5_begin) (maxL := 1) (ret := none) (own := RX5) (lv := [(0, .ref (q 3))]) (by decide) rfl rfl (Nat.le_of_ble_eq_true rfl) rfl (fun κ sz hk hR hN => ?_)
  have hin4 : ∀ w ∈ u_ws RX4 TX4 3, w ∈ wz_m213_X5_begin := fun w h => (List.mem_cons_of_mem _ (List.mem_append_right _ (List.mem_append_left _ h)))
  have hin5 : ∀ w ∈ u_ws RX5 TX5 13, w ∈ wz_m213_X5_begin := fun w h => (List.mem_cons_of_mem _ (List.mem_append_right _ (List.mem_append_right _ (List.mem_append_left _ h))))
  refine g_aload_n hk dX5_begin_0 rfl ?_
  refine gX_r3_1 hk hin5 (List.mem_cons_of_mem _ (List.mem_append_left _ (List.mem_of_getElem? (i := 0) rfl))) dX5_begin_1 ?_
  refine g_callV (n := 0) hk (m214_X8_clear l D zt d q) (SP.same _) (fun _ h => h) (gi_V (List.mem_cons_of_mem _ (List.mem_append_left _ (List.mem_of_getElem? (i := 1) rfl))) (List.mem_cons_of_mem _ (List.mem_append_left _ (List.mem_of_getElem? (i := 2) rfl))) (List.mem_cons_of_mem _ (List.mem_append_left _ (List.mem_of_getElem? (i := 3) rfl))) (List.mem_cons_of_mem _ (List.mem_append_left _ (List.mem_of_getElem? (i := 4) rfl))) (gi_sub (fun w h => (List.mem_cons_of_mem _ (List.mem_append_right _ (List.mem_append_right _ (List.mem_append_right _ (List.mem_append_left _ h)))))) zg_m214_X8_clear)) rfl rfl rfl (by decide +kernel) ⟨Nat.le_of_ble_eq_true rfl, Nat.le_of_ble_eq_true rfl⟩ 4 rfl rfl rfl rfl (Nat.le_of_ble_eq_true rfl) ⟨Nat.le_of_ble_eq_true rfl, Nat.le_of_ble_eq_true rfl⟩ dX5_begin_4 (fun v ty' w' hp hk' => ?_)
  obtain ⟨rfl, rfl⟩ := hp
  show GW κ 1 0 0 (wX q d iX0 aX0) 7 [(0, .ref (q 3))] []
  refine g_aload_n hk dX5_begin_7 rfl ?_
  refine gX_r3_2 hk hin5 (List.mem_cons_of_mem _ (List.mem_append_left _ (List.mem_of_getElem? (i := 5) rfl))) dX5_begin_8 ?_
  refine g_iconst (v := 0) hk dX5_begin_11 (by decide) ?_
  refine pX_i16 hk hin4 (List.mem_cons_of_mem _ (List.mem_append_left _ (List.mem_of_getElem? (i := 6) rfl))) dX5_begin_12 ?_
  refine gX_sameI rfl ?_
  refine g_aload_n hk dX5_begin_15 rfl ?_
  refine g_iconst (v := 0) hk dX5_begin_16 (by decide) ?_
  refine pX_i6 hk hin5 (List.mem_cons_of_mem _ (List.mem_append_left _ (List.mem_of_getElem? (i := 7) rfl))) dX5_begin_17 ?_
  refine gX_sameI rfl ?_
  refine g_aload_n hk dX5_begin_20 rfl ?_
  refine g_iconst (v := 0) hk dX5_begin_21 (by decide) ?_
  refine pX_i8 hk hin5 (List.mem_cons_of_mem _ (List.mem_append_left _ (List.mem_of_getElem? (i := 8) rfl))) ⟨rfl, rfl⟩ dX5_begin_22 ?_
  refine gX_sameI rfl ?_
  refine g_aload_n hk dX5_begin_25 rfl ?_
  refine g_bipush (v := (-2)) hk dX5_begin_26 (by decide) ?_
  refine pX_i9 hk hin5 (List.mem_cons_of_mem _ (List.mem_append_left _ (List.mem_of_getElem? (i := 9) rfl))) dX5_begin_28 ?_
  refine gX_sameI rfl ?_
  refine g_aload_n hk dX5_begin_31 rfl ?_
  refine g_iconst (v := 0) hk dX5_begin_32 (by decide) ?_
  refine pX_i10 hk hin5 (List.mem_cons_of_mem _ (List.mem_append_left _ (List.mem_of_getElem? (i := 10) rfl))) ⟨rfl, rfl⟩ dX5_begin_33 ?_
  refine gX_sameI rfl ?_
  refine g_aload_n hk dX5_begin_36 rfl ?_
  refine g_iconst (v := 0) hk dX5_begin_37 (by decide) ?_
  refine pX_i11 hk hin5 (List.mem_cons_of_mem _ (List.mem_append_left _ (List.mem_of_getElem? (i := 11) rfl))) dX5_begin_38 ?_
  refine gX_sameI rfl ?_
  refine g_aload_n hk dX5_begin_41 rfl ?_
  refine g_iconst (v := (-1)) hk dX5_begin_42 (by decide) ?_
  refine pX_i12 hk hin5 (List.mem_cons_of_mem _ (List.mem_append_left _ (List.mem_of_getElem? (i := 12) rfl))) dX5_begin_43 ?_
  refine gX_sameI rfl ?_
  refine g_aload_n hk dX5_begin_46 rfl ?_
  refine g_iconst (v := (-1)) hk dX5_begin_47 (by decide) ?_
  refine pX_i13 hk hin5 (List.mem_cons_of_mem _ (List.mem_append_left _ (List.mem_of_getElem? (i := 13) rfl))) dX5_begin_48 ?_
  refine gX_sameI rfl ?_
  refine g_aload_n hk dX5_begin_51 rfl ?_
  refine gX_r3_0 hk hin5 (List.mem_cons_of_mem _ (List.mem_append_left _ (List.mem_of_getElem? (i := 14) rfl))) dX5_begin_52 ?_
  refine g_callV (n := 0) hk (m220_X10_toFirstToken l D zt d q) (SP.same _) (fun _ h => h) (gi_V (List.mem_cons_of_mem _ (List.mem_append_left _ (List.mem_of_getElem? (i := 15) rfl))) (List.mem_cons_of_mem _ (List.mem_append_left _ (List.mem_of_getElem? (i := 16) rfl))) (List.mem_cons_of_mem _ (List.mem_append_left _ (List.mem_of_getElem? (i := 17) rfl))) (List.mem_cons_of_mem _ (List.mem_append_left _ (List.mem_of_getElem? (i := 18) rfl))) (gi_sub (fun w h => (List.mem_cons_of_mem _ (List.mem_append_right _ (List.mem_append_right _ (List.mem_append_right _ (List.mem_append_right _ (List.mem_append_left _ h))))))) zg_m220_X10_toFirstToken)) rfl rfl rfl (by decide +kernel) ⟨Nat.le_of_ble_eq_true rfl, Nat.le_of_ble_eq_true rfl⟩ 1 rfl rfl rfl rfl (Nat.le_of_ble_eq_true rfl) ⟨Nat.le_of_ble_eq_true rfl, Nat.le_of_ble_eq_true rfl⟩ dX5_begin_55 (fun v ty' w' hp hk' => ?_)
  obtain ⟨rfl, rfl⟩ := hp
  show GW κ 1 0 0 (wX q d (upd iX0 4 1) aX0) 58 [(0, .ref (q 3))] []
  exact g_vret hk hR ⟨rfl, rfl⟩ dX5_begin_58
def wo_m212_X5_readText : List Cond := [Cond.methodLink RX5 46 yX5_begin, Cond.instanceMethod yX5_begin, Cond.selects RX5 yX5_begin yX5_begin, Cond.initialized RX5, Cond.fieldLink RX5 49 "WarpDesk$Reader" "isStopped" "Z", Cond.fieldLink RX5 42 "WarpDesk$Reader" "tape" "LWarpDesk$Tape;", Cond.fieldLink RX5 53 "WarpDesk$Tape" "kind" "I", Cond.fieldLink RX5 75 "WarpDesk$Reader" "state" "I", Cond.fieldLink RX5 78 "WarpDesk$Reader" "fault" "I"]
def wz_m212_X5_readText : List Cond := .code yX5_readText cX5_readText 2 (some .int) :: (wo_m212_X5_readText ++ (wsX50 ++ (wsX100 ++ (wz_m213_X5_begin ++ ([] : List Cond)))))
theorem zg_m212_X5_readText : ∀ w ∈ wz_m212_X5_readText, goodWord w = true := zg_cons rfl (zg_app (by decide +kernel) (zg_app zgU_wsX50 (zg_app zgU_wsX100 (zg_app zg_m213_X5_begin zg_nil))))
theorem zi_m212_X5_readText : ∀ w ∈ wz_m212_X5_readText, w ∈ lw_tbl := zi_cons zw_537 (zi_app (zi_cons zw_538 (zi_cons zw_540 (zi_cons zw_0 (zi_cons zw_105 (zi_cons zw_241 (zi_cons zw_230 (zi_cons zw_138 (zi_cons zw_237 (zi_cons zw_242 zi_nil))))))))) (zi_app inX5 (zi_app inX10 (zi_app zi_m213_X5_begin zi_nil))))
set_option maxHeartbeats 4000000 in
set_option maxRecDepth 100000 in
theorem m212_X5_readText (l : Launch) (D : va_G) (zt : Nat × Nat × Nat) (d : Nat → ClassId) (q : Nat → Nat) : GM l D zt (tyX d) yX5_readText wz_m212_X5_readText ({ frames := 4, cells := 0, slots := 0, locals := 84 } : Room) [.ref (q 3)] (wX q d iX0 aX0) (fun v _ w' => v = some (.int 0) ∧ w' = wX q d (upd iX0 4 1) aX0) 0 0 := by
  refine GM.of (cc := cX5_readText) (maxL := 2) (ret := (some .int)) (own := RX5) (lv := [(0, .ref (q 3))]) (by decide) rfl rfl (Nat.le_of_ble_eq_true rfl) rfl (fun κ sz hk hR hN => ?_)
  have hin5 : ∀ w ∈ u_ws RX5 TX5 13, w ∈ wz_m212_X5_readText := fun w h => (List.mem_cons_of_mem _ (List.mem_append_right _ (List.mem_append_left _ h)))
  have hin10 : ∀ w ∈ u_ws RX10 TX10 7, w ∈ wz_m212_X5_readText := fun w h => (List.mem_cons_of_mem _ (List.mem_append_right _ (List.mem_append_right _ (List.mem_append_left _ h))))
  refine g_aload_n hk dX5_readText_0 rfl ?_
  refine g_callV (n := 0) hk (m213_X5_begin l D zt d q) (SP.same _) (fun _ h => h) (gi_V (List.mem_cons_of_mem _ (List.mem_append_left _ (List.mem_of_getElem? (i := 0) rfl))) (List.mem_cons_of_mem _ (List.mem_append_left _ (List.mem_of_getElem? (i := 1) rfl))) (List.mem_cons_of_mem _ (List.mem_append_left _ (List.mem_of_getElem? (i := 2) rfl))) (List.mem_cons_of_mem _ (List.mem_append_left _ (List.mem_of_getElem? (i := 3) rfl))) (gi_sub (fun w h => (List.mem_cons_of_mem _ (List.mem_append_right _ (List.mem_append_right _ (List.mem_append_right _ (List.mem_append_left _ h)))))) zg_m213_X5_begin)) rfl rfl rfl (by decide +kernel) ⟨Nat.le_of_ble_eq_true rfl, Nat.le_of_ble_eq_true rfl⟩ 3 rfl rfl rfl rfl (Nat.le_of_ble_eq_true rfl) ⟨Nat.le_of_ble_eq_true rfl, Nat.le_of_ble_eq_true rfl⟩ dX5_readText_1 (fun v ty' w' hp hk' => ?_)
  obtain ⟨rfl, rfl⟩ := hp
  show GW κ 2 0 0 (wX q d (upd iX0 4 1) aX0) 4 [(0, .ref (q 3))] []
  refine g_iconst (v := 0) hk dX5_readText_4 (by decide) ?_
  refine g_istore_n (lv' := [(1, .int 0), (0, .ref (q 3))]) hk dX5_readText_5 (by decide) rfl ?_
  refine g_iload_n hk dX5_readText_6 rfl ?_
  refine g_sipush (v := 400) hk dX5_readText_7 (by decide) ?_
  refine g_icmp_gt (tgt := 77) (a := 0) (b := 400) hk dX5_readText_10 (by decide) rfl rfl (fun z9 => absurd z9 (show ¬ ((400 : Int) < (0 : Int)) from by decide)) (fun _ => ?_)
  refine g_aload_n hk dX5_readText_13 rfl ?_
  refine gX_i10 (v := 0) hk hin5 (List.mem_cons_of_mem _ (List.mem_append_left _ (List.mem_of_getElem? (i := 4) rfl))) dX5_readText_14 rfl ?_
  refine g_if_ne (tgt := 77) (a := 0) hk dX5_readText_17 (by decide) rfl (fun z9 => absurd z9 (show ¬ ((0 : Int) ≠ (0 : Int)) from by decide)) (fun _ => ?_)
  refine g_aload_n hk dX5_readText_20 rfl ?_
  refine gX_r3_0 hk hin5 (List.mem_cons_of_mem _ (List.mem_append_left _ (List.mem_of_getElem? (i := 5) rfl))) dX5_readText_21 ?_
  refine gX_i1 (v := 0) hk hin10 (List.mem_cons_of_mem _ (List.mem_append_left _ (List.mem_of_getElem? (i := 6) rfl))) dX5_readText_24 rfl ?_
  refine g_if_eq (tgt := 77) (a := 0) hk dX5_readText_27 (by decide) rfl (fun _ => ?_) (fun z9 => absurd (show (0 : Int) = (0 : Int) from by decide) z9)
  refine g_aload_n hk dX5_readText_77 rfl ?_
  refine gX_i10 (v := 0) hk hin5 (List.mem_cons_of_mem _ (List.mem_append_left _ (List.mem_of_getElem? (i := 4) rfl))) dX5_readText_78 rfl ?_
  refine g_if_ne (tgt := 96) (a := 0) hk dX5_readText_81 (by decide) rfl (fun z9 => absurd z9 (show ¬ ((0 : Int) ≠ (0 : Int)) from by decide)) (fun _ => ?_)
  refine g_aload_n hk dX5_readText_84 rfl ?_
  refine gX_i6 (v := 0) hk hin5 (List.mem_cons_of_mem _ (List.mem_append_left _ (List.mem_of_getElem? (i := 7) rfl))) dX5_readText_85 rfl ?_
  refine g_if_eq (tgt := 96) (a := 0) hk dX5_readText_88 (by decide) rfl (fun _ => ?_) (fun z9 => absurd (show (0 : Int) = (0 : Int) from by decide) z9)
  refine g_aload_n hk dX5_readText_96 rfl ?_
  refine gX_i11 (v := 0) hk hin5 (List.mem_cons_of_mem _ (List.mem_append_left _ (List.mem_of_getElem? (i := 8) rfl))) dX5_readText_97 rfl ?_
  exact g_iret hk hR rfl ⟨rfl, rfl⟩ dX5_readText_100
def wo_m224_X4_takeFrom : List Cond := [Cond.fieldLink RX4 18 "WarpDesk$Queries" "size" "I"]
def wz_m224_X4_takeFrom : List Cond := .code yX4_takeFrom cX4_takeFrom 4 none :: (wo_m224_X4_takeFrom ++ (wsX40 ++ ([] : List Cond)))
theorem zg_m224_X4_takeFrom : ∀ w ∈ wz_m224_X4_takeFrom, goodWord w = true := zg_cons rfl (zg_app (by decide +kernel) (zg_app zgU_wsX40 zg_nil))
theorem zi_m224_X4_takeFrom : ∀ w ∈ wz_m224_X4_takeFrom, w ∈ lw_tbl := zi_cons zw_754 (zi_app (zi_cons zw_219 zi_nil) (zi_app inX4 zi_nil))
set_option maxHeartbeats 4000000 in
set_option maxRecDepth 100000 in
theorem m224_X4_takeFrom (l : Launch) (D : va_G) (zt : Nat × Nat × Nat) (d : Nat → ClassId) (q : Nat → Nat) : GM l D zt (tyX d) yX4_takeFrom wz_m224_X4_takeFrom ({ frames := 0, cells := 0, slots := 0, locals := 0 } : Room) [.ref (q 15), .ref (q 8)] (wX q d (upd iX0 4 1) aX0) (fun v _ w' => v = none ∧ w' = wX q d (upd iX0 4 1) aX0) 0 0 := by
  refine GM.of (cc := cX4_takeFrom) (maxL := 4) (ret := none) (own := RX4) (lv := [(0, .ref (q 15)), (1, .ref (q 8))]) (by decide) rfl rfl (Nat.le_of_ble_eq_true rfl) rfl (fun κ sz hk hR hN => ?_)
  have hin4 : ∀ w ∈ u_ws RX4 TX4 3, w ∈ wz_m224_X4_takeFrom := fun w h => (List.mem_cons_of_mem _ (List.mem_append_right _ (List.mem_append_left _ h)))
  refine g_aload_n hk dX4_takeFrom_0 rfl ?_
  refine g_iconst (v := 0) hk dX4_takeFrom_1 (by decide) ?_
  refine pX_i19 hk hin4 (List.mem_cons_of_mem _ (List.mem_append_left _ (List.mem_of_getElem? (i := 0) rfl))) dX4_takeFrom_2 ?_
  refine gX_sameI rfl ?_
  refine g_iconst (v := 0) hk dX4_takeFrom_5 (by decide) ?_
  refine g_istore_n (lv' := [(2, .int 0), (0, .ref (q 15)), (1, .ref (q 8))]) hk dX4_takeFrom_6 (by decide) rfl ?_
  refine g_iload_n hk dX4_takeFrom_7 rfl ?_
  refine g_aload_n hk dX4_takeFrom_8 rfl ?_
  refine gX_i16 (v := 0) hk hin4 (List.mem_cons_of_mem _ (List.mem_append_left _ (List.mem_of_getElem? (i := 0) rfl))) dX4_takeFrom_9 rfl ?_
  refine g_icmp_ge (tgt := 52) (a := 0) (b := 0) hk dX4_takeFrom_12 (by decide) rfl rfl (fun _ => ?_) (fun z9 => absurd (show (0 : Int) ≤ (0 : Int) from by decide) z9)
  exact g_vret hk hR ⟨rfl, rfl⟩ dX4_takeFrom_52
def wo_m226_X6_takeFrom : List Cond := [Cond.fieldLink RX6 15 "WarpDesk$Series" "first" "I", Cond.fieldLink RX6 19 "WarpDesk$Series" "size" "I", Cond.fieldLink RX6 22 "WarpDesk$Stand" "size" "I"]
def wz_m226_X6_takeFrom : List Cond := .code yX6_takeFrom cX6_takeFrom 3 none :: (wo_m226_X6_takeFrom ++ (wsX60 ++ (wsX80 ++ ([] : List Cond))))
theorem zg_m226_X6_takeFrom : ∀ w ∈ wz_m226_X6_takeFrom, goodWord w = true := zg_cons rfl (zg_app (by decide +kernel) (zg_app zgU_wsX60 (zg_app zgU_wsX80 zg_nil)))
theorem zi_m226_X6_takeFrom : ∀ w ∈ wz_m226_X6_takeFrom, w ∈ lw_tbl := zi_cons zw_772 (zi_app (zi_cons zw_281 (zi_cons zw_282 (zi_cons zw_196 zi_nil))) (zi_app inX6 (zi_app inX8 zi_nil)))
set_option maxHeartbeats 4000000 in
set_option maxRecDepth 100000 in
theorem m226_X6_takeFrom (l : Launch) (D : va_G) (zt : Nat × Nat × Nat) (d : Nat → ClassId) (q : Nat → Nat) : GM l D zt (tyX d) yX6_takeFrom wz_m226_X6_takeFrom ({ frames := 0, cells := 0, slots := 0, locals := 0 } : Room) [.ref (q 13), .ref (q 4)] (wX q d (upd iX0 4 1) aX0) (fun v _ w' => v = none ∧ w' = wX q d (upd iX0 4 1) aX0) 0 0 := by
  refine GM.of (cc := cX6_takeFrom) (maxL := 3) (ret := none) (own := RX6) (lv := [(0, .ref (q 13)), (1, .ref (q 4))]) (by decide) rfl rfl (Nat.le_of_ble_eq_true rfl) rfl (fun κ sz hk hR hN => ?_)
  have hin6 : ∀ w ∈ u_ws RX6 TX6 3, w ∈ wz_m226_X6_takeFrom := fun w h => (List.mem_cons_of_mem _ (List.mem_append_right _ (List.mem_append_left _ h)))
  have hin8 : ∀ w ∈ u_ws RX8 TX8 4, w ∈ wz_m226_X6_takeFrom := fun w h => (List.mem_cons_of_mem _ (List.mem_append_right _ (List.mem_append_right _ (List.mem_append_left _ h))))
  refine g_aload_n hk dX6_takeFrom_0 rfl ?_
  refine g_iconst (v := 0) hk dX6_takeFrom_1 (by decide) ?_
  refine pX_i17 hk hin6 (List.mem_cons_of_mem _ (List.mem_append_left _ (List.mem_of_getElem? (i := 0) rfl))) dX6_takeFrom_2 ?_
  refine gX_sameI rfl ?_
  refine g_aload_n hk dX6_takeFrom_5 rfl ?_
  refine g_iconst (v := 0) hk dX6_takeFrom_6 (by decide) ?_
  refine pX_i18 hk hin6 (List.mem_cons_of_mem _ (List.mem_append_left _ (List.mem_of_getElem? (i := 1) rfl))) dX6_takeFrom_7 ?_
  refine gX_sameI rfl ?_
  refine g_iconst (v := 0) hk dX6_takeFrom_10 (by decide) ?_
  refine g_istore_n (lv' := [(2, .int 0), (0, .ref (q 13)), (1, .ref (q 4))]) hk dX6_takeFrom_11 (by decide) rfl ?_
  refine g_iload_n hk dX6_takeFrom_12 rfl ?_
  refine g_aload_n hk dX6_takeFrom_13 rfl ?_
  refine gX_i14 (v := 0) hk hin8 (List.mem_cons_of_mem _ (List.mem_append_left _ (List.mem_of_getElem? (i := 2) rfl))) dX6_takeFrom_14 rfl ?_
  refine g_icmp_ge (tgt := 36) (a := 0) (b := 0) hk dX6_takeFrom_17 (by decide) rfl rfl (fun _ => ?_) (fun z9 => absurd (show (0 : Int) ≤ (0 : Int) from by decide) z9)
  exact g_vret hk hR ⟨rfl, rfl⟩ dX6_takeFrom_36
def wo_m228_X7_valueOf : List Cond := [Cond.fieldLink RX7 20 "WarpDesk$Settings" "values" "[I"]
def wz_m228_X7_valueOf : List Cond := .code yX7_valueOf cX7_valueOf 2 (some .int) :: (wo_m228_X7_valueOf ++ (wsX70 ++ ([] : List Cond)))
theorem zg_m228_X7_valueOf : ∀ w ∈ wz_m228_X7_valueOf, goodWord w = true := zg_cons rfl (zg_app (by decide +kernel) (zg_app zgU_wsX70 zg_nil))
theorem zi_m228_X7_valueOf : ∀ w ∈ wz_m228_X7_valueOf, w ∈ lw_tbl := zi_cons zw_788 (zi_app (zi_cons zw_190 zi_nil) (zi_app inX7 zi_nil))
set_option maxHeartbeats 4000000 in
set_option maxRecDepth 100000 in
theorem m228_X7_valueOf (l : Launch) (D : va_G) (zt : Nat × Nat × Nat) (d : Nat → ClassId) (q : Nat → Nat) : GM l D zt (tyX d) yX7_valueOf wz_m228_X7_valueOf ({ frames := 0, cells := 0, slots := 0, locals := 0 } : Room) [.ref (q 6), .int 0] (wX q d (upd iX0 4 1) aX0) (fun v _ w' => v = some (.int 2) ∧ w' = wX q d (upd iX0 4 1) aX0) 0 0 := by
  refine GM.of (cc := cX7_valueOf) (maxL := 2) (ret := (some .int)) (own := RX7) (lv := [(0, .ref (q 6)), (1, .int 0)]) (by decide) rfl rfl (Nat.le_of_ble_eq_true rfl) rfl (fun κ sz hk hR hN => ?_)
  have hin7 : ∀ w ∈ u_ws RX7 TX7 1, w ∈ wz_m228_X7_valueOf := fun w h => (List.mem_cons_of_mem _ (List.mem_append_right _ (List.mem_append_left _ h)))
  refine g_iload_n hk dX7_valueOf_0 rfl ?_
  refine g_if_lt (tgt := 22) (a := 0) hk dX7_valueOf_1 (by decide) rfl (fun z9 => absurd z9 (show ¬ ((0 : Int) < (0 : Int)) from by decide)) (fun _ => ?_)
  refine g_iload_n hk dX7_valueOf_4 rfl ?_
  refine g_aload_n hk dX7_valueOf_5 rfl ?_
  refine gX_r6_0 hk hin7 (List.mem_cons_of_mem _ (List.mem_append_left _ (List.mem_of_getElem? (i := 0) rfl))) dX7_valueOf_6 ?_
  refine nX_2 hk dX7_valueOf_9 ?_
  refine g_icmp_ge (tgt := 22) (a := 0) (b := 4) hk dX7_valueOf_10 (by decide) rfl rfl (fun z9 => absurd z9 (show ¬ ((4 : Int) ≤ (0 : Int)) from by decide)) (fun _ => ?_)
  refine g_aload_n hk dX7_valueOf_13 rfl ?_
  refine gX_r6_0 hk hin7 (List.mem_cons_of_mem _ (List.mem_append_left _ (List.mem_of_getElem? (i := 0) rfl))) dX7_valueOf_14 ?_
  refine g_iload_n hk dX7_valueOf_17 rfl ?_
  refine lX_2 (v := 2) hk (vp_in_iff.mpr ⟨by decide, by decide⟩) rfl dX7_valueOf_18 ?_
  refine g_goto (tgt := 23) hk dX7_valueOf_19 (by decide) ?_
  exact g_iret hk hR rfl ⟨rfl, rfl⟩ dX7_valueOf_23
def wo_m229_X7_valueOf : List Cond := [Cond.fieldLink RX7 20 "WarpDesk$Settings" "values" "[I"]
def wz_m229_X7_valueOf : List Cond := .code yX7_valueOf cX7_valueOf 2 (some .int) :: (wo_m229_X7_valueOf ++ (wsX70 ++ ([] : List Cond)))
theorem zg_m229_X7_valueOf : ∀ w ∈ wz_m229_X7_valueOf, goodWord w = true := zg_cons rfl (zg_app (by decide +kernel) (zg_app zgU_wsX70 zg_nil))
theorem zi_m229_X7_valueOf : ∀ w ∈ wz_m229_X7_valueOf, w ∈ lw_tbl := zi_cons zw_788 (zi_app (zi_cons zw_190 zi_nil) (zi_app inX7 zi_nil))
set_option maxHeartbeats 4000000 in
set_option maxRecDepth 100000 in
theorem m229_X7_valueOf (l : Launch) (D : va_G) (zt : Nat × Nat × Nat) (d : Nat → ClassId) (q : Nat → Nat) : GM l D zt (tyX d) yX7_valueOf wz_m229_X7_valueOf ({ frames := 0, cells := 0, slots := 0, locals := 0 } : Room) [.ref (q 6), .int 1] (wX q d (upd iX0 4 1) aX0) (fun v _ w' => v = some (.int 0) ∧ w' = wX q d (upd iX0 4 1) aX0) 0 0 := by
  refine GM.of (cc := cX7_valueOf) (maxL := 2) (ret := (some .int)) (own := RX7) (lv := [(0, .ref (q 6)), (1, .int 1)]) (by decide) rfl rfl (Nat.le_of_ble_eq_true rfl) rfl (fun κ sz hk hR hN => ?_)
  have hin7 : ∀ w ∈ u_ws RX7 TX7 1, w ∈ wz_m229_X7_valueOf := fun w h => (List.mem_cons_of_mem _ (List.mem_append_right _ (List.mem_append_left _ h)))
  refine g_iload_n hk dX7_valueOf_0 rfl ?_
  refine g_if_lt (tgt := 22) (a := 1) hk dX7_valueOf_1 (by decide) rfl (fun z9 => absurd z9 (show ¬ ((1 : Int) < (0 : Int)) from by decide)) (fun _ => ?_)
  refine g_iload_n hk dX7_valueOf_4 rfl ?_
  refine g_aload_n hk dX7_valueOf_5 rfl ?_
  refine gX_r6_0 hk hin7 (List.mem_cons_of_mem _ (List.mem_append_left _ (List.mem_of_getElem? (i := 0) rfl))) dX7_valueOf_6 ?_
  refine nX_2 hk dX7_valueOf_9 ?_
  refine g_icmp_ge (tgt := 22) (a := 1) (b := 4) hk dX7_valueOf_10 (by decide) rfl rfl (fun z9 => absurd z9 (show ¬ ((4 : Int) ≤ (1 : Int)) from by decide)) (fun _ => ?_)
  refine g_aload_n hk dX7_valueOf_13 rfl ?_
  refine gX_r6_0 hk hin7 (List.mem_cons_of_mem _ (List.mem_append_left _ (List.mem_of_getElem? (i := 0) rfl))) dX7_valueOf_14 ?_
  refine g_iload_n hk dX7_valueOf_17 rfl ?_
  refine lX_2 (v := 0) hk (vp_in_iff.mpr ⟨by decide, by decide⟩) rfl dX7_valueOf_18 ?_
  refine g_goto (tgt := 23) hk dX7_valueOf_19 (by decide) ?_
  exact g_iret hk hR rfl ⟨rfl, rfl⟩ dX7_valueOf_23
def wo_m230_X7_valueOf : List Cond := [Cond.fieldLink RX7 20 "WarpDesk$Settings" "values" "[I"]
def wz_m230_X7_valueOf : List Cond := .code yX7_valueOf cX7_valueOf 2 (some .int) :: (wo_m230_X7_valueOf ++ (wsX70 ++ ([] : List Cond)))
theorem zg_m230_X7_valueOf : ∀ w ∈ wz_m230_X7_valueOf, goodWord w = true := zg_cons rfl (zg_app (by decide +kernel) (zg_app zgU_wsX70 zg_nil))
theorem zi_m230_X7_valueOf : ∀ w ∈ wz_m230_X7_valueOf, w ∈ lw_tbl := zi_cons zw_788 (zi_app (zi_cons zw_190 zi_nil) (zi_app inX7 zi_nil))
set_option maxHeartbeats 4000000 in
set_option maxRecDepth 100000 in
theorem m230_X7_valueOf (l : Launch) (D : va_G) (zt : Nat × Nat × Nat) (d : Nat → ClassId) (q : Nat → Nat) : GM l D zt (tyX d) yX7_valueOf wz_m230_X7_valueOf ({ frames := 0, cells := 0, slots := 0, locals := 0 } : Room) [.ref (q 6), .int 2] (wX q d (upd iX0 4 1) aX0) (fun v _ w' => v = some (.int 0) ∧ w' = wX q d (upd iX0 4 1) aX0) 0 0 := by
  refine GM.of (cc := cX7_valueOf) (maxL := 2) (ret := (some .int)) (own := RX7) (lv := [(0, .ref (q 6)), (1, .int 2)]) (by decide) rfl rfl (Nat.le_of_ble_eq_true rfl) rfl (fun κ sz hk hR hN => ?_)
  have hin7 : ∀ w ∈ u_ws RX7 TX7 1, w ∈ wz_m230_X7_valueOf := fun w h => (List.mem_cons_of_mem _ (List.mem_append_right _ (List.mem_append_left _ h)))
  refine g_iload_n hk dX7_valueOf_0 rfl ?_
  refine g_if_lt (tgt := 22) (a := 2) hk dX7_valueOf_1 (by decide) rfl (fun z9 => absurd z9 (show ¬ ((2 : Int) < (0 : Int)) from by decide)) (fun _ => ?_)
  refine g_iload_n hk dX7_valueOf_4 rfl ?_
  refine g_aload_n hk dX7_valueOf_5 rfl ?_
  refine gX_r6_0 hk hin7 (List.mem_cons_of_mem _ (List.mem_append_left _ (List.mem_of_getElem? (i := 0) rfl))) dX7_valueOf_6 ?_
  refine nX_2 hk dX7_valueOf_9 ?_
  refine g_icmp_ge (tgt := 22) (a := 2) (b := 4) hk dX7_valueOf_10 (by decide) rfl rfl (fun z9 => absurd z9 (show ¬ ((4 : Int) ≤ (2 : Int)) from by decide)) (fun _ => ?_)
  refine g_aload_n hk dX7_valueOf_13 rfl ?_
  refine gX_r6_0 hk hin7 (List.mem_cons_of_mem _ (List.mem_append_left _ (List.mem_of_getElem? (i := 0) rfl))) dX7_valueOf_14 ?_
  refine g_iload_n hk dX7_valueOf_17 rfl ?_
  refine lX_2 (v := 0) hk (vp_in_iff.mpr ⟨by decide, by decide⟩) rfl dX7_valueOf_18 ?_
  refine g_goto (tgt := 23) hk dX7_valueOf_19 (by decide) ?_
  exact g_iret hk hR rfl ⟨rfl, rfl⟩ dX7_valueOf_23
def wo_m231_X7_valueOf : List Cond := [Cond.fieldLink RX7 20 "WarpDesk$Settings" "values" "[I"]
def wz_m231_X7_valueOf : List Cond := .code yX7_valueOf cX7_valueOf 2 (some .int) :: (wo_m231_X7_valueOf ++ (wsX70 ++ ([] : List Cond)))
theorem zg_m231_X7_valueOf : ∀ w ∈ wz_m231_X7_valueOf, goodWord w = true := zg_cons rfl (zg_app (by decide +kernel) (zg_app zgU_wsX70 zg_nil))
theorem zi_m231_X7_valueOf : ∀ w ∈ wz_m231_X7_valueOf, w ∈ lw_tbl := zi_cons zw_788 (zi_app (zi_cons zw_190 zi_nil) (zi_app inX7 zi_nil))
set_option maxHeartbeats 4000000 in
set_option maxRecDepth 100000 in
theorem m231_X7_valueOf (l : Launch) (D : va_G) (zt : Nat × Nat × Nat) (d : Nat → ClassId) (q : Nat → Nat) : GM l D zt (tyX d) yX7_valueOf wz_m231_X7_valueOf ({ frames := 0, cells := 0, slots := 0, locals := 0 } : Room) [.ref (q 6), .int 3] (wX q d (upd iX0 4 1) aX0) (fun v _ w' => v = some (.int 8) ∧ w' = wX q d (upd iX0 4 1) aX0) 0 0 := by
  refine GM.of (cc := cX7_valueOf) (maxL := 2) (ret := (some .int)) (own := RX7) (lv := [(0, .ref (q 6)), (1, .int 3)]) (by decide) rfl rfl (Nat.le_of_ble_eq_true rfl) rfl (fun κ sz hk hR hN => ?_)
  have hin7 : ∀ w ∈ u_ws RX7 TX7 1, w ∈ wz_m231_X7_valueOf := fun w h => (List.mem_cons_of_mem _ (List.mem_append_right _ (List.mem_append_left _ h)))
  refine g_iload_n hk dX7_valueOf_0 rfl ?_
  refine g_if_lt (tgt := 22) (a := 3) hk dX7_valueOf_1 (by decide) rfl (fun z9 => absurd z9 (show ¬ ((3 : Int) < (0 : Int)) from by decide)) (fun _ => ?_)
  refine g_iload_n hk dX7_valueOf_4 rfl ?_
  refine g_aload_n hk dX7_valueOf_5 rfl ?_
  refine gX_r6_0 hk hin7 (List.mem_cons_of_mem _ (List.mem_append_left _ (List.mem_of_getElem? (i := 0) rfl))) dX7_valueOf_6 ?_
  refine nX_2 hk dX7_valueOf_9 ?_
  refine g_icmp_ge (tgt := 22) (a := 3) (b := 4) hk dX7_valueOf_10 (by decide) rfl rfl (fun z9 => absurd z9 (show ¬ ((4 : Int) ≤ (3 : Int)) from by decide)) (fun _ => ?_)
  refine g_aload_n hk dX7_valueOf_13 rfl ?_
  refine gX_r6_0 hk hin7 (List.mem_cons_of_mem _ (List.mem_append_left _ (List.mem_of_getElem? (i := 0) rfl))) dX7_valueOf_14 ?_
  refine g_iload_n hk dX7_valueOf_17 rfl ?_
  refine lX_2 (v := 8) hk (vp_in_iff.mpr ⟨by decide, by decide⟩) rfl dX7_valueOf_18 ?_
  refine g_goto (tgt := 23) hk dX7_valueOf_19 (by decide) ?_
  exact g_iret hk hR rfl ⟨rfl, rfl⟩ dX7_valueOf_23
def wo_m227_X7_takeFrom : List Cond := [Cond.fieldLink RX7 20 "WarpDesk$Settings" "values" "[I", Cond.methodLink RX7 33 yX7_valueOf, Cond.instanceMethod yX7_valueOf, Cond.selects RX7 yX7_valueOf yX7_valueOf, Cond.initialized RX7]
def wz_m227_X7_takeFrom : List Cond := .code yX7_takeFrom cX7_takeFrom 3 none :: (wo_m227_X7_takeFrom ++ (wsX70 ++ (wz_m228_X7_valueOf ++ (wz_m229_X7_valueOf ++ (wz_m230_X7_valueOf ++ (wz_m231_X7_valueOf ++ ([] : List Cond)))))))
theorem zg_m227_X7_takeFrom : ∀ w ∈ wz_m227_X7_takeFrom, goodWord w = true := zg_cons rfl (zg_app (by decide +kernel) (zg_app zgU_wsX70 (zg_app zg_m228_X7_valueOf (zg_app zg_m229_X7_valueOf (zg_app zg_m230_X7_valueOf (zg_app zg_m231_X7_valueOf zg_nil))))))
theorem zi_m227_X7_takeFrom : ∀ w ∈ wz_m227_X7_takeFrom, w ∈ lw_tbl := zi_cons zw_784 (zi_app (zi_cons zw_190 (zi_cons zw_785 (zi_cons zw_786 (zi_cons zw_787 (zi_cons zw_107 zi_nil))))) (zi_app inX7 (zi_app zi_m228_X7_valueOf (zi_app zi_m229_X7_valueOf (zi_app zi_m230_X7_valueOf (zi_app zi_m231_X7_valueOf zi_nil))))))
set_option maxHeartbeats 4000000 in
set_option maxRecDepth 100000 in
theorem m227_X7_takeFrom (l : Launch) (D : va_G) (zt : Nat × Nat × Nat) (d : Nat → ClassId) (q : Nat → Nat) : GM l D zt (tyX d) yX7_takeFrom wz_m227_X7_takeFrom ({ frames := 1, cells := 0, slots := 0, locals := 21 } : Room) [.ref (q 18), .ref (q 6)] (wX q d (upd iX0 4 1) aX0) (fun v _ w' => v = none ∧ w' = wX q d (upd iX0 4 1) aX0) 0 0 := by
  refine GM.of (cc := cX7_takeFrom) (maxL := 3) (ret := none) (own := RX7) (lv := [(0, .ref (q 18)), (1, .ref (q 6))]) (by decide) rfl rfl (Nat.le_of_ble_eq_true rfl) rfl (fun κ sz hk hR hN => ?_)
  have hin7 : ∀ w ∈ u_ws RX7 TX7 1, w ∈ wz_m227_X7_takeFrom := fun w h => (List.mem_cons_of_mem _ (List.mem_append_right _ (List.mem_append_left _ h)))
  refine g_iconst (v := 0) hk dX7_takeFrom_0 (by decide) ?_
  refine g_istore_n (lv' := [(2, .int 0), (0, .ref (q 18)), (1, .ref (q 6))]) hk dX7_takeFrom_1 (by decide) rfl ?_
  refine g_iload_n hk dX7_takeFrom_2 rfl ?_
  refine g_aload_n hk dX7_takeFrom_3 rfl ?_
  refine gX_r18_0 hk hin7 (List.mem_cons_of_mem _ (List.mem_append_left _ (List.mem_of_getElem? (i := 0) rfl))) dX7_takeFrom_4 ?_
  refine nX_10 hk dX7_takeFrom_7 ?_
  refine g_icmp_ge (tgt := 28) (a := 0) (b := 4) hk dX7_takeFrom_8 (by decide) rfl rfl (fun z9 => absurd z9 (show ¬ ((4 : Int) ≤ (0 : Int)) from by decide)) (fun _ => ?_)
  refine g_aload_n hk dX7_takeFrom_11 rfl ?_
  refine gX_r18_0 hk hin7 (List.mem_cons_of_mem _ (List.mem_append_left _ (List.mem_of_getElem? (i := 0) rfl))) dX7_takeFrom_12 ?_
  refine g_iload_n hk dX7_takeFrom_15 rfl ?_
  refine g_aload_n hk dX7_takeFrom_16 rfl ?_
  refine g_iload_n hk dX7_takeFrom_17 rfl ?_
  refine g_callV (n := 1) hk (m228_X7_valueOf l D zt d q) (SP.same _) (fun _ h => h) (gi_V (List.mem_cons_of_mem _ (List.mem_append_left _ (List.mem_of_getElem? (i := 1) rfl))) (List.mem_cons_of_mem _ (List.mem_append_left _ (List.mem_of_getElem? (i := 2) rfl))) (List.mem_cons_of_mem _ (List.mem_append_left _ (List.mem_of_getElem? (i := 3) rfl))) (List.mem_cons_of_mem _ (List.mem_append_left _ (List.mem_of_getElem? (i := 4) rfl))) (gi_sub (fun w h => (List.mem_cons_of_mem _ (List.mem_append_right _ (List.mem_append_right _ (List.mem_append_left _ h))))) zg_m228_X7_valueOf)) rfl rfl rfl (by decide +kernel) ⟨Nat.le_of_ble_eq_true rfl, Nat.le_of_ble_eq_true rfl⟩ 6 rfl rfl rfl rfl (Nat.le_of_ble_eq_true rfl) ⟨Nat.le_of_ble_eq_true rfl, Nat.le_of_ble_eq_true rfl⟩ dX7_takeFrom_18 (fun v ty' w' hp hk' => ?_)
  obtain ⟨rfl, rfl⟩ := hp
  show GW κ 3 0 0 (wX q d (upd iX0 4 1) aX0) 21 [(2, .int 0), (0, .ref (q 18)), (1, .ref (q 6))] [.int 2, .int 0, .ref (q 19)]
  refine sX_10 (j := 0) hk (vp_in_iff.mpr ⟨by decide, by decide⟩) (by decide) dX7_takeFrom_21 ?_
  refine gX_same rfl ?_
  refine g_iinc (v := 1) (lv' := [(2, .int 1), (0, .ref (q 18)), (1, .ref (q 6))]) hk 0 dX7_takeFrom_22 rfl (by decide) (by decide) rfl ?_
  refine g_goto (tgt := 2) hk dX7_takeFrom_25 (by decide) ?_
  refine g_iload_n hk dX7_takeFrom_2 rfl ?_
  refine g_aload_n hk dX7_takeFrom_3 rfl ?_
  refine gX_r18_0 hk hin7 (List.mem_cons_of_mem _ (List.mem_append_left _ (List.mem_of_getElem? (i := 0) rfl))) dX7_takeFrom_4 ?_
  refine nX_10 hk dX7_takeFrom_7 ?_
  refine g_icmp_ge (tgt := 28) (a := 1) (b := 4) hk dX7_takeFrom_8 (by decide) rfl rfl (fun z9 => absurd z9 (show ¬ ((4 : Int) ≤ (1 : Int)) from by decide)) (fun _ => ?_)
  refine g_aload_n hk dX7_takeFrom_11 rfl ?_
  refine gX_r18_0 hk hin7 (List.mem_cons_of_mem _ (List.mem_append_left _ (List.mem_of_getElem? (i := 0) rfl))) dX7_takeFrom_12 ?_
  refine g_iload_n hk dX7_takeFrom_15 rfl ?_
  refine g_aload_n hk dX7_takeFrom_16 rfl ?_
  refine g_iload_n hk dX7_takeFrom_17 rfl ?_
  refine g_callV (n := 1) hk (m229_X7_valueOf l D zt d q) (SP.same _) (fun _ h => h) (gi_V (List.mem_cons_of_mem _ (List.mem_append_left _ (List.mem_of_getElem? (i := 1) rfl))) (List.mem_cons_of_mem _ (List.mem_append_left _ (List.mem_of_getElem? (i := 2) rfl))) (List.mem_cons_of_mem _ (List.mem_append_left _ (List.mem_of_getElem? (i := 3) rfl))) (List.mem_cons_of_mem _ (List.mem_append_left _ (List.mem_of_getElem? (i := 4) rfl))) (gi_sub (fun w h => (List.mem_cons_of_mem _ (List.mem_append_right _ (List.mem_append_right _ (List.mem_append_right _ (List.mem_append_left _ h)))))) zg_m229_X7_valueOf)) rfl rfl rfl (by decide +kernel) ⟨Nat.le_of_ble_eq_true rfl, Nat.le_of_ble_eq_true rfl⟩ 6 rfl rfl rfl rfl (Nat.le_of_ble_eq_true rfl) ⟨Nat.le_of_ble_eq_true rfl, Nat.le_of_ble_eq_true rfl⟩ dX7_takeFrom_18 (fun v ty' w' hp hk' => ?_)
  obtain ⟨rfl, rfl⟩ := hp
  show GW κ 3 0 0 (wX q d (upd iX0 4 1) aX0) 21 [(2, .int 1), (0, .ref (q 18)), (1, .ref (q 6))] [.int 0, .int 1, .ref (q 19)]
  refine sX_10 (j := 1) hk (vp_in_iff.mpr ⟨by decide, by decide⟩) (by decide) dX7_takeFrom_21 ?_
  refine gX_same rfl ?_
  refine g_iinc (v := 2) (lv' := [(2, .int 2), (0, .ref (q 18)), (1, .ref (q 6))]) hk 0 dX7_takeFrom_22 rfl (by decide) (by decide) rfl ?_
  refine g_goto (tgt := 2) hk dX7_takeFrom_25 (by decide) ?_
  refine g_iload_n hk dX7_takeFrom_2 rfl ?_
  refine g_aload_n hk dX7_takeFrom_3 rfl ?_
  refine gX_r18_0 hk hin7 (List.mem_cons_of_mem _ (List.mem_append_left _ (List.mem_of_getElem? (i := 0) rfl))) dX7_takeFrom_4 ?_
  refine nX_10 hk dX7_takeFrom_7 ?_
  refine g_icmp_ge (tgt := 28) (a := 2) (b := 4) hk dX7_takeFrom_8 (by decide) rfl rfl (fun z9 => absurd z9 (show ¬ ((4 : Int) ≤ (2 : Int)) from by decide)) (fun _ => ?_)
  refine g_aload_n hk dX7_takeFrom_11 rfl ?_
  refine gX_r18_0 hk hin7 (List.mem_cons_of_mem _ (List.mem_append_left _ (List.mem_of_getElem? (i := 0) rfl))) dX7_takeFrom_12 ?_
  refine g_iload_n hk dX7_takeFrom_15 rfl ?_
  refine g_aload_n hk dX7_takeFrom_16 rfl ?_
  refine g_iload_n hk dX7_takeFrom_17 rfl ?_
  refine g_callV (n := 1) hk (m230_X7_valueOf l D zt d q) (SP.same _) (fun _ h => h) (gi_V (List.mem_cons_of_mem _ (List.mem_append_left _ (List.mem_of_getElem? (i := 1) rfl))) (List.mem_cons_of_mem _ (List.mem_append_left _ (List.mem_of_getElem? (i := 2) rfl))) (List.mem_cons_of_mem _ (List.mem_append_left _ (List.mem_of_getElem? (i := 3) rfl))) (List.mem_cons_of_mem _ (List.mem_append_left _ (List.mem_of_getElem? (i := 4) rfl))) (gi_sub (fun w h => (List.mem_cons_of_mem _ (List.mem_append_right _ (List.mem_append_right _ (List.mem_append_right _ (List.mem_append_right _ (List.mem_append_left _ h))))))) zg_m230_X7_valueOf)) rfl rfl rfl (by decide +kernel) ⟨Nat.le_of_ble_eq_true rfl, Nat.le_of_ble_eq_true rfl⟩ 6 rfl rfl rfl rfl (Nat.le_of_ble_eq_true rfl) ⟨Nat.le_of_ble_eq_true rfl, Nat.le_of_ble_eq_true rfl⟩ dX7_takeFrom_18 (fun v ty' w' hp hk' => ?_)
  obtain ⟨rfl, rfl⟩ := hp
  show GW κ 3 0 0 (wX q d (upd iX0 4 1) aX0) 21 [(2, .int 2), (0, .ref (q 18)), (1, .ref (q 6))] [.int 0, .int 2, .ref (q 19)]
  refine sX_10 (j := 2) hk (vp_in_iff.mpr ⟨by decide, by decide⟩) (by decide) dX7_takeFrom_21 ?_
  refine gX_same rfl ?_
  refine g_iinc (v := 3) (lv' := [(2, .int 3), (0, .ref (q 18)), (1, .ref (q 6))]) hk 0 dX7_takeFrom_22 rfl (by decide) (by decide) rfl ?_
  refine g_goto (tgt := 2) hk dX7_takeFrom_25 (by decide) ?_
  refine g_iload_n hk dX7_takeFrom_2 rfl ?_
  refine g_aload_n hk dX7_takeFrom_3 rfl ?_
  refine gX_r18_0 hk hin7 (List.mem_cons_of_mem _ (List.mem_append_left _ (List.mem_of_getElem? (i := 0) rfl))) dX7_takeFrom_4 ?_
  refine nX_10 hk dX7_takeFrom_7 ?_
  refine g_icmp_ge (tgt := 28) (a := 3) (b := 4) hk dX7_takeFrom_8 (by decide) rfl rfl (fun z9 => absurd z9 (show ¬ ((4 : Int) ≤ (3 : Int)) from by decide)) (fun _ => ?_)
  refine g_aload_n hk dX7_takeFrom_11 rfl ?_
  refine gX_r18_0 hk hin7 (List.mem_cons_of_mem _ (List.mem_append_left _ (List.mem_of_getElem? (i := 0) rfl))) dX7_takeFrom_12 ?_
  refine g_iload_n hk dX7_takeFrom_15 rfl ?_
  refine g_aload_n hk dX7_takeFrom_16 rfl ?_
  refine g_iload_n hk dX7_takeFrom_17 rfl ?_
  refine g_callV (n := 1) hk (m231_X7_valueOf l D zt d q) (SP.same _) (fun _ h => h) (gi_V (List.mem_cons_of_mem _ (List.mem_append_left _ (List.mem_of_getElem? (i := 1) rfl))) (List.mem_cons_of_mem _ (List.mem_append_left _ (List.mem_of_getElem? (i := 2) rfl))) (List.mem_cons_of_mem _ (List.mem_append_left _ (List.mem_of_getElem? (i := 3) rfl))) (List.mem_cons_of_mem _ (List.mem_append_left _ (List.mem_of_getElem? (i := 4) rfl))) (gi_sub (fun w h => (List.mem_cons_of_mem _ (List.mem_append_right _ (List.mem_append_right _ (List.mem_append_right _ (List.mem_append_right _ (List.mem_append_right _ (List.mem_append_left _ h)))))))) zg_m231_X7_valueOf)) rfl rfl rfl (by decide +kernel) ⟨Nat.le_of_ble_eq_true rfl, Nat.le_of_ble_eq_true rfl⟩ 6 rfl rfl rfl rfl (Nat.le_of_ble_eq_true rfl) ⟨Nat.le_of_ble_eq_true rfl, Nat.le_of_ble_eq_true rfl⟩ dX7_takeFrom_18 (fun v ty' w' hp hk' => ?_)
  obtain ⟨rfl, rfl⟩ := hp
  show GW κ 3 0 0 (wX q d (upd iX0 4 1) aX0) 21 [(2, .int 3), (0, .ref (q 18)), (1, .ref (q 6))] [.int 8, .int 3, .ref (q 19)]
  refine sX_10 (j := 3) hk (vp_in_iff.mpr ⟨by decide, by decide⟩) (by decide) dX7_takeFrom_21 ?_
  refine gX_same rfl ?_
  refine g_iinc (v := 4) (lv' := [(2, .int 4), (0, .ref (q 18)), (1, .ref (q 6))]) hk 0 dX7_takeFrom_22 rfl (by decide) (by decide) rfl ?_
  refine g_goto (tgt := 2) hk dX7_takeFrom_25 (by decide) ?_
  refine g_iload_n hk dX7_takeFrom_2 rfl ?_
  refine g_aload_n hk dX7_takeFrom_3 rfl ?_
  refine gX_r18_0 hk hin7 (List.mem_cons_of_mem _ (List.mem_append_left _ (List.mem_of_getElem? (i := 0) rfl))) dX7_takeFrom_4 ?_
  refine nX_10 hk dX7_takeFrom_7 ?_
  refine g_icmp_ge (tgt := 28) (a := 4) (b := 4) hk dX7_takeFrom_8 (by decide) rfl rfl (fun _ => ?_) (fun z9 => absurd (show (4 : Int) ≤ (4 : Int) from by decide) z9)
  exact g_vret hk hR ⟨rfl, rfl⟩ dX7_takeFrom_28
def wo_m232_X3_forget : List Cond := [Cond.fieldLink RX3 19 "WarpDesk$Past" "size" "I"]
def wz_m232_X3_forget : List Cond := .code yX3_forget cX3_forget 1 none :: (wo_m232_X3_forget ++ (wsX30 ++ ([] : List Cond)))
theorem zg_m232_X3_forget : ∀ w ∈ wz_m232_X3_forget, goodWord w = true := zg_cons rfl (zg_app (by decide +kernel) (zg_app zgU_wsX30 zg_nil))
theorem zi_m232_X3_forget : ∀ w ∈ wz_m232_X3_forget, w ∈ lw_tbl := zi_cons zw_792 (zi_app (zi_cons zw_306 zi_nil) (zi_app inX3 zi_nil))
set_option maxHeartbeats 4000000 in
set_option maxRecDepth 100000 in
theorem m232_X3_forget (l : Launch) (D : va_G) (zt : Nat × Nat × Nat) (d : Nat → ClassId) (q : Nat → Nat) : GM l D zt (tyX d) yX3_forget wz_m232_X3_forget ({ frames := 0, cells := 0, slots := 0, locals := 0 } : Room) [.ref (q 20)] (wX q d (upd iX0 4 1) aX0) (fun v _ w' => v = none ∧ w' = wX q d (upd iX0 4 1) aX0) 0 0 := by
  refine GM.of (cc := cX3_forget) (maxL := 1) (ret := none) (own := RX3) (lv := [(0, .ref (q 20))]) (by decide) rfl rfl (Nat.le_of_ble_eq_true rfl) rfl (fun κ sz hk hR hN => ?_)
  have hin3 : ∀ w ∈ u_ws RX3 TX3 5, w ∈ wz_m232_X3_forget := fun w h => (List.mem_cons_of_mem _ (List.mem_append_right _ (List.mem_append_left _ h)))
  refine g_aload_n hk dX3_forget_0 rfl ?_
  refine g_iconst (v := 0) hk dX3_forget_1 (by decide) ?_
  refine pX_i21 hk hin3 (List.mem_cons_of_mem _ (List.mem_append_left _ (List.mem_of_getElem? (i := 0) rfl))) dX3_forget_2 ?_
  refine gX_sameI rfl ?_
  exact g_vret hk hR ⟨rfl, rfl⟩ dX3_forget_5
def wo_m225_X11_goOnFrom : List Cond := [Cond.fieldLink RX11 28 "WarpDesk" "series" "LWarpDesk$Series;", Cond.methodLink RX11 369 yX6_takeFrom, Cond.instanceMethod yX6_takeFrom, Cond.selects RX6 yX6_takeFrom yX6_takeFrom, Cond.initialized RX6, Cond.fieldLink RX11 42 "WarpDesk" "settings" "LWarpDesk$Settings;", Cond.fieldLink RX11 365 "WarpDesk$Stand" "settings" "LWarpDesk$Settings;", Cond.methodLink RX11 366 yX7_takeFrom, Cond.instanceMethod yX7_takeFrom, Cond.selects RX7 yX7_takeFrom yX7_takeFrom, Cond.initialized RX7, Cond.fieldLink RX11 49 "WarpDesk" "past" "LWarpDesk$Past;", Cond.methodLink RX11 371 yX3_forget, Cond.instanceMethod yX3_forget, Cond.selects RX3 yX3_forget yX3_forget, Cond.initialized RX3]
def wz_m225_X11_goOnFrom : List Cond := .code yX11_goOnFrom cX11_goOnFrom 2 none :: (wo_m225_X11_goOnFrom ++ (wsX80 ++ (wsX110 ++ (wz_m226_X6_takeFrom ++ (wz_m227_X7_takeFrom ++ (wz_m232_X3_forget ++ ([] : List Cond)))))))
theorem zg_m225_X11_goOnFrom : ∀ w ∈ wz_m225_X11_goOnFrom, goodWord w = true := zg_cons rfl (zg_app (by decide +kernel) (zg_app zgU_wsX80 (zg_app zgU_wsX110 (zg_app zg_m226_X6_takeFrom (zg_app zg_m227_X7_takeFrom (zg_app zg_m232_X3_forget zg_nil))))))
theorem zi_m225_X11_goOnFrom : ∀ w ∈ wz_m225_X11_goOnFrom, w ∈ lw_tbl := zi_cons zw_768 (zi_app (zi_cons zw_489 (zi_cons zw_769 (zi_cons zw_770 (zi_cons zw_771 (zi_cons zw_109 (zi_cons zw_491 (zi_cons zw_200 (zi_cons zw_781 (zi_cons zw_782 (zi_cons zw_783 (zi_cons zw_107 (zi_cons zw_492 (zi_cons zw_789 (zi_cons zw_790 (zi_cons zw_791 (zi_cons zw_110 zi_nil)))))))))))))))) (zi_app inX8 (zi_app inX11 (zi_app zi_m226_X6_takeFrom (zi_app zi_m227_X7_takeFrom (zi_app zi_m232_X3_forget zi_nil))))))
set_option maxHeartbeats 4000000 in
set_option maxRecDepth 100000 in
theorem m225_X11_goOnFrom (l : Launch) (D : va_G) (zt : Nat × Nat × Nat) (d : Nat → ClassId) (q : Nat → Nat) : GM l D zt (tyX d) yX11_goOnFrom wz_m225_X11_goOnFrom ({ frames := 2, cells := 0, slots := 0, locals := 43 } : Room) [.ref (q 0), .ref (q 4)] (wX q d (upd iX0 4 1) aX0) (fun v _ w' => v = none ∧ w' = wX q d (upd iX0 4 1) aX0) 0 0 := by
  refine GM.of (cc := cX11_goOnFrom) (maxL := 2) (ret := none) (own := RX11) (lv := [(0, .ref (q 0)), (1, .ref (q 4))]) (by decide) rfl rfl (Nat.le_of_ble_eq_true rfl) rfl (fun κ sz hk hR hN => ?_)
  have hin8 : ∀ w ∈ u_ws RX8 TX8 4, w ∈ wz_m225_X11_goOnFrom := fun w h => (List.mem_cons_of_mem _ (List.mem_append_right _ (List.mem_append_left _ h)))
  have hin11 : ∀ w ∈ u_ws RX11 TX11 10, w ∈ wz_m225_X11_goOnFrom := fun w h => (List.mem_cons_of_mem _ (List.mem_append_right _ (List.mem_append_right _ (List.mem_append_left _ h))))
  refine g_aload_n hk dX11_goOnFrom_0 rfl ?_
  refine gX_r0_2 hk hin11 (List.mem_cons_of_mem _ (List.mem_append_left _ (List.mem_of_getElem? (i := 0) rfl))) dX11_goOnFrom_1 ?_
  refine g_aload_n hk dX11_goOnFrom_4 rfl ?_
  refine g_callV (n := 1) hk (m226_X6_takeFrom l D zt d q) (SP.same _) (fun _ h => h) (gi_V (List.mem_cons_of_mem _ (List.mem_append_left _ (List.mem_of_getElem? (i := 1) rfl))) (List.mem_cons_of_mem _ (List.mem_append_left _ (List.mem_of_getElem? (i := 2) rfl))) (List.mem_cons_of_mem _ (List.mem_append_left _ (List.mem_of_getElem? (i := 3) rfl))) (List.mem_cons_of_mem _ (List.mem_append_left _ (List.mem_of_getElem? (i := 4) rfl))) (gi_sub (fun w h => (List.mem_cons_of_mem _ (List.mem_append_right _ (List.mem_append_right _ (List.mem_append_right _ (List.mem_append_left _ h)))))) zg_m226_X6_takeFrom)) rfl rfl rfl (by decide +kernel) ⟨Nat.le_of_ble_eq_true rfl, Nat.le_of_ble_eq_true rfl⟩ 13 rfl rfl rfl rfl (Nat.le_of_ble_eq_true rfl) ⟨Nat.le_of_ble_eq_true rfl, Nat.le_of_ble_eq_true rfl⟩ dX11_goOnFrom_5 (fun v ty' w' hp hk' => ?_)
  obtain ⟨rfl, rfl⟩ := hp
  show GW κ 2 0 0 (wX q d (upd iX0 4 1) aX0) 8 [(0, .ref (q 0)), (1, .ref (q 4))] []
  refine g_aload_n hk dX11_goOnFrom_8 rfl ?_
  refine gX_r0_4 hk hin11 (List.mem_cons_of_mem _ (List.mem_append_left _ (List.mem_of_getElem? (i := 5) rfl))) dX11_goOnFrom_9 ?_
  refine g_aload_n hk dX11_goOnFrom_12 rfl ?_
  refine gX_r4_2 hk hin8 (List.mem_cons_of_mem _ (List.mem_append_left _ (List.mem_of_getElem? (i := 6) rfl))) dX11_goOnFrom_13 ?_
  refine g_callV (n := 1) hk (m227_X7_takeFrom l D zt d q) (SP.same _) (fun _ h => h) (gi_V (List.mem_cons_of_mem _ (List.mem_append_left _ (List.mem_of_getElem? (i := 7) rfl))) (List.mem_cons_of_mem _ (List.mem_append_left _ (List.mem_of_getElem? (i := 8) rfl))) (List.mem_cons_of_mem _ (List.mem_append_left _ (List.mem_of_getElem? (i := 9) rfl))) (List.mem_cons_of_mem _ (List.mem_append_left _ (List.mem_of_getElem? (i := 10) rfl))) (gi_sub (fun w h => (List.mem_cons_of_mem _ (List.mem_append_right _ (List.mem_append_right _ (List.mem_append_right _ (List.mem_append_right _ (List.mem_append_left _ h))))))) zg_m227_X7_takeFrom)) rfl rfl rfl (by decide +kernel) ⟨Nat.le_of_ble_eq_true rfl, Nat.le_of_ble_eq_true rfl⟩ 18 rfl rfl rfl rfl (Nat.le_of_ble_eq_true rfl) ⟨Nat.le_of_ble_eq_true rfl, Nat.le_of_ble_eq_true rfl⟩ dX11_goOnFrom_16 (fun v ty' w' hp hk' => ?_)
  obtain ⟨rfl, rfl⟩ := hp
  show GW κ 2 0 0 (wX q d (upd iX0 4 1) aX0) 19 [(0, .ref (q 0)), (1, .ref (q 4))] []
  refine g_aload_n hk dX11_goOnFrom_19 rfl ?_
  refine gX_r0_5 hk hin11 (List.mem_cons_of_mem _ (List.mem_append_left _ (List.mem_of_getElem? (i := 11) rfl))) dX11_goOnFrom_20 ?_
  refine g_callV (n := 0) hk (m232_X3_forget l D zt d q) (SP.same _) (fun _ h => h) (gi_V (List.mem_cons_of_mem _ (List.mem_append_left _ (List.mem_of_getElem? (i := 12) rfl))) (List.mem_cons_of_mem _ (List.mem_append_left _ (List.mem_of_getElem? (i := 13) rfl))) (List.mem_cons_of_mem _ (List.mem_append_left _ (List.mem_of_getElem? (i := 14) rfl))) (List.mem_cons_of_mem _ (List.mem_append_left _ (List.mem_of_getElem? (i := 15) rfl))) (gi_sub (fun w h => (List.mem_cons_of_mem _ (List.mem_append_right _ (List.mem_append_right _ (List.mem_append_right _ (List.mem_append_right _ (List.mem_append_right _ (List.mem_append_left _ h)))))))) zg_m232_X3_forget)) rfl rfl rfl (by decide +kernel) ⟨Nat.le_of_ble_eq_true rfl, Nat.le_of_ble_eq_true rfl⟩ 20 rfl rfl rfl rfl (Nat.le_of_ble_eq_true rfl) ⟨Nat.le_of_ble_eq_true rfl, Nat.le_of_ble_eq_true rfl⟩ dX11_goOnFrom_23 (fun v ty' w' hp hk' => ?_)
  obtain ⟨rfl, rfl⟩ := hp
  show GW κ 2 0 0 (wX q d (upd iX0 4 1) aX0) 26 [(0, .ref (q 0)), (1, .ref (q 4))] []
  exact g_vret hk hR ⟨rfl, rfl⟩ dX11_goOnFrom_26
def wo_m211_X11_read : List Cond := [Cond.fieldLink RX11 21 "WarpDesk" "reader" "LWarpDesk$Reader;", Cond.methodLink RX11 93 yX5_readText, Cond.instanceMethod yX5_readText, Cond.selects RX5 yX5_readText yX5_readText, Cond.initialized RX5, Cond.fieldLink RX11 10 "WarpDesk" "tape" "LWarpDesk$Tape;", Cond.fieldLink RX11 85 "WarpDesk$Tape" "size" "I", Cond.fieldLink RX11 35 "WarpDesk" "queries" "LWarpDesk$Queries;", Cond.fieldLink RX11 97 "WarpDesk$Reader" "queries" "LWarpDesk$Queries;", Cond.methodLink RX11 98 yX4_takeFrom, Cond.instanceMethod yX4_takeFrom, Cond.selects RX4 yX4_takeFrom yX4_takeFrom, Cond.initialized RX4, Cond.fieldLink RX11 102 "WarpDesk$Reader" "draft" "LWarpDesk$Stand;", Cond.methodLink RX11 106 yX11_goOnFrom, Cond.instanceMethod yX11_goOnFrom, Cond.selects RX11 yX11_goOnFrom yX11_goOnFrom, Cond.initialized RX11, Cond.fieldLink RX11 56 "WarpDesk" "slots" "[LWarpDesk$Stand;", Cond.fieldLink RX11 110 "WarpDesk$Stand" "held" "Z"]
def wz_m211_X11_read : List Cond := .code yX11_read cX11_read 3 (some .int) :: (wo_m211_X11_read ++ (wsX50 ++ (wsX80 ++ (wsX100 ++ (wsX110 ++ (wz_m212_X5_readText ++ (wz_m224_X4_takeFrom ++ (wz_m225_X11_goOnFrom ++ ([] : List Cond)))))))))
theorem zg_m211_X11_read : ∀ w ∈ wz_m211_X11_read, goodWord w = true := zg_cons rfl (zg_app (by decide +kernel) (zg_app zgU_wsX50 (zg_app zgU_wsX80 (zg_app zgU_wsX100 (zg_app zgU_wsX110 (zg_app zg_m212_X5_readText (zg_app zg_m224_X4_takeFrom (zg_app zg_m225_X11_goOnFrom zg_nil))))))))
theorem zi_m211_X11_read : ∀ w ∈ wz_m211_X11_read, w ∈ lw_tbl := zi_cons zw_533 (zi_app (zi_cons zw_488 (zi_cons zw_534 (zi_cons zw_535 (zi_cons zw_536 (zi_cons zw_105 (zi_cons zw_487 (zi_cons zw_136 (zi_cons zw_490 (zi_cons zw_234 (zi_cons zw_751 (zi_cons zw_752 (zi_cons zw_753 (zi_cons zw_108 (zi_cons zw_232 (zi_cons zw_765 (zi_cons zw_767 (zi_cons zw_22 (zi_cons zw_103 (zi_cons zw_493 (zi_cons zw_201 zi_nil)))))))))))))))))))) (zi_app inX5 (zi_app inX8 (zi_app inX10 (zi_app inX11 (zi_app zi_m212_X5_readText (zi_app zi_m224_X4_takeFrom (zi_app zi_m225_X11_goOnFrom zi_nil))))))))
set_option maxHeartbeats 4000000 in
set_option maxRecDepth 100000 in
theorem m211_X11_read (l : Launch) (D : va_G) (zt : Nat × Nat × Nat) (d : Nat → ClassId) (q : Nat → Nat) : GM l D zt (tyX d) yX11_read wz_m211_X11_read ({ frames := 5, cells := 0, slots := 0, locals := 105 } : Room) [.ref (q 0)] (wX q d iX0 aX0) (fun v _ w' => v = some (.int 0) ∧ w' = wX q d (upd iX0 4 1) aX0) 0 0 := by
  refine GM.of (cc := cX11_read) (maxL := 3) (ret := (some .int)) (own := RX11) (lv := [(0, .ref (q 0))]) (by decide) rfl rfl (Nat.le_of_ble_eq_true rfl) rfl (fun κ sz hk hR hN => ?_)
  have hin5 : ∀ w ∈ u_ws RX5 TX5 13, w ∈ wz_m211_X11_read := fun w h => (List.mem_cons_of_mem _ (List.mem_append_right _ (List.mem_append_left _ h)))
  have hin8 : ∀ w ∈ u_ws RX8 TX8 4, w ∈ wz_m211_X11_read := fun w h => (List.mem_cons_of_mem _ (List.mem_append_right _ (List.mem_append_right _ (List.mem_append_left _ h))))
  have hin10 : ∀ w ∈ u_ws RX10 TX10 7, w ∈ wz_m211_X11_read := fun w h => (List.mem_cons_of_mem _ (List.mem_append_right _ (List.mem_append_right _ (List.mem_append_right _ (List.mem_append_left _ h)))))
  have hin11 : ∀ w ∈ u_ws RX11 TX11 10, w ∈ wz_m211_X11_read := fun w h => (List.mem_cons_of_mem _ (List.mem_append_right _ (List.mem_append_right _ (List.mem_append_right _ (List.mem_append_right _ (List.mem_append_left _ h))))))
  refine g_aload_n hk dX11_read_0 rfl ?_
  refine gX_r0_1 hk hin11 (List.mem_cons_of_mem _ (List.mem_append_left _ (List.mem_of_getElem? (i := 0) rfl))) dX11_read_1 ?_
  refine g_callV (n := 0) hk (m212_X5_readText l D zt d q) (SP.same _) (fun _ h => h) (gi_V (List.mem_cons_of_mem _ (List.mem_append_left _ (List.mem_of_getElem? (i := 1) rfl))) (List.mem_cons_of_mem _ (List.mem_append_left _ (List.mem_of_getElem? (i := 2) rfl))) (List.mem_cons_of_mem _ (List.mem_append_left _ (List.mem_of_getElem? (i := 3) rfl))) (List.mem_cons_of_mem _ (List.mem_append_left _ (List.mem_of_getElem? (i := 4) rfl))) (gi_sub (fun w h => (List.mem_cons_of_mem _ (List.mem_append_right _ (List.mem_append_right _ (List.mem_append_right _ (List.mem_append_right _ (List.mem_append_right _ (List.mem_append_left _ h)))))))) zg_m212_X5_readText)) rfl rfl rfl (by decide +kernel) ⟨Nat.le_of_ble_eq_true rfl, Nat.le_of_ble_eq_true rfl⟩ 3 rfl rfl rfl rfl (Nat.le_of_ble_eq_true rfl) ⟨Nat.le_of_ble_eq_true rfl, Nat.le_of_ble_eq_true rfl⟩ dX11_read_4 (fun v ty' w' hp hk' => ?_)
  obtain ⟨rfl, rfl⟩ := hp
  show GW κ 3 0 0 (wX q d (upd iX0 4 1) aX0) 7 [(0, .ref (q 0))] [.int 0]
  refine g_istore_n (lv' := [(1, .int 0), (0, .ref (q 0))]) hk dX11_read_7 (by decide) rfl ?_
  refine g_aload_n hk dX11_read_8 rfl ?_
  refine gX_r0_0 hk hin11 (List.mem_cons_of_mem _ (List.mem_append_left _ (List.mem_of_getElem? (i := 5) rfl))) dX11_read_9 ?_
  refine g_iconst (v := 0) hk dX11_read_12 (by decide) ?_
  refine pX_i0 hk hin10 (List.mem_cons_of_mem _ (List.mem_append_left _ (List.mem_of_getElem? (i := 6) rfl))) dX11_read_13 ?_
  refine gX_sameI rfl ?_
  refine g_iload_n hk dX11_read_16 rfl ?_
  refine g_if_ne (tgt := 72) (a := 0) hk dX11_read_17 (by decide) rfl (fun z9 => absurd z9 (show ¬ ((0 : Int) ≠ (0 : Int)) from by decide)) (fun _ => ?_)
  refine g_aload_n hk dX11_read_20 rfl ?_
  refine gX_r0_3 hk hin11 (List.mem_cons_of_mem _ (List.mem_append_left _ (List.mem_of_getElem? (i := 7) rfl))) dX11_read_21 ?_
  refine g_aload_n hk dX11_read_24 rfl ?_
  refine gX_r0_1 hk hin11 (List.mem_cons_of_mem _ (List.mem_append_left _ (List.mem_of_getElem? (i := 0) rfl))) dX11_read_25 ?_
  refine gX_r3_2 hk hin5 (List.mem_cons_of_mem _ (List.mem_append_left _ (List.mem_of_getElem? (i := 8) rfl))) dX11_read_28 ?_
  refine g_callV (n := 1) hk (m224_X4_takeFrom l D zt d q) (SP.same _) (fun _ h => h) (gi_V (List.mem_cons_of_mem _ (List.mem_append_left _ (List.mem_of_getElem? (i := 9) rfl))) (List.mem_cons_of_mem _ (List.mem_append_left _ (List.mem_of_getElem? (i := 10) rfl))) (List.mem_cons_of_mem _ (List.mem_append_left _ (List.mem_of_getElem? (i := 11) rfl))) (List.mem_cons_of_mem _ (List.mem_append_left _ (List.mem_of_getElem? (i := 12) rfl))) (gi_sub (fun w h => (List.mem_cons_of_mem _ (List.mem_append_right _ (List.mem_append_right _ (List.mem_append_right _ (List.mem_append_right _ (List.mem_append_right _ (List.mem_append_right _ (List.mem_append_left _ h))))))))) zg_m224_X4_takeFrom)) rfl rfl rfl (by decide +kernel) ⟨Nat.le_of_ble_eq_true rfl, Nat.le_of_ble_eq_true rfl⟩ 15 rfl rfl rfl rfl (Nat.le_of_ble_eq_true rfl) ⟨Nat.le_of_ble_eq_true rfl, Nat.le_of_ble_eq_true rfl⟩ dX11_read_31 (fun v ty' w' hp hk' => ?_)
  obtain ⟨rfl, rfl⟩ := hp
  show GW κ 3 0 0 (wX q d (upd iX0 4 1) aX0) 34 [(1, .int 0), (0, .ref (q 0))] []
  refine g_aload_n hk dX11_read_34 rfl ?_
  refine g_aload_n hk dX11_read_35 rfl ?_
  refine gX_r0_1 hk hin11 (List.mem_cons_of_mem _ (List.mem_append_left _ (List.mem_of_getElem? (i := 0) rfl))) dX11_read_36 ?_
  refine gX_r3_1 hk hin5 (List.mem_cons_of_mem _ (List.mem_append_left _ (List.mem_of_getElem? (i := 13) rfl))) dX11_read_39 ?_
  refine g_callV (n := 1) hk (m225_X11_goOnFrom l D zt d q) (SP.same _) (fun _ h => h) (gi_V (List.mem_cons_of_mem _ (List.mem_append_left _ (List.mem_of_getElem? (i := 14) rfl))) (List.mem_cons_of_mem _ (List.mem_append_left _ (List.mem_of_getElem? (i := 15) rfl))) (List.mem_cons_of_mem _ (List.mem_append_left _ (List.mem_of_getElem? (i := 16) rfl))) (List.mem_cons_of_mem _ (List.mem_append_left _ (List.mem_of_getElem? (i := 17) rfl))) (gi_sub (fun w h => (List.mem_cons_of_mem _ (List.mem_append_right _ (List.mem_append_right _ (List.mem_append_right _ (List.mem_append_right _ (List.mem_append_right _ (List.mem_append_right _ (List.mem_append_right _ (List.mem_append_left _ h)))))))))) zg_m225_X11_goOnFrom)) rfl rfl rfl (by decide +kernel) ⟨Nat.le_of_ble_eq_true rfl, Nat.le_of_ble_eq_true rfl⟩ 0 rfl rfl rfl rfl (Nat.le_of_ble_eq_true rfl) ⟨Nat.le_of_ble_eq_true rfl, Nat.le_of_ble_eq_true rfl⟩ dX11_read_42 (fun v ty' w' hp hk' => ?_)
  obtain ⟨rfl, rfl⟩ := hp
  show GW κ 3 0 0 (wX q d (upd iX0 4 1) aX0) 45 [(1, .int 0), (0, .ref (q 0))] []
  refine g_iconst (v := 0) hk dX11_read_45 (by decide) ?_
  refine g_istore_n (lv' := [(2, .int 0), (1, .int 0), (0, .ref (q 0))]) hk dX11_read_46 (by decide) rfl ?_
  refine g_iload_n hk dX11_read_47 rfl ?_
  refine g_aload_n hk dX11_read_48 rfl ?_
  refine gX_r0_6 hk hin11 (List.mem_cons_of_mem _ (List.mem_append_left _ (List.mem_of_getElem? (i := 18) rfl))) dX11_read_49 ?_
  refine nX_14 hk dX11_read_52 ?_
  refine g_icmp_ge (tgt := 72) (a := 0) (b := 3) hk dX11_read_53 (by decide) rfl rfl (fun z9 => absurd z9 (show ¬ ((3 : Int) ≤ (0 : Int)) from by decide)) (fun _ => ?_)
  refine g_aload_n hk dX11_read_56 rfl ?_
  refine gX_r0_6 hk hin11 (List.mem_cons_of_mem _ (List.mem_append_left _ (List.mem_of_getElem? (i := 18) rfl))) dX11_read_57 ?_
  refine g_iload_n hk dX11_read_60 rfl ?_
  refine lX_14 hk (vp_in_iff.mpr ⟨by decide, by decide⟩) rfl dX11_read_61 ?_
  refine g_iconst (v := 0) hk dX11_read_62 (by decide) ?_
  refine pX_i23 hk hin8 (List.mem_cons_of_mem _ (List.mem_append_left _ (List.mem_of_getElem? (i := 19) rfl))) ⟨rfl, rfl⟩ dX11_read_63 ?_
  refine gX_sameI rfl ?_
  refine g_iinc (v := 1) (lv' := [(2, .int 1), (1, .int 0), (0, .ref (q 0))]) hk 0 dX11_read_66 rfl (by decide) (by decide) rfl ?_
  refine g_goto (tgt := 47) hk dX11_read_69 (by decide) ?_
  refine g_iload_n hk dX11_read_47 rfl ?_
  refine g_aload_n hk dX11_read_48 rfl ?_
  refine gX_r0_6 hk hin11 (List.mem_cons_of_mem _ (List.mem_append_left _ (List.mem_of_getElem? (i := 18) rfl))) dX11_read_49 ?_
  refine nX_14 hk dX11_read_52 ?_
  refine g_icmp_ge (tgt := 72) (a := 1) (b := 3) hk dX11_read_53 (by decide) rfl rfl (fun z9 => absurd z9 (show ¬ ((3 : Int) ≤ (1 : Int)) from by decide)) (fun _ => ?_)
  refine g_aload_n hk dX11_read_56 rfl ?_
  refine gX_r0_6 hk hin11 (List.mem_cons_of_mem _ (List.mem_append_left _ (List.mem_of_getElem? (i := 18) rfl))) dX11_read_57 ?_
  refine g_iload_n hk dX11_read_60 rfl ?_
  refine lX_14 hk (vp_in_iff.mpr ⟨by decide, by decide⟩) rfl dX11_read_61 ?_
  refine g_iconst (v := 0) hk dX11_read_62 (by decide) ?_
  refine pX_i25 hk hin8 (List.mem_cons_of_mem _ (List.mem_append_left _ (List.mem_of_getElem? (i := 19) rfl))) ⟨rfl, rfl⟩ dX11_read_63 ?_
  refine gX_sameI rfl ?_
  refine g_iinc (v := 2) (lv' := [(2, .int 2), (1, .int 0), (0, .ref (q 0))]) hk 0 dX11_read_66 rfl (by decide) (by decide) rfl ?_
  refine g_goto (tgt := 47) hk dX11_read_69 (by decide) ?_
  refine g_iload_n hk dX11_read_47 rfl ?_
  refine g_aload_n hk dX11_read_48 rfl ?_
  refine gX_r0_6 hk hin11 (List.mem_cons_of_mem _ (List.mem_append_left _ (List.mem_of_getElem? (i := 18) rfl))) dX11_read_49 ?_
  refine nX_14 hk dX11_read_52 ?_
  refine g_icmp_ge (tgt := 72) (a := 2) (b := 3) hk dX11_read_53 (by decide) rfl rfl (fun z9 => absurd z9 (show ¬ ((3 : Int) ≤ (2 : Int)) from by decide)) (fun _ => ?_)
  refine g_aload_n hk dX11_read_56 rfl ?_
  refine gX_r0_6 hk hin11 (List.mem_cons_of_mem _ (List.mem_append_left _ (List.mem_of_getElem? (i := 18) rfl))) dX11_read_57 ?_
  refine g_iload_n hk dX11_read_60 rfl ?_
  refine lX_14 hk (vp_in_iff.mpr ⟨by decide, by decide⟩) rfl dX11_read_61 ?_
  refine g_iconst (v := 0) hk dX11_read_62 (by decide) ?_
  refine pX_i27 hk hin8 (List.mem_cons_of_mem _ (List.mem_append_left _ (List.mem_of_getElem? (i := 19) rfl))) ⟨rfl, rfl⟩ dX11_read_63 ?_
  refine gX_sameI rfl ?_
  refine g_iinc (v := 3) (lv' := [(2, .int 3), (1, .int 0), (0, .ref (q 0))]) hk 0 dX11_read_66 rfl (by decide) (by decide) rfl ?_
  refine g_goto (tgt := 47) hk dX11_read_69 (by decide) ?_
  refine g_iload_n hk dX11_read_47 rfl ?_
  refine g_aload_n hk dX11_read_48 rfl ?_
  refine gX_r0_6 hk hin11 (List.mem_cons_of_mem _ (List.mem_append_left _ (List.mem_of_getElem? (i := 18) rfl))) dX11_read_49 ?_
  refine nX_14 hk dX11_read_52 ?_
  refine g_icmp_ge (tgt := 72) (a := 3) (b := 3) hk dX11_read_53 (by decide) rfl rfl (fun _ => ?_) (fun z9 => absurd (show (3 : Int) ≤ (3 : Int) from by decide) z9)
  refine g_iload_n hk dX11_read_72 rfl ?_
  exact g_iret hk hR rfl ⟨rfl, rfl⟩ dX11_read_73
def wo_m233_X11_place : List Cond := [Cond.fieldLink RX11 21 "WarpDesk" "reader" "LWarpDesk$Reader;", Cond.fieldLink RX11 114 "WarpDesk$Reader" "faultPlace" "I"]
def wz_m233_X11_place : List Cond := .code yX11_place cX11_place 1 (some .int) :: (wo_m233_X11_place ++ (wsX50 ++ (wsX110 ++ ([] : List Cond))))
theorem zg_m233_X11_place : ∀ w ∈ wz_m233_X11_place, goodWord w = true := zg_cons rfl (zg_app (by decide +kernel) (zg_app zgU_wsX50 (zg_app zgU_wsX110 zg_nil)))
theorem zi_m233_X11_place : ∀ w ∈ wz_m233_X11_place, w ∈ lw_tbl := zi_cons zw_797 (zi_app (zi_cons zw_488 (zi_cons zw_244 zi_nil)) (zi_app inX5 (zi_app inX11 zi_nil)))
set_option maxHeartbeats 4000000 in
set_option maxRecDepth 100000 in
theorem m233_X11_place (l : Launch) (D : va_G) (zt : Nat × Nat × Nat) (d : Nat → ClassId) (q : Nat → Nat) : GM l D zt (tyX d) yX11_place wz_m233_X11_place ({ frames := 0, cells := 0, slots := 0, locals := 0 } : Room) [.ref (q 0)] (wX q d iX0 aX0) (fun v _ w' => v = some (.int (-1)) ∧ w' = wX q d iX0 aX0) 0 0 := by
  refine GM.of (cc := cX11_place) (maxL := 1) (ret := (some .int)) (own := RX11) (lv := [(0, .ref (q 0))]) (by decide) rfl rfl (Nat.le_of_ble_eq_true rfl) rfl (fun κ sz hk hR hN => ?_)
  have hin5 : ∀ w ∈ u_ws RX5 TX5 13, w ∈ wz_m233_X11_place := fun w h => (List.mem_cons_of_mem _ (List.mem_append_right _ (List.mem_append_left _ h)))
  have hin11 : ∀ w ∈ u_ws RX11 TX11 10, w ∈ wz_m233_X11_place := fun w h => (List.mem_cons_of_mem _ (List.mem_append_right _ (List.mem_append_right _ (List.mem_append_left _ h))))
  refine g_aload_n hk dX11_place_0 rfl ?_
  refine gX_r0_1 hk hin11 (List.mem_cons_of_mem _ (List.mem_append_left _ (List.mem_of_getElem? (i := 0) rfl))) dX11_place_1 ?_
  refine gX_i12 (v := (-1)) hk hin5 (List.mem_cons_of_mem _ (List.mem_append_left _ (List.mem_of_getElem? (i := 1) rfl))) dX11_place_4 rfl ?_
  exact g_iret hk hR rfl ⟨rfl, rfl⟩ dX11_place_7
def wo_m234_X11_cause : List Cond := [Cond.fieldLink RX11 21 "WarpDesk" "reader" "LWarpDesk$Reader;", Cond.fieldLink RX11 117 "WarpDesk$Reader" "faultCause" "I"]
def wz_m234_X11_cause : List Cond := .code yX11_cause cX11_cause 1 (some .int) :: (wo_m234_X11_cause ++ (wsX50 ++ (wsX110 ++ ([] : List Cond))))
theorem zg_m234_X11_cause : ∀ w ∈ wz_m234_X11_cause, goodWord w = true := zg_cons rfl (zg_app (by decide +kernel) (zg_app zgU_wsX50 (zg_app zgU_wsX110 zg_nil)))
theorem zi_m234_X11_cause : ∀ w ∈ wz_m234_X11_cause, w ∈ lw_tbl := zi_cons zw_801 (zi_app (zi_cons zw_488 (zi_cons zw_246 zi_nil)) (zi_app inX5 (zi_app inX11 zi_nil)))
set_option maxHeartbeats 4000000 in
set_option maxRecDepth 100000 in
theorem m234_X11_cause (l : Launch) (D : va_G) (zt : Nat × Nat × Nat) (d : Nat → ClassId) (q : Nat → Nat) : GM l D zt (tyX d) yX11_cause wz_m234_X11_cause ({ frames := 0, cells := 0, slots := 0, locals := 0 } : Room) [.ref (q 0)] (wX q d iX0 aX0) (fun v _ w' => v = some (.int (-1)) ∧ w' = wX q d iX0 aX0) 0 0 := by
  refine GM.of (cc := cX11_cause) (maxL := 1) (ret := (some .int)) (own := RX11) (lv := [(0, .ref (q 0))]) (by decide) rfl rfl (Nat.le_of_ble_eq_true rfl) rfl (fun κ sz hk hR hN => ?_)
  have hin5 : ∀ w ∈ u_ws RX5 TX5 13, w ∈ wz_m234_X11_cause := fun w h => (List.mem_cons_of_mem _ (List.mem_append_right _ (List.mem_append_left _ h)))
  have hin11 : ∀ w ∈ u_ws RX11 TX11 10, w ∈ wz_m234_X11_cause := fun w h => (List.mem_cons_of_mem _ (List.mem_append_right _ (List.mem_append_right _ (List.mem_append_left _ h))))
  refine g_aload_n hk dX11_cause_0 rfl ?_
  refine gX_r0_1 hk hin11 (List.mem_cons_of_mem _ (List.mem_append_left _ (List.mem_of_getElem? (i := 0) rfl))) dX11_cause_1 ?_
  refine gX_i13 (v := (-1)) hk hin5 (List.mem_cons_of_mem _ (List.mem_append_left _ (List.mem_of_getElem? (i := 1) rfl))) dX11_cause_4 rfl ?_
  exact g_iret hk hR rfl ⟨rfl, rfl⟩ dX11_cause_7
def wo_m236_X6_valueAt : List Cond := [Cond.fieldLink RX6 19 "WarpDesk$Series" "size" "I"]
def wz_m236_X6_valueAt : List Cond := .code yX6_valueAt cX6_valueAt 2 (some .int) :: (wo_m236_X6_valueAt ++ (wsX60 ++ ([] : List Cond)))
theorem zg_m236_X6_valueAt : ∀ w ∈ wz_m236_X6_valueAt, goodWord w = true := zg_cons rfl (zg_app (by decide +kernel) (zg_app zgU_wsX60 zg_nil))
theorem zi_m236_X6_valueAt : ∀ w ∈ wz_m236_X6_valueAt, w ∈ lw_tbl := zi_cons zw_809 (zi_app (zi_cons zw_282 zi_nil) (zi_app inX6 zi_nil))
set_option maxHeartbeats 4000000 in
set_option maxRecDepth 100000 in
theorem m236_X6_valueAt (l : Launch) (D : va_G) (zt : Nat × Nat × Nat) (d : Nat → ClassId) (q : Nat → Nat) (a759 : Int32) : GM l D zt (tyX d) yX6_valueAt wz_m236_X6_valueAt ({ frames := 0, cells := 0, slots := 0, locals := 0 } : Room) [.ref (q 13), .int a759] (wX q d iX0 aX0) (fun v _ w' => v = some (.int (-1000)) ∧ w' = wX q d iX0 aX0) 0 0 := by
  refine GM.of (cc := cX6_valueAt) (maxL := 2) (ret := (some .int)) (own := RX6) (lv := [(0, .ref (q 13)), (1, .int a759)]) (by decide) rfl rfl (Nat.le_of_ble_eq_true rfl) rfl (fun κ sz hk hR hN => ?_)
  have hin6 : ∀ w ∈ u_ws RX6 TX6 3, w ∈ wz_m236_X6_valueAt := fun w h => (List.mem_cons_of_mem _ (List.mem_append_right _ (List.mem_append_left _ h)))
  refine g_iload_n hk dX6_valueAt_0 rfl ?_
  refine g_if_lt (tgt := 30) (a := a759.toInt) hk dX6_valueAt_1 (by decide) rfl (fun c760 => ?_) (fun c760 => ?_)
  · skip
    refine g_sipush (v := (-1000)) hk dX6_valueAt_30 (by decide) ?_
    exact g_iret hk hR rfl ⟨rfl, rfl⟩ dX6_valueAt_33
  · skip
    refine g_iload_n hk dX6_valueAt_4 rfl ?_
    refine g_aload_n hk dX6_valueAt_5 rfl ?_
    refine gX_i18 (v := 0) hk hin6 (List.mem_cons_of_mem _ (List.mem_append_left _ (List.mem_of_getElem? (i := 0) rfl))) dX6_valueAt_6 rfl ?_
    refine g_icmp_ge (tgt := 30) (a := a759.toInt) (b := 0) hk dX6_valueAt_9 (by decide) rfl rfl (fun _ => ?_) (fun z9 => absurd (show 0 ≤ a759.toInt from by omega) z9)
    refine g_sipush (v := (-1000)) hk dX6_valueAt_30 (by decide) ?_
    exact g_iret hk hR rfl ⟨rfl, rfl⟩ dX6_valueAt_33
def wo_m235_X11_at : List Cond := [Cond.fieldLink RX11 28 "WarpDesk" "series" "LWarpDesk$Series;", Cond.methodLink RX11 120 yX6_valueAt, Cond.instanceMethod yX6_valueAt, Cond.selects RX6 yX6_valueAt yX6_valueAt, Cond.initialized RX6]
def wz_m235_X11_at : List Cond := .code yX11_at cX11_at 2 (some .int) :: (wo_m235_X11_at ++ (wsX110 ++ (wz_m236_X6_valueAt ++ ([] : List Cond))))
theorem zg_m235_X11_at : ∀ w ∈ wz_m235_X11_at, goodWord w = true := zg_cons rfl (zg_app (by decide +kernel) (zg_app zgU_wsX110 (zg_app zg_m236_X6_valueAt zg_nil)))
theorem zi_m235_X11_at : ∀ w ∈ wz_m235_X11_at, w ∈ lw_tbl := zi_cons zw_805 (zi_app (zi_cons zw_489 (zi_cons zw_806 (zi_cons zw_807 (zi_cons zw_808 (zi_cons zw_109 zi_nil))))) (zi_app inX11 (zi_app zi_m236_X6_valueAt zi_nil)))
set_option maxHeartbeats 4000000 in
set_option maxRecDepth 100000 in
theorem m235_X11_at (l : Launch) (D : va_G) (zt : Nat × Nat × Nat) (d : Nat → ClassId) (q : Nat → Nat) (a758 : Int32) : GM l D zt (tyX d) yX11_at wz_m235_X11_at ({ frames := 1, cells := 0, slots := 0, locals := 21 } : Room) [.ref (q 0), .int a758] (wX q d iX0 aX0) (fun v _ w' => v = some (.int (-1000)) ∧ w' = wX q d iX0 aX0) 0 0 := by
  refine GM.of (cc := cX11_at) (maxL := 2) (ret := (some .int)) (own := RX11) (lv := [(0, .ref (q 0)), (1, .int a758)]) (by decide) rfl rfl (Nat.le_of_ble_eq_true rfl) rfl (fun κ sz hk hR hN => ?_)
  have hin11 : ∀ w ∈ u_ws RX11 TX11 10, w ∈ wz_m235_X11_at := fun w h => (List.mem_cons_of_mem _ (List.mem_append_right _ (List.mem_append_left _ h)))
  refine g_aload_n hk dX11_at_0 rfl ?_
  refine gX_r0_2 hk hin11 (List.mem_cons_of_mem _ (List.mem_append_left _ (List.mem_of_getElem? (i := 0) rfl))) dX11_at_1 ?_
  refine g_iload_n hk dX11_at_4 rfl ?_
  refine g_callV (n := 1) hk (m236_X6_valueAt l D zt d q a758) (SP.same _) (fun _ h => h) (gi_V (List.mem_cons_of_mem _ (List.mem_append_left _ (List.mem_of_getElem? (i := 1) rfl))) (List.mem_cons_of_mem _ (List.mem_append_left _ (List.mem_of_getElem? (i := 2) rfl))) (List.mem_cons_of_mem _ (List.mem_append_left _ (List.mem_of_getElem? (i := 3) rfl))) (List.mem_cons_of_mem _ (List.mem_append_left _ (List.mem_of_getElem? (i := 4) rfl))) (gi_sub (fun w h => (List.mem_cons_of_mem _ (List.mem_append_right _ (List.mem_append_right _ (List.mem_append_left _ h))))) zg_m236_X6_valueAt)) rfl rfl rfl (by decide +kernel) ⟨Nat.le_of_ble_eq_true rfl, Nat.le_of_ble_eq_true rfl⟩ 13 rfl rfl rfl rfl (Nat.le_of_ble_eq_true rfl) ⟨Nat.le_of_ble_eq_true rfl, Nat.le_of_ble_eq_true rfl⟩ dX11_at_5 (fun v ty' w' hp hk' => ?_)
  obtain ⟨rfl, rfl⟩ := hp
  show GW κ 2 0 0 (wX q d iX0 aX0) 8 [(0, .ref (q 0)), (1, .int a758)] [.int (-1000)]
  exact g_iret hk hR rfl ⟨rfl, rfl⟩ dX11_at_8
def wo_m240_X4_has : List Cond := [Cond.fieldLink RX4 18 "WarpDesk$Queries" "size" "I"]
def wz_m240_X4_has : List Cond := .code yX4_has cX4_has 2 (some .boolean) :: (wo_m240_X4_has ++ (wsX40 ++ ([] : List Cond)))
theorem zg_m240_X4_has : ∀ w ∈ wz_m240_X4_has, goodWord w = true := zg_cons rfl (zg_app (by decide +kernel) (zg_app zgU_wsX40 zg_nil))
theorem zi_m240_X4_has : ∀ w ∈ wz_m240_X4_has, w ∈ lw_tbl := zi_cons zw_749 (zi_app (zi_cons zw_219 zi_nil) (zi_app inX4 zi_nil))
set_option maxHeartbeats 4000000 in
set_option maxRecDepth 100000 in
theorem m240_X4_has (l : Launch) (D : va_G) (zt : Nat × Nat × Nat) (d : Nat → ClassId) (q : Nat → Nat) (a768 : Int32) : GM l D zt (tyX d) yX4_has wz_m240_X4_has ({ frames := 0, cells := 0, slots := 0, locals := 0 } : Room) [.ref (q 15), .int a768] (wX q d iX0 aX0) (fun v _ w' => v = some (.int 0) ∧ w' = wX q d iX0 aX0) 0 0 := by
  refine GM.of (cc := cX4_has) (maxL := 2) (ret := (some .boolean)) (own := RX4) (lv := [(0, .ref (q 15)), (1, .int a768)]) (by decide) rfl rfl (Nat.le_of_ble_eq_true rfl) rfl (fun κ sz hk hR hN => ?_)
  have hin4 : ∀ w ∈ u_ws RX4 TX4 3, w ∈ wz_m240_X4_has := fun w h => (List.mem_cons_of_mem _ (List.mem_append_right _ (List.mem_append_left _ h)))
  refine g_iload_n hk dX4_has_0 rfl ?_
  refine g_if_lt (tgt := 21) (a := a768.toInt) hk dX4_has_1 (by decide) rfl (fun c769 => ?_) (fun c769 => ?_)
  · skip
    refine g_iconst (v := 0) hk dX4_has_21 (by decide) ?_
    exact g_iret hk hR rfl ⟨rfl, rfl⟩ dX4_has_22
  · skip
    refine g_iload_n hk dX4_has_4 rfl ?_
    refine g_aload_n hk dX4_has_5 rfl ?_
    refine gX_i19 (v := 0) hk hin4 (List.mem_cons_of_mem _ (List.mem_append_left _ (List.mem_of_getElem? (i := 0) rfl))) dX4_has_6 rfl ?_
    refine g_icmp_ge (tgt := 21) (a := a768.toInt) (b := 0) hk dX4_has_9 (by decide) rfl rfl (fun _ => ?_) (fun z9 => absurd (show 0 ≤ a768.toInt from by omega) z9)
    refine g_iconst (v := 0) hk dX4_has_21 (by decide) ?_
    exact g_iret hk hR rfl ⟨rfl, rfl⟩ dX4_has_22
def wo_m239_X4_lengthOf : List Cond := [Cond.methodLink RX4 22 yX4_has, Cond.instanceMethod yX4_has, Cond.selects RX4 yX4_has yX4_has, Cond.initialized RX4]
def wz_m239_X4_lengthOf : List Cond := .code yX4_lengthOf cX4_lengthOf 2 (some .int) :: (wo_m239_X4_lengthOf ++ (wz_m240_X4_has ++ ([] : List Cond)))
theorem zg_m239_X4_lengthOf : ∀ w ∈ wz_m239_X4_lengthOf, goodWord w = true := zg_cons rfl (zg_app (by decide +kernel) (zg_app zg_m240_X4_has zg_nil))
theorem zi_m239_X4_lengthOf : ∀ w ∈ wz_m239_X4_lengthOf, w ∈ lw_tbl := zi_cons zw_759 (zi_app (zi_cons zw_746 (zi_cons zw_747 (zi_cons zw_748 (zi_cons zw_108 zi_nil)))) (zi_app zi_m240_X4_has zi_nil))
set_option maxHeartbeats 4000000 in
set_option maxRecDepth 100000 in
theorem m239_X4_lengthOf (l : Launch) (D : va_G) (zt : Nat × Nat × Nat) (d : Nat → ClassId) (q : Nat → Nat) (a767 : Int32) : GM l D zt (tyX d) yX4_lengthOf wz_m239_X4_lengthOf ({ frames := 1, cells := 0, slots := 0, locals := 21 } : Room) [.ref (q 15), .int a767] (wX q d iX0 aX0) (fun v _ w' => v = some (.int 0) ∧ w' = wX q d iX0 aX0) 0 0 := by
  refine GM.of (cc := cX4_lengthOf) (maxL := 2) (ret := (some .int)) (own := RX4) (lv := [(0, .ref (q 15)), (1, .int a767)]) (by decide) rfl rfl (Nat.le_of_ble_eq_true rfl) rfl (fun κ sz hk hR hN => ?_)
  refine g_aload_n hk dX4_lengthOf_0 rfl ?_
  refine g_iload_n hk dX4_lengthOf_1 rfl ?_
  refine g_callV (n := 1) hk (m240_X4_has l D zt d q a767) (SP.same _) (fun _ h => h) (gi_V (List.mem_cons_of_mem _ (List.mem_append_left _ (List.mem_of_getElem? (i := 0) rfl))) (List.mem_cons_of_mem _ (List.mem_append_left _ (List.mem_of_getElem? (i := 1) rfl))) (List.mem_cons_of_mem _ (List.mem_append_left _ (List.mem_of_getElem? (i := 2) rfl))) (List.mem_cons_of_mem _ (List.mem_append_left _ (List.mem_of_getElem? (i := 3) rfl))) (gi_sub (fun w h => (List.mem_cons_of_mem _ (List.mem_append_right _ (List.mem_append_left _ h)))) zg_m240_X4_has)) rfl rfl rfl (by decide +kernel) ⟨Nat.le_of_ble_eq_true rfl, Nat.le_of_ble_eq_true rfl⟩ 15 rfl rfl rfl rfl (Nat.le_of_ble_eq_true rfl) ⟨Nat.le_of_ble_eq_true rfl, Nat.le_of_ble_eq_true rfl⟩ dX4_lengthOf_2 (fun v ty' w' hp hk' => ?_)
  obtain ⟨rfl, rfl⟩ := hp
  show GW κ 2 0 0 (wX q d iX0 aX0) 5 [(0, .ref (q 15)), (1, .int a767)] [.int 0]
  refine g_if_eq (tgt := 17) (a := 0) hk dX4_lengthOf_5 (by decide) rfl (fun _ => ?_) (fun z9 => absurd (show (0 : Int) = (0 : Int) from by decide) z9)
  refine g_iconst (v := 0) hk dX4_lengthOf_17 (by decide) ?_
  exact g_iret hk hR rfl ⟨rfl, rfl⟩ dX4_lengthOf_18
def wo_m238_X4_valueAt : List Cond := [Cond.methodLink RX4 26 yX4_lengthOf, Cond.instanceMethod yX4_lengthOf, Cond.selects RX4 yX4_lengthOf yX4_lengthOf, Cond.initialized RX4]
def wz_m238_X4_valueAt : List Cond := .code yX4_valueAt cX4_valueAt 3 (some .int) :: (wo_m238_X4_valueAt ++ (wz_m239_X4_lengthOf ++ ([] : List Cond)))
theorem zg_m238_X4_valueAt : ∀ w ∈ wz_m238_X4_valueAt, goodWord w = true := zg_cons rfl (zg_app (by decide +kernel) (zg_app zg_m239_X4_lengthOf zg_nil))
theorem zi_m238_X4_valueAt : ∀ w ∈ wz_m238_X4_valueAt, w ∈ lw_tbl := zi_cons zw_763 (zi_app (zi_cons zw_756 (zi_cons zw_757 (zi_cons zw_758 (zi_cons zw_108 zi_nil)))) (zi_app zi_m239_X4_lengthOf zi_nil))
set_option maxHeartbeats 4000000 in
set_option maxRecDepth 100000 in
theorem m238_X4_valueAt (l : Launch) (D : va_G) (zt : Nat × Nat × Nat) (d : Nat → ClassId) (q : Nat → Nat) (a763 : Int32) (a764 : Int32) : GM l D zt (tyX d) yX4_valueAt wz_m238_X4_valueAt ({ frames := 2, cells := 0, slots := 0, locals := 42 } : Room) [.ref (q 15), .int a763, .int a764] (wX q d iX0 aX0) (fun v _ w' => v = some (.int (-1000)) ∧ w' = wX q d iX0 aX0) 0 0 := by
  refine GM.of (cc := cX4_valueAt) (maxL := 3) (ret := (some .int)) (own := RX4) (lv := [(0, .ref (q 15)), (1, .int a763), (2, .int a764)]) (by decide) rfl rfl (Nat.le_of_ble_eq_true rfl) rfl (fun κ sz hk hR hN => ?_)
  refine g_iload_n hk dX4_valueAt_0 rfl ?_
  refine g_if_lt (tgt := 33) (a := a764.toInt) hk dX4_valueAt_1 (by decide) rfl (fun c765 => ?_) (fun c765 => ?_)
  · skip
    refine g_sipush (v := (-1000)) hk dX4_valueAt_33 (by decide) ?_
    exact g_iret hk hR rfl ⟨rfl, rfl⟩ dX4_valueAt_36
  · skip
    refine g_iload_n hk dX4_valueAt_4 rfl ?_
    refine g_bipush (v := 16) hk dX4_valueAt_5 (by decide) ?_
    refine g_icmp_ge (tgt := 33) (a := a764.toInt) (b := 16) hk dX4_valueAt_7 (by decide) rfl rfl (fun c766 => ?_) (fun c766 => ?_)
    · skip
      refine g_sipush (v := (-1000)) hk dX4_valueAt_33 (by decide) ?_
      exact g_iret hk hR rfl ⟨rfl, rfl⟩ dX4_valueAt_36
    · skip
      refine g_iload_n hk dX4_valueAt_10 rfl ?_
      refine g_aload_n hk dX4_valueAt_11 rfl ?_
      refine g_iload_n hk dX4_valueAt_12 rfl ?_
      refine g_callV (n := 1) hk (m239_X4_lengthOf l D zt d q a763) (SP.same _) (fun _ h => h) (gi_V (List.mem_cons_of_mem _ (List.mem_append_left _ (List.mem_of_getElem? (i := 0) rfl))) (List.mem_cons_of_mem _ (List.mem_append_left _ (List.mem_of_getElem? (i := 1) rfl))) (List.mem_cons_of_mem _ (List.mem_append_left _ (List.mem_of_getElem? (i := 2) rfl))) (List.mem_cons_of_mem _ (List.mem_append_left _ (List.mem_of_getElem? (i := 3) rfl))) (gi_sub (fun w h => (List.mem_cons_of_mem _ (List.mem_append_right _ (List.mem_append_left _ h)))) zg_m239_X4_lengthOf)) rfl rfl rfl (by decide +kernel) ⟨Nat.le_of_ble_eq_true rfl, Nat.le_of_ble_eq_true rfl⟩ 15 rfl rfl rfl rfl (Nat.le_of_ble_eq_true rfl) ⟨Nat.le_of_ble_eq_true rfl, Nat.le_of_ble_eq_true rfl⟩ dX4_valueAt_13 (fun v ty' w' hp hk' => ?_)
      obtain ⟨rfl, rfl⟩ := hp
      show GW κ 3 0 0 (wX q d iX0 aX0) 16 [(0, .ref (q 15)), (1, .int a763), (2, .int a764)] [.int 0, .int a764]
      refine g_icmp_ge (tgt := 33) (a := a764.toInt) (b := 0) hk dX4_valueAt_16 (by decide) rfl rfl (fun _ => ?_) (fun z9 => absurd (show 0 ≤ a764.toInt from by omega) z9)
      refine g_sipush (v := (-1000)) hk dX4_valueAt_33 (by decide) ?_
      exact g_iret hk hR rfl ⟨rfl, rfl⟩ dX4_valueAt_36
def wo_m237_X11_query : List Cond := [Cond.fieldLink RX11 35 "WarpDesk" "queries" "LWarpDesk$Queries;", Cond.methodLink RX11 124 yX4_valueAt, Cond.instanceMethod yX4_valueAt, Cond.selects RX4 yX4_valueAt yX4_valueAt, Cond.initialized RX4]
def wz_m237_X11_query : List Cond := .code yX11_query cX11_query 3 (some .int) :: (wo_m237_X11_query ++ (wsX110 ++ (wz_m238_X4_valueAt ++ ([] : List Cond))))
theorem zg_m237_X11_query : ∀ w ∈ wz_m237_X11_query, goodWord w = true := zg_cons rfl (zg_app (by decide +kernel) (zg_app zgU_wsX110 (zg_app zg_m238_X4_valueAt zg_nil)))
theorem zi_m237_X11_query : ∀ w ∈ wz_m237_X11_query, w ∈ lw_tbl := zi_cons zw_813 (zi_app (zi_cons zw_490 (zi_cons zw_814 (zi_cons zw_761 (zi_cons zw_762 (zi_cons zw_108 zi_nil))))) (zi_app inX11 (zi_app zi_m238_X4_valueAt zi_nil)))
set_option maxHeartbeats 4000000 in
set_option maxRecDepth 100000 in
theorem m237_X11_query (l : Launch) (D : va_G) (zt : Nat × Nat × Nat) (d : Nat → ClassId) (q : Nat → Nat) (a761 : Int32) (a762 : Int32) : GM l D zt (tyX d) yX11_query wz_m237_X11_query ({ frames := 3, cells := 0, slots := 0, locals := 64 } : Room) [.ref (q 0), .int a761, .int a762] (wX q d iX0 aX0) (fun v _ w' => v = some (.int (-1000)) ∧ w' = wX q d iX0 aX0) 0 0 := by
  refine GM.of (cc := cX11_query) (maxL := 3) (ret := (some .int)) (own := RX11) (lv := [(0, .ref (q 0)), (1, .int a761), (2, .int a762)]) (by decide) rfl rfl (Nat.le_of_ble_eq_true rfl) rfl (fun κ sz hk hR hN => ?_)
  have hin11 : ∀ w ∈ u_ws RX11 TX11 10, w ∈ wz_m237_X11_query := fun w h => (List.mem_cons_of_mem _ (List.mem_append_right _ (List.mem_append_left _ h)))
  refine g_aload_n hk dX11_query_0 rfl ?_
  refine gX_r0_3 hk hin11 (List.mem_cons_of_mem _ (List.mem_append_left _ (List.mem_of_getElem? (i := 0) rfl))) dX11_query_1 ?_
  refine g_iload_n hk dX11_query_4 rfl ?_
  refine g_iload_n hk dX11_query_5 rfl ?_
  refine g_callV (n := 2) hk (m238_X4_valueAt l D zt d q a761 a762) (SP.same _) (fun _ h => h) (gi_V (List.mem_cons_of_mem _ (List.mem_append_left _ (List.mem_of_getElem? (i := 1) rfl))) (List.mem_cons_of_mem _ (List.mem_append_left _ (List.mem_of_getElem? (i := 2) rfl))) (List.mem_cons_of_mem _ (List.mem_append_left _ (List.mem_of_getElem? (i := 3) rfl))) (List.mem_cons_of_mem _ (List.mem_append_left _ (List.mem_of_getElem? (i := 4) rfl))) (gi_sub (fun w h => (List.mem_cons_of_mem _ (List.mem_append_right _ (List.mem_append_right _ (List.mem_append_left _ h))))) zg_m238_X4_valueAt)) rfl rfl rfl (by decide +kernel) ⟨Nat.le_of_ble_eq_true rfl, Nat.le_of_ble_eq_true rfl⟩ 15 rfl rfl rfl rfl (Nat.le_of_ble_eq_true rfl) ⟨Nat.le_of_ble_eq_true rfl, Nat.le_of_ble_eq_true rfl⟩ dX11_query_6 (fun v ty' w' hp hk' => ?_)
  obtain ⟨rfl, rfl⟩ := hp
  show GW κ 3 0 0 (wX q d iX0 aX0) 9 [(0, .ref (q 0)), (1, .int a761), (2, .int a762)] [.int (-1000)]
  exact g_iret hk hR rfl ⟨rfl, rfl⟩ dX11_query_9
def wo_m243_X6_append : List Cond := [Cond.fieldLink RX6 19 "WarpDesk$Series" "size" "I", Cond.fieldLink RX6 11 "WarpDesk$Series" "ring" "[I", Cond.fieldLink RX6 15 "WarpDesk$Series" "first" "I"]
def wz_m243_X6_append : List Cond := .code yX6_append cX6_append 2 (some .boolean) :: (wo_m243_X6_append ++ (wsX60 ++ ([] : List Cond)))
theorem zg_m243_X6_append : ∀ w ∈ wz_m243_X6_append, goodWord w = true := zg_cons rfl (zg_app (by decide +kernel) (zg_app zgU_wsX60 zg_nil))
theorem zi_m243_X6_append : ∀ w ∈ wz_m243_X6_append, w ∈ lw_tbl := zi_cons zw_780 (zi_app (zi_cons zw_282 (zi_cons zw_280 (zi_cons zw_281 zi_nil))) (zi_app inX6 zi_nil))
set_option maxHeartbeats 4000000 in
set_option maxRecDepth 100000 in
theorem m243_X6_append (l : Launch) (D : va_G) (zt : Nat × Nat × Nat) (d : Nat → ClassId) (q : Nat → Nat) (a774 : Int32) (h0 : (-999) ≤ a774.toInt) (h1 : a774.toInt ≤ 999) : GM l D zt (tyX d) yX6_append wz_m243_X6_append ({ frames := 0, cells := 0, slots := 0, locals := 0 } : Room) [.ref (q 13), .int a774] (wX q d iX0 aX0) (fun v _ w' => v = some (.int 1) ∧ w' = wX q d (upd iX0 18 1) (up3 aX0 7 0 a774)) 0 0 := by
  refine GM.of (cc := cX6_append) (maxL := 2) (ret := (some .boolean)) (own := RX6) (lv := [(0, .ref (q 13)), (1, .int a774)]) (by decide) rfl rfl (Nat.le_of_ble_eq_true rfl) rfl (fun κ sz hk hR hN => ?_)
  have hin6 : ∀ w ∈ u_ws RX6 TX6 3, w ∈ wz_m243_X6_append := fun w h => (List.mem_cons_of_mem _ (List.mem_append_right _ (List.mem_append_left _ h)))
  refine g_aload_n hk dX6_append_0 rfl ?_
  refine gX_i18 (v := 0) hk hin6 (List.mem_cons_of_mem _ (List.mem_append_left _ (List.mem_of_getElem? (i := 0) rfl))) dX6_append_1 rfl ?_
  refine g_sipush (v := 160) hk dX6_append_4 (by decide) ?_
  refine g_icmp_lt (tgt := 12) (a := 0) (b := 160) hk dX6_append_7 (by decide) rfl rfl (fun _ => ?_) (fun z9 => absurd (show (0 : Int) < (160 : Int) from by decide) z9)
  refine g_aload_n hk dX6_append_12 rfl ?_
  refine gX_r13_0 hk hin6 (List.mem_cons_of_mem _ (List.mem_append_left _ (List.mem_of_getElem? (i := 1) rfl))) dX6_append_13 ?_
  refine g_aload_n hk dX6_append_16 rfl ?_
  refine gX_i17 (v := 0) hk hin6 (List.mem_cons_of_mem _ (List.mem_append_left _ (List.mem_of_getElem? (i := 2) rfl))) dX6_append_17 rfl ?_
  refine g_aload_n hk dX6_append_20 rfl ?_
  refine gX_i18 (v := 0) hk hin6 (List.mem_cons_of_mem _ (List.mem_append_left _ (List.mem_of_getElem? (i := 0) rfl))) dX6_append_21 rfl ?_
  refine g_iadd hk dX6_append_24 ?_
  refine g_norm (v := 0) (by decide) ?_
  refine g_sipush (v := 255) hk dX6_append_25 (by decide) ?_
  refine g_iand hk dX6_append_28 ?_
  refine g_norm (v := 0) (by decide) ?_
  refine g_iload_n hk dX6_append_29 rfl ?_
  refine sX_7 (j := 0) hk (vp_in_iff.mpr ⟨by decide, by decide⟩) (by decide) dX6_append_30 ?_
  refine g_aload_n hk dX6_append_31 rfl ?_
  refine g_dup hk dX6_append_32 rfl ?_
  refine gX_i18 (v := 0) hk hin6 (List.mem_cons_of_mem _ (List.mem_append_left _ (List.mem_of_getElem? (i := 0) rfl))) dX6_append_33 rfl ?_
  refine g_iconst (v := 1) hk dX6_append_36 (by decide) ?_
  refine g_iadd hk dX6_append_37 ?_
  refine g_norm (v := 1) (by decide) ?_
  refine pX_i18 hk hin6 (List.mem_cons_of_mem _ (List.mem_append_left _ (List.mem_of_getElem? (i := 0) rfl))) dX6_append_38 ?_
  refine g_iconst (v := 1) hk dX6_append_41 (by decide) ?_
  exact g_iret hk hR rfl ⟨rfl, rfl⟩ dX6_append_42
def wo_m244_X3_note : List Cond := [Cond.fieldLink RX3 23 "WarpDesk$Past" "next" "I", Cond.fieldLink RX3 9 "WarpDesk$Past" "kinds" "[I", Cond.fieldLink RX3 13 "WarpDesk$Past" "firsts" "[I", Cond.fieldLink RX3 16 "WarpDesk$Past" "seconds" "[I", Cond.fieldLink RX3 19 "WarpDesk$Past" "size" "I", Cond.methodLink RX3 26 Lib.Math.min.name, Cond.static Lib.Math.min.name, Cond.initialized "java/lang/Math", Cond.code Lib.Math.min.name Lib.Math.min.code 2 (some .int)]
def wz_m244_X3_note : List Cond := .code yX3_note cX3_note 4 none :: (wo_m244_X3_note ++ (wsX30 ++ ([] : List Cond)))
theorem zg_m244_X3_note : ∀ w ∈ wz_m244_X3_note, goodWord w = true := zg_cons rfl (zg_app (by decide +kernel) (zg_app zgU_wsX30 zg_nil))
theorem zi_m244_X3_note : ∀ w ∈ wz_m244_X3_note, w ∈ lw_tbl := zi_cons zw_827 (zi_app (zi_cons zw_305 (zi_cons zw_302 (zi_cons zw_303 (zi_cons zw_304 (zi_cons zw_306 (zi_cons zw_828 (zi_cons zw_829 (zi_cons zw_120 (zi_cons zw_830 zi_nil))))))))) (zi_app inX3 zi_nil))
set_option maxHeartbeats 4000000 in
set_option maxRecDepth 100000 in
theorem m244_X3_note (l : Launch) (D : va_G) (zt : Nat × Nat × Nat) (a773 : Int32) (d : Nat → ClassId) (q : Nat → Nat) : GM l D zt (tyX d) yX3_note wz_m244_X3_note ({ frames := 1, cells := 0, slots := 0, locals := 14 } : Room) [.ref (q 20), .int 0, .int 0, .int 0] (wX q d (upd iX0 18 1) (up3 aX0 7 0 a773)) (fun v _ w' => v = none ∧ w' = wX q d (upd (upd (upd iX0 18 1) 20 1) 21 1) (up3 aX0 7 0 a773)) 0 0 := by
  refine GM.of (cc := cX3_note) (maxL := 4) (ret := none) (own := RX3) (lv := [(0, .ref (q 20)), (1, .int 0), (2, .int 0), (3, .int 0)]) (by decide) rfl rfl (Nat.le_of_ble_eq_true rfl) rfl (fun κ sz hk hR hN => ?_)
  have hin3 : ∀ w ∈ u_ws RX3 TX3 5, w ∈ wz_m244_X3_note := fun w h => (List.mem_cons_of_mem _ (List.mem_append_right _ (List.mem_append_left _ h)))
  refine g_aload_n hk dX3_note_0 rfl ?_
  refine gX_i20 (v := 0) hk hin3 (List.mem_cons_of_mem _ (List.mem_append_left _ (List.mem_of_getElem? (i := 0) rfl))) dX3_note_1 rfl ?_
  refine g_if_lt (tgt := 16) (a := 0) hk dX3_note_4 (by decide) rfl (fun z9 => absurd z9 (show ¬ ((0 : Int) < (0 : Int)) from by decide)) (fun _ => ?_)
  refine g_aload_n hk dX3_note_7 rfl ?_
  refine gX_i20 (v := 0) hk hin3 (List.mem_cons_of_mem _ (List.mem_append_left _ (List.mem_of_getElem? (i := 0) rfl))) dX3_note_8 rfl ?_
  refine g_bipush (v := 40) hk dX3_note_11 (by decide) ?_
  refine g_icmp_lt (tgt := 17) (a := 0) (b := 40) hk dX3_note_13 (by decide) rfl rfl (fun _ => ?_) (fun z9 => absurd (show (0 : Int) < (40 : Int) from by decide) z9)
  refine g_aload_n hk dX3_note_17 rfl ?_
  refine gX_r20_0 hk hin3 (List.mem_cons_of_mem _ (List.mem_append_left _ (List.mem_of_getElem? (i := 1) rfl))) dX3_note_18 ?_
  refine g_aload_n hk dX3_note_21 rfl ?_
  refine gX_i20 (v := 0) hk hin3 (List.mem_cons_of_mem _ (List.mem_append_left _ (List.mem_of_getElem? (i := 0) rfl))) dX3_note_22 rfl ?_
  refine g_iload_n hk dX3_note_25 rfl ?_
  refine sX_11 (j := 0) hk (vp_in_iff.mpr ⟨by decide, by decide⟩) (by decide) dX3_note_26 ?_
  refine gX_same rfl ?_
  refine g_aload_n hk dX3_note_27 rfl ?_
  refine gX_r20_1 hk hin3 (List.mem_cons_of_mem _ (List.mem_append_left _ (List.mem_of_getElem? (i := 2) rfl))) dX3_note_28 ?_
  refine g_aload_n hk dX3_note_31 rfl ?_
  refine gX_i20 (v := 0) hk hin3 (List.mem_cons_of_mem _ (List.mem_append_left _ (List.mem_of_getElem? (i := 0) rfl))) dX3_note_32 rfl ?_
  refine g_iload_n hk dX3_note_35 rfl ?_
  refine sX_12 (j := 0) hk (vp_in_iff.mpr ⟨by decide, by decide⟩) (by decide) dX3_note_36 ?_
  refine gX_same rfl ?_
  refine g_aload_n hk dX3_note_37 rfl ?_
  refine gX_r20_2 hk hin3 (List.mem_cons_of_mem _ (List.mem_append_left _ (List.mem_of_getElem? (i := 3) rfl))) dX3_note_38 ?_
  refine g_aload_n hk dX3_note_41 rfl ?_
  refine gX_i20 (v := 0) hk hin3 (List.mem_cons_of_mem _ (List.mem_append_left _ (List.mem_of_getElem? (i := 0) rfl))) dX3_note_42 rfl ?_
  refine g_iload_n hk dX3_note_45 rfl ?_
  refine sX_13 (j := 0) hk (vp_in_iff.mpr ⟨by decide, by decide⟩) (by decide) dX3_note_46 ?_
  refine gX_same rfl ?_
  refine g_aload_n hk dX3_note_47 rfl ?_
  refine g_aload_n hk dX3_note_48 rfl ?_
  refine gX_i20 (v := 0) hk hin3 (List.mem_cons_of_mem _ (List.mem_append_left _ (List.mem_of_getElem? (i := 0) rfl))) dX3_note_49 rfl ?_
  refine g_bipush (v := 39) hk dX3_note_52 (by decide) ?_
  refine g_icmp_ne (tgt := 61) (a := 0) (b := 39) hk dX3_note_54 (by decide) rfl rfl (fun _ => ?_) (fun z9 => absurd (show (0 : Int) ≠ (39 : Int) from by decide) z9)
  refine g_aload_n hk dX3_note_61 rfl ?_
  refine gX_i20 (v := 0) hk hin3 (List.mem_cons_of_mem _ (List.mem_append_left _ (List.mem_of_getElem? (i := 0) rfl))) dX3_note_62 rfl ?_
  refine g_iconst (v := 1) hk dX3_note_65 (by decide) ?_
  refine g_iadd hk dX3_note_66 ?_
  refine g_norm (v := 1) (by decide) ?_
  refine pX_i20 hk hin3 (List.mem_cons_of_mem _ (List.mem_append_left _ (List.mem_of_getElem? (i := 0) rfl))) dX3_note_67 ?_
  refine g_aload_n hk dX3_note_70 rfl ?_
  refine g_aload_n hk dX3_note_71 rfl ?_
  refine gX_i21 (v := 0) hk hin3 (List.mem_cons_of_mem _ (List.mem_append_left _ (List.mem_of_getElem? (i := 4) rfl))) dX3_note_72 rfl ?_
  refine g_iconst (v := 1) hk dX3_note_75 (by decide) ?_
  refine g_iadd hk dX3_note_76 ?_
  refine g_norm (v := 1) (by decide) ?_
  refine g_bipush (v := 40) hk dX3_note_77 (by decide) ?_
  refine g_mmin hk (List.mem_cons_of_mem _ (List.mem_append_left _ (List.mem_of_getElem? (i := 5) rfl))) (List.mem_cons_of_mem _ (List.mem_append_left _ (List.mem_of_getElem? (i := 6) rfl))) (List.mem_cons_of_mem _ (List.mem_append_left _ (List.mem_of_getElem? (i := 7) rfl))) (List.mem_cons_of_mem _ (List.mem_append_left _ (List.mem_of_getElem? (i := 8) rfl))) (Nat.le_of_ble_eq_true rfl) (Nat.le_of_ble_eq_true rfl) (Nat.le_of_ble_eq_true rfl) (Nat.le_of_ble_eq_true rfl) dX3_note_79 ?_
  refine g_norm (v := 1) (by decide) ?_
  refine pX_i21 hk hin3 (List.mem_cons_of_mem _ (List.mem_append_left _ (List.mem_of_getElem? (i := 4) rfl))) dX3_note_82 ?_
  exact g_vret hk hR ⟨rfl, rfl⟩ dX3_note_85
def wo_m242_X11_appendPlace : List Cond := [Cond.fieldLink RX11 28 "WarpDesk" "series" "LWarpDesk$Series;", Cond.methodLink RX11 130 yX6_append, Cond.instanceMethod yX6_append, Cond.selects RX6 yX6_append yX6_append, Cond.initialized RX6, Cond.fieldLink RX11 49 "WarpDesk" "past" "LWarpDesk$Past;", Cond.methodLink RX11 134 yX3_note, Cond.instanceMethod yX3_note, Cond.selects RX3 yX3_note yX3_note, Cond.initialized RX3, Cond.fieldLink RX11 138 "WarpDesk$Series" "size" "I"]
def wz_m242_X11_appendPlace : List Cond := .code yX11_appendPlace cX11_appendPlace 2 (some .int) :: (wo_m242_X11_appendPlace ++ (wsX60 ++ (wsX110 ++ (wz_m243_X6_append ++ (wz_m244_X3_note ++ ([] : List Cond))))))
theorem zg_m242_X11_appendPlace : ∀ w ∈ wz_m242_X11_appendPlace, goodWord w = true := zg_cons rfl (zg_app (by decide +kernel) (zg_app zgU_wsX60 (zg_app zgU_wsX110 (zg_app zg_m243_X6_append (zg_app zg_m244_X3_note zg_nil)))))
theorem zi_m242_X11_appendPlace : ∀ w ∈ wz_m242_X11_appendPlace, w ∈ lw_tbl := zi_cons zw_822 (zi_app (zi_cons zw_489 (zi_cons zw_823 (zi_cons zw_778 (zi_cons zw_779 (zi_cons zw_109 (zi_cons zw_492 (zi_cons zw_824 (zi_cons zw_825 (zi_cons zw_826 (zi_cons zw_110 (zi_cons zw_284 zi_nil))))))))))) (zi_app inX6 (zi_app inX11 (zi_app zi_m243_X6_append (zi_app zi_m244_X3_note zi_nil)))))
set_option maxHeartbeats 4000000 in
set_option maxRecDepth 100000 in
theorem m242_X11_appendPlace (l : Launch) (D : va_G) (zt : Nat × Nat × Nat) (d : Nat → ClassId) (q : Nat → Nat) (a773 : Int32) (h0 : (-999) ≤ a773.toInt) (h1 : a773.toInt ≤ 999) : GM l D zt (tyX d) yX11_appendPlace wz_m242_X11_appendPlace ({ frames := 2, cells := 0, slots := 0, locals := 37 } : Room) [.ref (q 0), .int a773] (wX q d iX0 aX0) (fun v _ w' => v = some (.int 1) ∧ w' = wX q d (upd (upd (upd iX0 18 1) 20 1) 21 1) (up3 aX0 7 0 a773)) 0 0 := by
  refine GM.of (cc := cX11_appendPlace) (maxL := 2) (ret := (some .int)) (own := RX11) (lv := [(0, .ref (q 0)), (1, .int a773)]) (by decide) rfl rfl (Nat.le_of_ble_eq_true rfl) rfl (fun κ sz hk hR hN => ?_)
  have hin6 : ∀ w ∈ u_ws RX6 TX6 3, w ∈ wz_m242_X11_appendPlace := fun w h => (List.mem_cons_of_mem _ (List.mem_append_right _ (List.mem_append_left _ h)))
  have hin11 : ∀ w ∈ u_ws RX11 TX11 10, w ∈ wz_m242_X11_appendPlace := fun w h => (List.mem_cons_of_mem _ (List.mem_append_right _ (List.mem_append_right _ (List.mem_append_left _ h))))
  refine g_aload_n hk dX11_appendPlace_0 rfl ?_
  refine gX_r0_2 hk hin11 (List.mem_cons_of_mem _ (List.mem_append_left _ (List.mem_of_getElem? (i := 0) rfl))) dX11_appendPlace_1 ?_
  refine g_iload_n hk dX11_appendPlace_4 rfl ?_
  refine g_callV (n := 1) hk (m243_X6_append l D zt d q a773 (by omega) (by omega)) (SP.same _) (fun _ h => h) (gi_V (List.mem_cons_of_mem _ (List.mem_append_left _ (List.mem_of_getElem? (i := 1) rfl))) (List.mem_cons_of_mem _ (List.mem_append_left _ (List.mem_of_getElem? (i := 2) rfl))) (List.mem_cons_of_mem _ (List.mem_append_left _ (List.mem_of_getElem? (i := 3) rfl))) (List.mem_cons_of_mem _ (List.mem_append_left _ (List.mem_of_getElem? (i := 4) rfl))) (gi_sub (fun w h => (List.mem_cons_of_mem _ (List.mem_append_right _ (List.mem_append_right _ (List.mem_append_right _ (List.mem_append_left _ h)))))) zg_m243_X6_append)) rfl rfl rfl (by decide +kernel) ⟨Nat.le_of_ble_eq_true rfl, Nat.le_of_ble_eq_true rfl⟩ 13 rfl rfl rfl rfl (Nat.le_of_ble_eq_true rfl) ⟨Nat.le_of_ble_eq_true rfl, Nat.le_of_ble_eq_true rfl⟩ dX11_appendPlace_5 (fun v ty' w' hp hk' => ?_)
  obtain ⟨rfl, rfl⟩ := hp
  show GW κ 2 0 0 (wX q d (upd iX0 18 1) (up3 aX0 7 0 a773)) 8 [(0, .ref (q 0)), (1, .int a773)] [.int 1]
  refine g_if_ne (tgt := 13) (a := 1) hk dX11_appendPlace_8 (by decide) rfl (fun _ => ?_) (fun z9 => absurd (show (1 : Int) ≠ (0 : Int) from by decide) z9)
  refine g_aload_n hk dX11_appendPlace_13 rfl ?_
  refine gX_r0_5 hk hin11 (List.mem_cons_of_mem _ (List.mem_append_left _ (List.mem_of_getElem? (i := 5) rfl))) dX11_appendPlace_14 ?_
  refine g_iconst (v := 0) hk dX11_appendPlace_17 (by decide) ?_
  refine g_iconst (v := 0) hk dX11_appendPlace_18 (by decide) ?_
  refine g_iconst (v := 0) hk dX11_appendPlace_19 (by decide) ?_
  refine g_callV (n := 3) hk (m244_X3_note l D zt a773 d q) (SP.same _) (fun _ h => h) (gi_V (List.mem_cons_of_mem _ (List.mem_append_left _ (List.mem_of_getElem? (i := 6) rfl))) (List.mem_cons_of_mem _ (List.mem_append_left _ (List.mem_of_getElem? (i := 7) rfl))) (List.mem_cons_of_mem _ (List.mem_append_left _ (List.mem_of_getElem? (i := 8) rfl))) (List.mem_cons_of_mem _ (List.mem_append_left _ (List.mem_of_getElem? (i := 9) rfl))) (gi_sub (fun w h => (List.mem_cons_of_mem _ (List.mem_append_right _ (List.mem_append_right _ (List.mem_append_right _ (List.mem_append_right _ (List.mem_append_left _ h))))))) zg_m244_X3_note)) rfl rfl rfl (by decide +kernel) ⟨Nat.le_of_ble_eq_true rfl, Nat.le_of_ble_eq_true rfl⟩ 20 rfl rfl rfl rfl (Nat.le_of_ble_eq_true rfl) ⟨Nat.le_of_ble_eq_true rfl, Nat.le_of_ble_eq_true rfl⟩ dX11_appendPlace_20 (fun v ty' w' hp hk' => ?_)
  obtain ⟨rfl, rfl⟩ := hp
  show GW κ 2 0 0 (wX q d (upd (upd (upd iX0 18 1) 20 1) 21 1) (up3 aX0 7 0 a773)) 23 [(0, .ref (q 0)), (1, .int a773)] []
  refine g_aload_n hk dX11_appendPlace_23 rfl ?_
  refine gX_r0_2 hk hin11 (List.mem_cons_of_mem _ (List.mem_append_left _ (List.mem_of_getElem? (i := 0) rfl))) dX11_appendPlace_24 ?_
  refine gX_i18 (v := 1) hk hin6 (List.mem_cons_of_mem _ (List.mem_append_left _ (List.mem_of_getElem? (i := 10) rfl))) dX11_appendPlace_27 rfl ?_
  exact g_iret hk hR rfl ⟨rfl, rfl⟩ dX11_appendPlace_30
def wo_m241_X11_push : List Cond := [Cond.methodLink RX11 127 yX11_appendPlace, Cond.instanceMethod yX11_appendPlace, Cond.selects RX11 yX11_appendPlace yX11_appendPlace, Cond.initialized RX11]
def wz_m241_X11_push : List Cond := .code yX11_push cX11_push 2 (some .int) :: (wo_m241_X11_push ++ (wz_m242_X11_appendPlace ++ ([] : List Cond)))
theorem zg_m241_X11_push : ∀ w ∈ wz_m241_X11_push, goodWord w = true := zg_cons rfl (zg_app (by decide +kernel) (zg_app zg_m242_X11_appendPlace zg_nil))
theorem zi_m241_X11_push : ∀ w ∈ wz_m241_X11_push, w ∈ lw_tbl := zi_cons zw_818 (zi_app (zi_cons zw_819 (zi_cons zw_821 (zi_cons zw_23 (zi_cons zw_103 zi_nil)))) (zi_app zi_m242_X11_appendPlace zi_nil))
set_option maxHeartbeats 4000000 in
set_option maxRecDepth 100000 in
theorem m241_X11_push (l : Launch) (D : va_G) (zt : Nat × Nat × Nat) (d : Nat → ClassId) (q : Nat → Nat) (a770 : Int32) : GM l D zt (tyX d) yX11_push wz_m241_X11_push ({ frames := 3, cells := 0, slots := 0, locals := 58 } : Room) [.ref (q 0), .int a770] (wX q d iX0 aX0) (fun v _ w' => ((a770.toInt < (-999)) ∧ v = some (.int (-1)) ∧ w' = wX q d iX0 aX0) ∨ ((¬ (a770.toInt < (-999))) ∧ (a770.toInt ≤ 999) ∧ v = some (.int 1) ∧ w' = wX q d (upd (upd (upd iX0 18 1) 20 1) 21 1) (up3 aX0 7 0 a770)) ∨ ((¬ (a770.toInt < (-999))) ∧ (¬ (a770.toInt ≤ 999)) ∧ v = some (.int (-1)) ∧ w' = wX q d iX0 aX0)) 0 0 := by
  refine GM.of (cc := cX11_push) (maxL := 2) (ret := (some .int)) (own := RX11) (lv := [(0, .ref (q 0)), (1, .int a770)]) (by decide) rfl rfl (Nat.le_of_ble_eq_true rfl) rfl (fun κ sz hk hR hN => ?_)
  refine g_iload_n hk dX11_push_0 rfl ?_
  refine g_sipush (v := (-999)) hk dX11_push_1 (by decide) ?_
  refine g_icmp_lt (tgt := 14) (a := a770.toInt) (b := (-999)) hk dX11_push_4 (by decide) rfl rfl (fun c771 => ?_) (fun c771 => ?_)
  · skip
    refine g_iconst (v := (-1)) hk dX11_push_14 (by decide) ?_
    exact g_iret hk hR rfl (Or.inl ⟨c771, rfl, rfl⟩) dX11_push_15
  · skip
    refine g_iload_n hk dX11_push_7 rfl ?_
    refine g_sipush (v := 999) hk dX11_push_8 (by decide) ?_
    refine g_icmp_le (tgt := 16) (a := a770.toInt) (b := 999) hk dX11_push_11 (by decide) rfl rfl (fun c772 => ?_) (fun c772 => ?_)
    · skip
      refine g_aload_n hk dX11_push_16 rfl ?_
      refine g_iload_n hk dX11_push_17 rfl ?_
      refine g_callV (n := 1) hk (m242_X11_appendPlace l D zt d q a770 (by omega) (by omega)) (SP.same _) (fun _ h => h) (gi_V (List.mem_cons_of_mem _ (List.mem_append_left _ (List.mem_of_getElem? (i := 0) rfl))) (List.mem_cons_of_mem _ (List.mem_append_left _ (List.mem_of_getElem? (i := 1) rfl))) (List.mem_cons_of_mem _ (List.mem_append_left _ (List.mem_of_getElem? (i := 2) rfl))) (List.mem_cons_of_mem _ (List.mem_append_left _ (List.mem_of_getElem? (i := 3) rfl))) (gi_sub (fun w h => (List.mem_cons_of_mem _ (List.mem_append_right _ (List.mem_append_left _ h)))) zg_m242_X11_appendPlace)) rfl rfl rfl (by decide +kernel) ⟨Nat.le_of_ble_eq_true rfl, Nat.le_of_ble_eq_true rfl⟩ 0 rfl rfl rfl rfl (Nat.le_of_ble_eq_true rfl) ⟨Nat.le_of_ble_eq_true rfl, Nat.le_of_ble_eq_true rfl⟩ dX11_push_18 (fun v ty' w' hp hk' => ?_)
      obtain ⟨rfl, rfl⟩ := hp
      show GW κ 2 0 0 (wX q d (upd (upd (upd iX0 18 1) 20 1) 21 1) (up3 aX0 7 0 a770)) 21 [(0, .ref (q 0)), (1, .int a770)] [.int 1]
      exact g_iret hk hR rfl (Or.inr (Or.inl ⟨c771, c772, rfl, rfl⟩)) dX11_push_21
    · skip
      refine g_iconst (v := (-1)) hk dX11_push_14 (by decide) ?_
      exact g_iret hk hR rfl (Or.inr (Or.inr (⟨c771, c772, rfl, rfl⟩))) dX11_push_15
def wo_m247_X6_append : List Cond := [Cond.fieldLink RX6 19 "WarpDesk$Series" "size" "I", Cond.fieldLink RX6 11 "WarpDesk$Series" "ring" "[I", Cond.fieldLink RX6 15 "WarpDesk$Series" "first" "I"]
def wz_m247_X6_append : List Cond := .code yX6_append cX6_append 2 (some .boolean) :: (wo_m247_X6_append ++ (wsX60 ++ ([] : List Cond)))
theorem zg_m247_X6_append : ∀ w ∈ wz_m247_X6_append, goodWord w = true := zg_cons rfl (zg_app (by decide +kernel) (zg_app zgU_wsX60 zg_nil))
theorem zi_m247_X6_append : ∀ w ∈ wz_m247_X6_append, w ∈ lw_tbl := zi_cons zw_780 (zi_app (zi_cons zw_282 (zi_cons zw_280 (zi_cons zw_281 zi_nil))) (zi_app inX6 zi_nil))
set_option maxHeartbeats 4000000 in
set_option maxRecDepth 100000 in
theorem m247_X6_append (l : Launch) (D : va_G) (zt : Nat × Nat × Nat) (d : Nat → ClassId) (q : Nat → Nat) : GM l D zt (tyX d) yX6_append wz_m247_X6_append ({ frames := 0, cells := 0, slots := 0, locals := 0 } : Room) [.ref (q 13), .int (-1000)] (wX q d iX0 aX0) (fun v _ w' => v = some (.int 1) ∧ w' = wX q d (upd iX0 18 1) (up3 aX0 7 0 (-1000))) 0 0 := by
  refine GM.of (cc := cX6_append) (maxL := 2) (ret := (some .boolean)) (own := RX6) (lv := [(0, .ref (q 13)), (1, .int (-1000))]) (by decide) rfl rfl (Nat.le_of_ble_eq_true rfl) rfl (fun κ sz hk hR hN => ?_)
  have hin6 : ∀ w ∈ u_ws RX6 TX6 3, w ∈ wz_m247_X6_append := fun w h => (List.mem_cons_of_mem _ (List.mem_append_right _ (List.mem_append_left _ h)))
  refine g_aload_n hk dX6_append_0 rfl ?_
  refine gX_i18 (v := 0) hk hin6 (List.mem_cons_of_mem _ (List.mem_append_left _ (List.mem_of_getElem? (i := 0) rfl))) dX6_append_1 rfl ?_
  refine g_sipush (v := 160) hk dX6_append_4 (by decide) ?_
  refine g_icmp_lt (tgt := 12) (a := 0) (b := 160) hk dX6_append_7 (by decide) rfl rfl (fun _ => ?_) (fun z9 => absurd (show (0 : Int) < (160 : Int) from by decide) z9)
  refine g_aload_n hk dX6_append_12 rfl ?_
  refine gX_r13_0 hk hin6 (List.mem_cons_of_mem _ (List.mem_append_left _ (List.mem_of_getElem? (i := 1) rfl))) dX6_append_13 ?_
  refine g_aload_n hk dX6_append_16 rfl ?_
  refine gX_i17 (v := 0) hk hin6 (List.mem_cons_of_mem _ (List.mem_append_left _ (List.mem_of_getElem? (i := 2) rfl))) dX6_append_17 rfl ?_
  refine g_aload_n hk dX6_append_20 rfl ?_
  refine gX_i18 (v := 0) hk hin6 (List.mem_cons_of_mem _ (List.mem_append_left _ (List.mem_of_getElem? (i := 0) rfl))) dX6_append_21 rfl ?_
  refine g_iadd hk dX6_append_24 ?_
  refine g_norm (v := 0) (by decide) ?_
  refine g_sipush (v := 255) hk dX6_append_25 (by decide) ?_
  refine g_iand hk dX6_append_28 ?_
  refine g_norm (v := 0) (by decide) ?_
  refine g_iload_n hk dX6_append_29 rfl ?_
  refine sX_7 (j := 0) hk (vp_in_iff.mpr ⟨by decide, by decide⟩) (by decide) dX6_append_30 ?_
  refine g_aload_n hk dX6_append_31 rfl ?_
  refine g_dup hk dX6_append_32 rfl ?_
  refine gX_i18 (v := 0) hk hin6 (List.mem_cons_of_mem _ (List.mem_append_left _ (List.mem_of_getElem? (i := 0) rfl))) dX6_append_33 rfl ?_
  refine g_iconst (v := 1) hk dX6_append_36 (by decide) ?_
  refine g_iadd hk dX6_append_37 ?_
  refine g_norm (v := 1) (by decide) ?_
  refine pX_i18 hk hin6 (List.mem_cons_of_mem _ (List.mem_append_left _ (List.mem_of_getElem? (i := 0) rfl))) dX6_append_38 ?_
  refine g_iconst (v := 1) hk dX6_append_41 (by decide) ?_
  exact g_iret hk hR rfl ⟨rfl, rfl⟩ dX6_append_42
