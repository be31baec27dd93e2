set_option maxHeartbeats 4000000 in
set_option maxRecDepth 100000 in
theorem m221_X5_begin (l : Launch) (D : va_G) (zt : Nat × Nat × Nat) (d : Nat → ClassId) (q : Nat → Nat) : GM l D zt (tyX d) yX5_begin wsX5_begin ({ frames := 3, cells := 0, slots := 0, locals := 64 } : Room) [.ref (q 3)] (wX q d iX0 aX0) (fun v _ w' => v = none ∧ w' = wX q d (upd iX0 4 1) aX0) 0 0 := by
  refine GM.of (cc := cX5_begin) (maxL := 1) (ret := none) (own := RX5) (lv := [(0, .ref (q 3))]) (by decide) rfl rfl (Nat.le_of_ble_eq_true rfl) rfl (fun κ sz hk hR hN => ?_)
  have hin4 : ∀ w ∈ u_ws RX4 TX4 3, w ∈ wsX5_begin := by decide +kernel
  have hin5 : ∀ w ∈ u_ws RX5 TX5 13, w ∈ wsX5_begin := by decide +kernel
  refine g_aload_n hk dX5_begin_0 rfl ?_
  refine gX_r3_1 hk hin5 (by decide +kernel) dX5_begin_1 ?_
  refine g_callV hk (m216_X8_clear l D zt d q) (SP.same _) (fun _ h => h) gX5_begin_X8_clear rfl rfl rfl (by decide +kernel) ⟨Nat.le_of_ble_eq_true rfl, Nat.le_of_ble_eq_true rfl⟩ 4 rfl rfl rfl rfl (Nat.le_of_ble_eq_true rfl) ⟨Nat.le_of_ble_eq_true rfl, Nat.le_of_ble_eq_true rfl⟩ dX5_begin_4 (fun v ty' w' hp hk' => ?_)
  obtain ⟨rfl, rfl⟩ := hp
  show GW κ 1 0 0 (wX q d iX0 aX0) 7 [(0, .ref (q 3))] []
  refine g_aload_n hk dX5_begin_7 rfl ?_
  refine gX_r3_2 hk hin5 (by decide +kernel) dX5_begin_8 ?_
  refine g_iconst (v := 0) hk dX5_begin_11 (by decide) ?_
  refine pX_i16 hk hin4 (by decide +kernel) dX5_begin_12 ?_
  refine gX_sameI rfl ?_
  refine g_aload_n hk dX5_begin_15 rfl ?_
  refine g_iconst (v := 0) hk dX5_begin_16 (by decide) ?_
  refine pX_i6 hk hin5 (by decide +kernel) dX5_begin_17 ?_
  refine gX_sameI rfl ?_
  refine g_aload_n hk dX5_begin_20 rfl ?_
  refine g_iconst (v := 0) hk dX5_begin_21 (by decide) ?_
  refine pX_i8 hk hin5 (by decide +kernel) ⟨rfl, rfl⟩ dX5_begin_22 ?_
  refine gX_sameI rfl ?_
  refine g_aload_n hk dX5_begin_25 rfl ?_
  refine g_bipush (v := (-2)) hk dX5_begin_26 (by decide) ?_
  refine pX_i9 hk hin5 (by decide +kernel) dX5_begin_28 ?_
  refine gX_sameI rfl ?_
  refine g_aload_n hk dX5_begin_31 rfl ?_
  refine g_iconst (v := 0) hk dX5_begin_32 (by decide) ?_
  refine pX_i10 hk hin5 (by decide +kernel) ⟨rfl, rfl⟩ dX5_begin_33 ?_
  refine gX_sameI rfl ?_
  refine g_aload_n hk dX5_begin_36 rfl ?_
  refine g_iconst (v := 0) hk dX5_begin_37 (by decide) ?_
  refine pX_i11 hk hin5 (by decide +kernel) dX5_begin_38 ?_
  refine gX_sameI rfl ?_
  refine g_aload_n hk dX5_begin_41 rfl ?_
  refine g_iconst (v := (-1)) hk dX5_begin_42 (by decide) ?_
  refine pX_i12 hk hin5 (by decide +kernel) dX5_begin_43 ?_
  refine gX_sameI rfl ?_
  refine g_aload_n hk dX5_begin_46 rfl ?_
  refine g_iconst (v := (-1)) hk dX5_begin_47 (by decide) ?_
  refine pX_i13 hk hin5 (by decide +kernel) dX5_begin_48 ?_
  refine gX_sameI rfl ?_
  refine g_aload_n hk dX5_begin_51 rfl ?_
  refine gX_r3_0 hk hin5 (by decide +kernel) dX5_begin_52 ?_
  refine g_callV hk (m220_X10_toFirstToken l D zt d q) (SP.same _) (fun _ h => h) gX5_begin_X10_toFirstToken rfl rfl rfl (by decide +kernel) ⟨Nat.le_of_ble_eq_true rfl, Nat.le_of_ble_eq_true rfl⟩ 1 rfl rfl rfl rfl (Nat.le_of_ble_eq_true rfl) ⟨Nat.le_of_ble_eq_true rfl, Nat.le_of_ble_eq_true rfl⟩ dX5_begin_55 (fun v ty' w' hp hk' => ?_)
  obtain ⟨rfl, rfl⟩ := hp
  show GW κ 1 0 0 (wX q d (upd iX0 4 1) aX0) 58 [(0, .ref (q 3))] []
  exact g_vret hk hR ⟨rfl, rfl⟩ dX5_begin_58
set_option maxHeartbeats 4000000 in
set_option maxRecDepth 100000 in
theorem m222_X5_readText (l : Launch) (D : va_G) (zt : Nat × Nat × Nat) (d : Nat → ClassId) (q : Nat → Nat) : GM l D zt (tyX d) yX5_readText wsX5_readText ({ frames := 4, cells := 0, slots := 0, locals := 84 } : Room) [.ref (q 3)] (wX q d iX0 aX0) (fun v _ w' => v = some (.int 0) ∧ w' = wX q d (upd iX0 4 1) aX0) 0 0 := by
  refine GM.of (cc := cX5_readText) (maxL := 2) (ret := (some .int)) (own := RX5) (lv := [(0, .ref (q 3))]) (by decide) rfl rfl (Nat.le_of_ble_eq_true rfl) rfl (fun κ sz hk hR hN => ?_)
  have hin5 : ∀ w ∈ u_ws RX5 TX5 13, w ∈ wsX5_readText := by decide +kernel
  have hin10 : ∀ w ∈ u_ws RX10 TX10 7, w ∈ wsX5_readText := by decide +kernel
  refine g_aload_n hk dX5_readText_0 rfl ?_
  refine g_callV hk (m221_X5_begin l D zt d q) (SP.same _) (fun _ h => h) gX5_readText_X5_begin rfl rfl rfl (by decide +kernel) ⟨Nat.le_of_ble_eq_true rfl, Nat.le_of_ble_eq_true rfl⟩ 3 rfl rfl rfl rfl (Nat.le_of_ble_eq_true rfl) ⟨Nat.le_of_ble_eq_true rfl, Nat.le_of_ble_eq_true rfl⟩ dX5_readText_1 (fun v ty' w' hp hk' => ?_)
  obtain ⟨rfl, rfl⟩ := hp
  show GW κ 2 0 0 (wX q d (upd iX0 4 1) aX0) 4 [(0, .ref (q 3))] []
  refine g_iconst (v := 0) hk dX5_readText_4 (by decide) ?_
  refine g_istore_n (lv' := [(1, .int 0), (0, .ref (q 3))]) hk dX5_readText_5 (by decide) rfl ?_
  refine g_iload_n hk dX5_readText_6 rfl ?_
  refine g_sipush (v := 400) hk dX5_readText_7 (by decide) ?_
  refine g_icmp_gt (tgt := 77) (a := 0) (b := 400) hk dX5_readText_10 (by decide) rfl rfl (fun z9 => absurd z9 (show ¬ (400 < 0) from by decide)) (fun _ => ?_)
  refine g_aload_n hk dX5_readText_13 rfl ?_
  refine gX_i10 (v := 0) hk hin5 (by decide +kernel) dX5_readText_14 rfl ?_
  refine g_if_ne (tgt := 77) (a := 0) hk dX5_readText_17 (by decide) rfl (fun z9 => absurd z9 (show ¬ (0 ≠ 0) from by decide)) (fun _ => ?_)
  refine g_aload_n hk dX5_readText_20 rfl ?_
  refine gX_r3_0 hk hin5 (by decide +kernel) dX5_readText_21 ?_
  refine gX_i1 (v := 0) hk hin10 (by decide +kernel) dX5_readText_24 rfl ?_
  refine g_if_eq (tgt := 77) (a := 0) hk dX5_readText_27 (by decide) rfl (fun _ => ?_) (fun z9 => absurd (show 0 = 0 from by decide) z9)
  refine g_aload_n hk dX5_readText_77 rfl ?_
  refine gX_i10 (v := 0) hk hin5 (by decide +kernel) dX5_readText_78 rfl ?_
  refine g_if_ne (tgt := 96) (a := 0) hk dX5_readText_81 (by decide) rfl (fun z9 => absurd z9 (show ¬ (0 ≠ 0) from by decide)) (fun _ => ?_)
  refine g_aload_n hk dX5_readText_84 rfl ?_
  refine gX_i6 (v := 0) hk hin5 (by decide +kernel) dX5_readText_85 rfl ?_
  refine g_if_eq (tgt := 96) (a := 0) hk dX5_readText_88 (by decide) rfl (fun _ => ?_) (fun z9 => absurd (show 0 = 0 from by decide) z9)
  refine g_aload_n hk dX5_readText_96 rfl ?_
  refine gX_i11 (v := 0) hk hin5 (by decide +kernel) dX5_readText_97 rfl ?_
  exact g_iret hk hR rfl ⟨rfl, rfl⟩ dX5_readText_100
set_option maxHeartbeats 4000000 in
set_option maxRecDepth 100000 in
theorem m223_X4_takeFrom (l : Launch) (D : va_G) (zt : Nat × Nat × Nat) (d : Nat → ClassId) (q : Nat → Nat) : GM l D zt (tyX d) yX4_takeFrom wsX4_takeFrom ({ frames := 0, cells := 0, slots := 0, locals := 0 } : Room) [.ref (q 15), .ref (q 8)] (wX q d (upd iX0 4 1) aX0) (fun v _ w' => v = none ∧ w' = wX q d (upd iX0 4 1) aX0) 0 0 := by
  refine GM.of (cc := cX4_takeFrom) (maxL := 4) (ret := none) (own := RX4) (lv := [(0, .ref (q 15)), (1, .ref (q 8))]) (by decide) rfl rfl (Nat.le_of_ble_eq_true rfl) rfl (fun κ sz hk hR hN => ?_)
  have hin4 : ∀ w ∈ u_ws RX4 TX4 3, w ∈ wsX4_takeFrom := by decide +kernel
  refine g_aload_n hk dX4_takeFrom_0 rfl ?_
  refine g_iconst (v := 0) hk dX4_takeFrom_1 (by decide) ?_
  refine pX_i19 hk hin4 (by decide +kernel) dX4_takeFrom_2 ?_
  refine gX_sameI rfl ?_
  refine g_iconst (v := 0) hk dX4_takeFrom_5 (by decide) ?_
  refine g_istore_n (lv' := [(2, .int 0), (0, .ref (q 15)), (1, .ref (q 8))]) hk dX4_takeFrom_6 (by decide) rfl ?_
  refine g_iload_n hk dX4_takeFrom_7 rfl ?_
  refine g_aload_n hk dX4_takeFrom_8 rfl ?_
  refine gX_i16 (v := 0) hk hin4 (by decide +kernel) dX4_takeFrom_9 rfl ?_
  refine g_icmp_ge (tgt := 52) (a := 0) (b := 0) hk dX4_takeFrom_12 (by decide) rfl rfl (fun _ => ?_) (fun z9 => absurd (show 0 ≤ 0 from by decide) z9)
  exact g_vret hk hR ⟨rfl, rfl⟩ dX4_takeFrom_52
set_option maxHeartbeats 4000000 in
set_option maxRecDepth 100000 in
theorem m224_X6_takeFrom (l : Launch) (D : va_G) (zt : Nat × Nat × Nat) (d : Nat → ClassId) (q : Nat → Nat) : GM l D zt (tyX d) yX6_takeFrom wsX6_takeFrom ({ frames := 0, cells := 0, slots := 0, locals := 0 } : Room) [.ref (q 13), .ref (q 4)] (wX q d (upd iX0 4 1) aX0) (fun v _ w' => v = none ∧ w' = wX q d (upd iX0 4 1) aX0) 0 0 := by
  refine GM.of (cc := cX6_takeFrom) (maxL := 3) (ret := none) (own := RX6) (lv := [(0, .ref (q 13)), (1, .ref (q 4))]) (by decide) rfl rfl (Nat.le_of_ble_eq_true rfl) rfl (fun κ sz hk hR hN => ?_)
  have hin6 : ∀ w ∈ u_ws RX6 TX6 3, w ∈ wsX6_takeFrom := by decide +kernel
  have hin8 : ∀ w ∈ u_ws RX8 TX8 4, w ∈ wsX6_takeFrom := by decide +kernel
  refine g_aload_n hk dX6_takeFrom_0 rfl ?_
  refine g_iconst (v := 0) hk dX6_takeFrom_1 (by decide) ?_
  refine pX_i17 hk hin6 (by decide +kernel) dX6_takeFrom_2 ?_
  refine gX_sameI rfl ?_
  refine g_aload_n hk dX6_takeFrom_5 rfl ?_
  refine g_iconst (v := 0) hk dX6_takeFrom_6 (by decide) ?_
  refine pX_i18 hk hin6 (by decide +kernel) dX6_takeFrom_7 ?_
  refine gX_sameI rfl ?_
  refine g_iconst (v := 0) hk dX6_takeFrom_10 (by decide) ?_
  refine g_istore_n (lv' := [(2, .int 0), (0, .ref (q 13)), (1, .ref (q 4))]) hk dX6_takeFrom_11 (by decide) rfl ?_
  refine g_iload_n hk dX6_takeFrom_12 rfl ?_
  refine g_aload_n hk dX6_takeFrom_13 rfl ?_
  refine gX_i14 (v := 0) hk hin8 (by decide +kernel) dX6_takeFrom_14 rfl ?_
  refine g_icmp_ge (tgt := 36) (a := 0) (b := 0) hk dX6_takeFrom_17 (by decide) rfl rfl (fun _ => ?_) (fun z9 => absurd (show 0 ≤ 0 from by decide) z9)
  exact g_vret hk hR ⟨rfl, rfl⟩ dX6_takeFrom_36
set_option maxHeartbeats 4000000 in
set_option maxRecDepth 100000 in
theorem m225_X7_valueOf (l : Launch) (D : va_G) (zt : Nat × Nat × Nat) (d : Nat → ClassId) (q : Nat → Nat) : GM l D zt (tyX d) yX7_valueOf wsX7_valueOf ({ frames := 0, cells := 0, slots := 0, locals := 0 } : Room) [.ref (q 6), .int 0] (wX q d (upd iX0 4 1) aX0) (fun v _ w' => v = some (.int 2) ∧ w' = wX q d (upd iX0 4 1) aX0) 0 0 := by
  refine GM.of (cc := cX7_valueOf) (maxL := 2) (ret := (some .int)) (own := RX7) (lv := [(0, .ref (q 6)), (1, .int 0)]) (by decide) rfl rfl (Nat.le_of_ble_eq_true rfl) rfl (fun κ sz hk hR hN => ?_)
  have hin7 : ∀ w ∈ u_ws RX7 TX7 1, w ∈ wsX7_valueOf := by decide +kernel
  refine g_iload_n hk dX7_valueOf_0 rfl ?_
  refine g_if_lt (tgt := 22) (a := 0) hk dX7_valueOf_1 (by decide) rfl (fun z9 => absurd z9 (show ¬ (0 < 0) from by decide)) (fun _ => ?_)
  refine g_iload_n hk dX7_valueOf_4 rfl ?_
  refine g_aload_n hk dX7_valueOf_5 rfl ?_
  refine gX_r6_0 hk hin7 (by decide +kernel) dX7_valueOf_6 ?_
  refine nX_2 hk dX7_valueOf_9 ?_
  refine g_icmp_ge (tgt := 22) (a := 0) (b := 4) hk dX7_valueOf_10 (by decide) rfl rfl (fun z9 => absurd z9 (show ¬ (4 ≤ 0) from by decide)) (fun _ => ?_)
  refine g_aload_n hk dX7_valueOf_13 rfl ?_
  refine gX_r6_0 hk hin7 (by decide +kernel) dX7_valueOf_14 ?_
  refine g_iload_n hk dX7_valueOf_17 rfl ?_
  refine lX_2 (v := 2) hk (vp_in_iff.mpr ⟨by decide, by decide⟩) rfl dX7_valueOf_18 ?_
  refine g_goto (tgt := 23) hk dX7_valueOf_19 (by decide) ?_
  exact g_iret hk hR rfl ⟨rfl, rfl⟩ dX7_valueOf_23
set_option maxHeartbeats 4000000 in
set_option maxRecDepth 100000 in
theorem m226_X7_valueOf (l : Launch) (D : va_G) (zt : Nat × Nat × Nat) (d : Nat → ClassId) (q : Nat → Nat) : GM l D zt (tyX d) yX7_valueOf wsX7_valueOf ({ frames := 0, cells := 0, slots := 0, locals := 0 } : Room) [.ref (q 6), .int 1] (wX q d (upd iX0 4 1) aX0) (fun v _ w' => v = some (.int 0) ∧ w' = wX q d (upd iX0 4 1) aX0) 0 0 := by
  refine GM.of (cc := cX7_valueOf) (maxL := 2) (ret := (some .int)) (own := RX7) (lv := [(0, .ref (q 6)), (1, .int 1)]) (by decide) rfl rfl (Nat.le_of_ble_eq_true rfl) rfl (fun κ sz hk hR hN => ?_)
  have hin7 : ∀ w ∈ u_ws RX7 TX7 1, w ∈ wsX7_valueOf := by decide +kernel
  refine g_iload_n hk dX7_valueOf_0 rfl ?_
  refine g_if_lt (tgt := 22) (a := 1) hk dX7_valueOf_1 (by decide) rfl (fun z9 => absurd z9 (show ¬ (1 < 0) from by decide)) (fun _ => ?_)
  refine g_iload_n hk dX7_valueOf_4 rfl ?_
  refine g_aload_n hk dX7_valueOf_5 rfl ?_
  refine gX_r6_0 hk hin7 (by decide +kernel) dX7_valueOf_6 ?_
  refine nX_2 hk dX7_valueOf_9 ?_
  refine g_icmp_ge (tgt := 22) (a := 1) (b := 4) hk dX7_valueOf_10 (by decide) rfl rfl (fun z9 => absurd z9 (show ¬ (4 ≤ 1) from by decide)) (fun _ => ?_)
  refine g_aload_n hk dX7_valueOf_13 rfl ?_
  refine gX_r6_0 hk hin7 (by decide +kernel) dX7_valueOf_14 ?_
  refine g_iload_n hk dX7_valueOf_17 rfl ?_
  refine lX_2 (v := 0) hk (vp_in_iff.mpr ⟨by decide, by decide⟩) rfl dX7_valueOf_18 ?_
  refine g_goto (tgt := 23) hk dX7_valueOf_19 (by decide) ?_
  exact g_iret hk hR rfl ⟨rfl, rfl⟩ dX7_valueOf_23
set_option maxHeartbeats 4000000 in
set_option maxRecDepth 100000 in
theorem m227_X7_valueOf (l : Launch) (D : va_G) (zt : Nat × Nat × Nat) (d : Nat → ClassId) (q : Nat → Nat) : GM l D zt (tyX d) yX7_valueOf wsX7_valueOf ({ frames := 0, cells := 0, slots := 0, locals := 0 } : Room) [.ref (q 6), .int 2] (wX q d (upd iX0 4 1) aX0) (fun v _ w' => v = some (.int 0) ∧ w' = wX q d (upd iX0 4 1) aX0) 0 0 := by
  refine GM.of (cc := cX7_valueOf) (maxL := 2) (ret := (some .int)) (own := RX7) (lv := [(0, .ref (q 6)), (1, .int 2)]) (by decide) rfl rfl (Nat.le_of_ble_eq_true rfl) rfl (fun κ sz hk hR hN => ?_)
  have hin7 : ∀ w ∈ u_ws RX7 TX7 1, w ∈ wsX7_valueOf := by decide +kernel
  refine g_iload_n hk dX7_valueOf_0 rfl ?_
  refine g_if_lt (tgt := 22) (a := 2) hk dX7_valueOf_1 (by decide) rfl (fun z9 => absurd z9 (show ¬ (2 < 0) from by decide)) (fun _ => ?_)
  refine g_iload_n hk dX7_valueOf_4 rfl ?_
  refine g_aload_n hk dX7_valueOf_5 rfl ?_
  refine gX_r6_0 hk hin7 (by decide +kernel) dX7_valueOf_6 ?_
  refine nX_2 hk dX7_valueOf_9 ?_
  refine g_icmp_ge (tgt := 22) (a := 2) (b := 4) hk dX7_valueOf_10 (by decide) rfl rfl (fun z9 => absurd z9 (show ¬ (4 ≤ 2) from by decide)) (fun _ => ?_)
  refine g_aload_n hk dX7_valueOf_13 rfl ?_
  refine gX_r6_0 hk hin7 (by decide +kernel) dX7_valueOf_14 ?_
  refine g_iload_n hk dX7_valueOf_17 rfl ?_
  refine lX_2 (v := 0) hk (vp_in_iff.mpr ⟨by decide, by decide⟩) rfl dX7_valueOf_18 ?_
  refine g_goto (tgt := 23) hk dX7_valueOf_19 (by decide) ?_
  exact g_iret hk hR rfl ⟨rfl, rfl⟩ dX7_valueOf_23
set_option maxHeartbeats 4000000 in
set_option maxRecDepth 100000 in
theorem m228_X7_valueOf (l : Launch) (D : va_G) (zt : Nat × Nat × Nat) (d : Nat → ClassId) (q : Nat → Nat) : GM l D zt (tyX d) yX7_valueOf wsX7_valueOf ({ frames := 0, cells := 0, slots := 0, locals := 0 } : Room) [.ref (q 6), .int 3] (wX q d (upd iX0 4 1) aX0) (fun v _ w' => v = some (.int 8) ∧ w' = wX q d (upd iX0 4 1) aX0) 0 0 := by
  refine GM.of (cc := cX7_valueOf) (maxL := 2) (ret := (some .int)) (own := RX7) (lv := [(0, .ref (q 6)), (1, .int 3)]) (by decide) rfl rfl (Nat.le_of_ble_eq_true rfl) rfl (fun κ sz hk hR hN => ?_)
  have hin7 : ∀ w ∈ u_ws RX7 TX7 1, w ∈ wsX7_valueOf := by decide +kernel
  refine g_iload_n hk dX7_valueOf_0 rfl ?_
  refine g_if_lt (tgt := 22) (a := 3) hk dX7_valueOf_1 (by decide) rfl (fun z9 => absurd z9 (show ¬ (3 < 0) from by decide)) (fun _ => ?_)
  refine g_iload_n hk dX7_valueOf_4 rfl ?_
  refine g_aload_n hk dX7_valueOf_5 rfl ?_
  refine gX_r6_0 hk hin7 (by decide +kernel) dX7_valueOf_6 ?_
  refine nX_2 hk dX7_valueOf_9 ?_
  refine g_icmp_ge (tgt := 22) (a := 3) (b := 4) hk dX7_valueOf_10 (by decide) rfl rfl (fun z9 => absurd z9 (show ¬ (4 ≤ 3) from by decide)) (fun _ => ?_)
  refine g_aload_n hk dX7_valueOf_13 rfl ?_
  refine gX_r6_0 hk hin7 (by decide +kernel) dX7_valueOf_14 ?_
  refine g_iload_n hk dX7_valueOf_17 rfl ?_
  refine lX_2 (v := 8) hk (vp_in_iff.mpr ⟨by decide, by decide⟩) rfl dX7_valueOf_18 ?_
  refine g_goto (tgt := 23) hk dX7_valueOf_19 (by decide) ?_
  exact g_iret hk hR rfl ⟨rfl, rfl⟩ dX7_valueOf_23
set_option maxHeartbeats 4000000 in
set_option maxRecDepth 100000 in
theorem m229_X7_takeFrom (l : Launch) (D : va_G) (zt : Nat × Nat × Nat) (d : Nat → ClassId) (q : Nat → Nat) : GM l D zt (tyX d) yX7_takeFrom wsX7_takeFrom ({ frames := 1, cells := 0, slots := 0, locals := 21 } : Room) [.ref (q 18), .ref (q 6)] (wX q d (upd iX0 4 1) aX0) (fun v _ w' => v = none ∧ w' = wX q d (upd iX0 4 1) aX0) 0 0 := by
  refine GM.of (cc := cX7_takeFrom) (maxL := 3) (ret := none) (own := RX7) (lv := [(0, .ref (q 18)), (1, .ref (q 6))]) (by decide) rfl rfl (Nat.le_of_ble_eq_true rfl) rfl (fun κ sz hk hR hN => ?_)
  have hin7 : ∀ w ∈ u_ws RX7 TX7 1, w ∈ wsX7_takeFrom := by decide +kernel
  refine g_iconst (v := 0) hk dX7_takeFrom_0 (by decide) ?_
  refine g_istore_n (lv' := [(2, .int 0), (0, .ref (q 18)), (1, .ref (q 6))]) hk dX7_takeFrom_1 (by decide) rfl ?_
  refine g_iload_n hk dX7_takeFrom_2 rfl ?_
  refine g_aload_n hk dX7_takeFrom_3 rfl ?_
  refine gX_r18_0 hk hin7 (by decide +kernel) dX7_takeFrom_4 ?_
  refine nX_10 hk dX7_takeFrom_7 ?_
  refine g_icmp_ge (tgt := 28) (a := 0) (b := 4) hk dX7_takeFrom_8 (by decide) rfl rfl (fun z9 => absurd z9 (show ¬ (4 ≤ 0) from by decide)) (fun _ => ?_)
  refine g_aload_n hk dX7_takeFrom_11 rfl ?_
  refine gX_r18_0 hk hin7 (by decide +kernel) dX7_takeFrom_12 ?_
  refine g_iload_n hk dX7_takeFrom_15 rfl ?_
  refine g_aload_n hk dX7_takeFrom_16 rfl ?_
  refine g_iload_n hk dX7_takeFrom_17 rfl ?_
  refine g_callV hk (m225_X7_valueOf l D zt d q) (SP.same _) (fun _ h => h) gX7_takeFrom_X7_valueOf rfl rfl rfl (by decide +kernel) ⟨Nat.le_of_ble_eq_true rfl, Nat.le_of_ble_eq_true rfl⟩ 6 rfl rfl rfl rfl (Nat.le_of_ble_eq_true rfl) ⟨Nat.le_of_ble_eq_true rfl, Nat.le_of_ble_eq_true rfl⟩ dX7_takeFrom_18 (fun v ty' w' hp hk' => ?_)
  obtain ⟨rfl, rfl⟩ := hp
  show GW κ 3 0 0 (wX q d (upd iX0 4 1) aX0) 21 [(2, .int 0), (0, .ref (q 18)), (1, .ref (q 6))] [.int 2, .int 0, .ref (q 19)]
  refine sX_10 (j := 0) hk (vp_in_iff.mpr ⟨by decide, by decide⟩) (by decide) dX7_takeFrom_21 ?_
  refine gX_same rfl ?_
  refine g_iinc (v := 1) (lv' := [(2, .int 1), (0, .ref (q 18)), (1, .ref (q 6))]) hk 0 dX7_takeFrom_22 rfl (by decide) (by decide) rfl ?_
  refine g_goto (tgt := 2) hk dX7_takeFrom_25 (by decide) ?_
  refine g_iload_n hk dX7_takeFrom_2 rfl ?_
  refine g_aload_n hk dX7_takeFrom_3 rfl ?_
  refine gX_r18_0 hk hin7 (by decide +kernel) dX7_takeFrom_4 ?_
  refine nX_10 hk dX7_takeFrom_7 ?_
  refine g_icmp_ge (tgt := 28) (a := 1) (b := 4) hk dX7_takeFrom_8 (by decide) rfl rfl (fun z9 => absurd z9 (show ¬ (4 ≤ 1) from by decide)) (fun _ => ?_)
  refine g_aload_n hk dX7_takeFrom_11 rfl ?_
  refine gX_r18_0 hk hin7 (by decide +kernel) dX7_takeFrom_12 ?_
  refine g_iload_n hk dX7_takeFrom_15 rfl ?_
  refine g_aload_n hk dX7_takeFrom_16 rfl ?_
  refine g_iload_n hk dX7_takeFrom_17 rfl ?_
  refine g_callV hk (m226_X7_valueOf l D zt d q) (SP.same _) (fun _ h => h) gX7_takeFrom_X7_valueOf rfl rfl rfl (by decide +kernel) ⟨Nat.le_of_ble_eq_true rfl, Nat.le_of_ble_eq_true rfl⟩ 6 rfl rfl rfl rfl (Nat.le_of_ble_eq_true rfl) ⟨Nat.le_of_ble_eq_true rfl, Nat.le_of_ble_eq_true rfl⟩ dX7_takeFrom_18 (fun v ty' w' hp hk' => ?_)
  obtain ⟨rfl, rfl⟩ := hp
  show GW κ 3 0 0 (wX q d (upd iX0 4 1) aX0) 21 [(2, .int 1), (0, .ref (q 18)), (1, .ref (q 6))] [.int 0, .int 1, .ref (q 19)]
  refine sX_10 (j := 1) hk (vp_in_iff.mpr ⟨by decide, by decide⟩) (by decide) dX7_takeFrom_21 ?_
  refine gX_same rfl ?_
  refine g_iinc (v := 2) (lv' := [(2, .int 2), (0, .ref (q 18)), (1, .ref (q 6))]) hk 0 dX7_takeFrom_22 rfl (by decide) (by decide) rfl ?_
  refine g_goto (tgt := 2) hk dX7_takeFrom_25 (by decide) ?_
  refine g_iload_n hk dX7_takeFrom_2 rfl ?_
  refine g_aload_n hk dX7_takeFrom_3 rfl ?_
  refine gX_r18_0 hk hin7 (by decide +kernel) dX7_takeFrom_4 ?_
  refine nX_10 hk dX7_takeFrom_7 ?_
  refine g_icmp_ge (tgt := 28) (a := 2) (b := 4) hk dX7_takeFrom_8 (by decide) rfl rfl (fun z9 => absurd z9 (show ¬ (4 ≤ 2) from by decide)) (fun _ => ?_)
  refine g_aload_n hk dX7_takeFrom_11 rfl ?_
  refine gX_r18_0 hk hin7 (by decide +kernel) dX7_takeFrom_12 ?_
  refine g_iload_n hk dX7_takeFrom_15 rfl ?_
  refine g_aload_n hk dX7_takeFrom_16 rfl ?_
  refine g_iload_n hk dX7_takeFrom_17 rfl ?_
  refine g_callV hk (m227_X7_valueOf l D zt d q) (SP.same _) (fun _ h => h) gX7_takeFrom_X7_valueOf rfl rfl rfl (by decide +kernel) ⟨Nat.le_of_ble_eq_true rfl, Nat.le_of_ble_eq_true rfl⟩ 6 rfl rfl rfl rfl (Nat.le_of_ble_eq_true rfl) ⟨Nat.le_of_ble_eq_true rfl, Nat.le_of_ble_eq_true rfl⟩ dX7_takeFrom_18 (fun v ty' w' hp hk' => ?_)
  obtain ⟨rfl, rfl⟩ := hp
  show GW κ 3 0 0 (wX q d (upd iX0 4 1) aX0) 21 [(2, .int 2), (0, .ref (q 18)), (1, .ref (q 6))] [.int 0, .int 2, .ref (q 19)]
  refine sX_10 (j := 2) hk (vp_in_iff.mpr ⟨by decide, by decide⟩) (by decide) dX7_takeFrom_21 ?_
  refine gX_same rfl ?_
  refine g_iinc (v := 3) (lv' := [(2, .int 3), (0, .ref (q 18)), (1, .ref (q 6))]) hk 0 dX7_takeFrom_22 rfl (by decide) (by decide) rfl ?_
  refine g_goto (tgt := 2) hk dX7_takeFrom_25 (by decide) ?_
  refine g_iload_n hk dX7_takeFrom_2 rfl ?_
  refine g_aload_n hk dX7_takeFrom_3 rfl ?_
  refine gX_r18_0 hk hin7 (by decide +kernel) dX7_takeFrom_4 ?_
  refine nX_10 hk dX7_takeFrom_7 ?_
  refine g_icmp_ge (tgt := 28) (a := 3) (b := 4) hk dX7_takeFrom_8 (by decide) rfl rfl (fun z9 => absurd z9 (show ¬ (4 ≤ 3) from by decide)) (fun _ => ?_)
  refine g_aload_n hk dX7_takeFrom_11 rfl ?_
  refine gX_r18_0 hk hin7 (by decide +kernel) dX7_takeFrom_12 ?_
  refine g_iload_n hk dX7_takeFrom_15 rfl ?_
  refine g_aload_n hk dX7_takeFrom_16 rfl ?_
  refine g_iload_n hk dX7_takeFrom_17 rfl ?_
  refine g_callV hk (m228_X7_valueOf l D zt d q) (SP.same _) (fun _ h => h) gX7_takeFrom_X7_valueOf rfl rfl rfl (by decide +kernel) ⟨Nat.le_of_ble_eq_true rfl, Nat.le_of_ble_eq_true rfl⟩ 6 rfl rfl rfl rfl (Nat.le_of_ble_eq_true rfl) ⟨Nat.le_of_ble_eq_true rfl, Nat.le_of_ble_eq_true rfl⟩ dX7_takeFrom_18 (fun v ty' w' hp hk' => ?_)
  obtain ⟨rfl, rfl⟩ := hp
  show GW κ 3 0 0 (wX q d (upd iX0 4 1) aX0) 21 [(2, .int 3), (0, .ref (q 18)), (1, .ref (q 6))] [.int 8, .int 3, .ref (q 19)]
  refine sX_10 (j := 3) hk (vp_in_iff.mpr ⟨by decide, by decide⟩) (by decide) dX7_takeFrom_21 ?_
  refine gX_same rfl ?_
  refine g_iinc (v := 4) (lv' := [(2, .int 4), (0, .ref (q 18)), (1, .ref (q 6))]) hk 0 dX7_takeFrom_22 rfl (by decide) (by decide) rfl ?_
  refine g_goto (tgt := 2) hk dX7_takeFrom_25 (by decide) ?_
  refine g_iload_n hk dX7_takeFrom_2 rfl ?_
  refine g_aload_n hk dX7_takeFrom_3 rfl ?_
  refine gX_r18_0 hk hin7 (by decide +kernel) dX7_takeFrom_4 ?_
  refine nX_10 hk dX7_takeFrom_7 ?_
  refine g_icmp_ge (tgt := 28) (a := 4) (b := 4) hk dX7_takeFrom_8 (by decide) rfl rfl (fun _ => ?_) (fun z9 => absurd (show 4 ≤ 4 from by decide) z9)
  exact g_vret hk hR ⟨rfl, rfl⟩ dX7_takeFrom_28
set_option maxHeartbeats 4000000 in
set_option maxRecDepth 100000 in
theorem m230_X3_forget (l : Launch) (D : va_G) (zt : Nat × Nat × Nat) (d : Nat → ClassId) (q : Nat → Nat) : GM l D zt (tyX d) yX3_forget wsX3_forget ({ frames := 0, cells := 0, slots := 0, locals := 0 } : Room) [.ref (q 20)] (wX q d (upd iX0 4 1) aX0) (fun v _ w' => v = none ∧ w' = wX q d (upd iX0 4 1) aX0) 0 0 := by
  refine GM.of (cc := cX3_forget) (maxL := 1) (ret := none) (own := RX3) (lv := [(0, .ref (q 20))]) (by decide) rfl rfl (Nat.le_of_ble_eq_true rfl) rfl (fun κ sz hk hR hN => ?_)
  have hin3 : ∀ w ∈ u_ws RX3 TX3 5, w ∈ wsX3_forget := by decide +kernel
  refine g_aload_n hk dX3_forget_0 rfl ?_
  refine g_iconst (v := 0) hk dX3_forget_1 (by decide) ?_
  refine pX_i21 hk hin3 (by decide +kernel) dX3_forget_2 ?_
  refine gX_sameI rfl ?_
  exact g_vret hk hR ⟨rfl, rfl⟩ dX3_forget_5
set_option maxHeartbeats 4000000 in
set_option maxRecDepth 100000 in
theorem m231_X11_goOnFrom (l : Launch) (D : va_G) (zt : Nat × Nat × Nat) (d : Nat → ClassId) (q : Nat → Nat) : GM l D zt (tyX d) yX11_goOnFrom wsX11_goOnFrom ({ frames := 2, cells := 0, slots := 0, locals := 43 } : Room) [.ref (q 0), .ref (q 4)] (wX q d (upd iX0 4 1) aX0) (fun v _ w' => v = none ∧ w' = wX q d (upd iX0 4 1) aX0) 0 0 := by
  refine GM.of (cc := cX11_goOnFrom) (maxL := 2) (ret := none) (own := RX11) (lv := [(0, .ref (q 0)), (1, .ref (q 4))]) (by decide) rfl rfl (Nat.le_of_ble_eq_true rfl) rfl (fun κ sz hk hR hN => ?_)
  have hin8 : ∀ w ∈ u_ws RX8 TX8 4, w ∈ wsX11_goOnFrom := by decide +kernel
  have hin11 : ∀ w ∈ u_ws RX11 TX11 10, w ∈ wsX11_goOnFrom := by decide +kernel
  refine g_aload_n hk dX11_goOnFrom_0 rfl ?_
  refine gX_r0_2 hk hin11 (by decide +kernel) dX11_goOnFrom_1 ?_
  refine g_aload_n hk dX11_goOnFrom_4 rfl ?_
  refine g_callV hk (m224_X6_takeFrom l D zt d q) (SP.same _) (fun _ h => h) gX11_goOnFrom_X6_takeFrom rfl rfl rfl (by decide +kernel) ⟨Nat.le_of_ble_eq_true rfl, Nat.le_of_ble_eq_true rfl⟩ 13 rfl rfl rfl rfl (Nat.le_of_ble_eq_true rfl) ⟨Nat.le_of_ble_eq_true rfl, Nat.le_of_ble_eq_true rfl⟩ dX11_goOnFrom_5 (fun v ty' w' hp hk' => ?_)
  obtain ⟨rfl, rfl⟩ := hp
  show GW κ 2 0 0 (wX q d (upd iX0 4 1) aX0) 8 [(0, .ref (q 0)), (1, .ref (q 4))] []
  refine g_aload_n hk dX11_goOnFrom_8 rfl ?_
  refine gX_r0_4 hk hin11 (by decide +kernel) dX11_goOnFrom_9 ?_
  refine g_aload_n hk dX11_goOnFrom_12 rfl ?_
  refine gX_r4_2 hk hin8 (by decide +kernel) dX11_goOnFrom_13 ?_
  refine g_callV hk (m229_X7_takeFrom l D zt d q) (SP.same _) (fun _ h => h) gX11_goOnFrom_X7_takeFrom rfl rfl rfl (by decide +kernel) ⟨Nat.le_of_ble_eq_true rfl, Nat.le_of_ble_eq_true rfl⟩ 18 rfl rfl rfl rfl (Nat.le_of_ble_eq_true rfl) ⟨Nat.le_of_ble_eq_true rfl, Nat.le_of_ble_eq_true rfl⟩ dX11_goOnFrom_16 (fun v ty' w' hp hk' => ?_)
  obtain ⟨rfl, rfl⟩ := hp
  show GW κ 2 0 0 (wX q d (upd iX0 4 1) aX0) 19 [(0, .ref (q 0)), (1, .ref (q 4))] []
  refine g_aload_n hk dX11_goOnFrom_19 rfl ?_
  refine gX_r0_5 hk hin11 (by decide +kernel) dX11_goOnFrom_20 ?_
  refine g_callV hk (m230_X3_forget l D zt d q) (SP.same _) (fun _ h => h) gX11_goOnFrom_X3_forget rfl rfl rfl (by decide +kernel) ⟨Nat.le_of_ble_eq_true rfl, Nat.le_of_ble_eq_true rfl⟩ 20 rfl rfl rfl rfl (Nat.le_of_ble_eq_true rfl) ⟨Nat.le_of_ble_eq_true rfl, Nat.le_of_ble_eq_true rfl⟩ dX11_goOnFrom_23 (fun v ty' w' hp hk' => ?_)
  obtain ⟨rfl, rfl⟩ := hp
  show GW κ 2 0 0 (wX q d (upd iX0 4 1) aX0) 26 [(0, .ref (q 0)), (1, .ref (q 4))] []
  exact g_vret hk hR ⟨rfl, rfl⟩ dX11_goOnFrom_26
set_option maxHeartbeats 4000000 in
set_option maxRecDepth 100000 in
theorem m232_X11_read (l : Launch) (D : va_G) (zt : Nat × Nat × Nat) (d : Nat → ClassId) (q : Nat → Nat) : GM l D zt (tyX d) yX11_read wsX11_read ({ frames := 5, cells := 0, slots := 0, locals := 105 } : Room) [.ref (q 0)] (wX q d iX0 aX0) (fun v _ w' => v = some (.int 0) ∧ w' = wX q d (upd iX0 4 1) aX0) 0 0 := by
  refine GM.of (cc := cX11_read) (maxL := 3) (ret := (some .int)) (own := RX11) (lv := [(0, .ref (q 0))]) (by decide) rfl rfl (Nat.le_of_ble_eq_true rfl) rfl (fun κ sz hk hR hN => ?_)
  have hin5 : ∀ w ∈ u_ws RX5 TX5 13, w ∈ wsX11_read := by decide +kernel
  have hin8 : ∀ w ∈ u_ws RX8 TX8 4, w ∈ wsX11_read := by decide +kernel
  have hin10 : ∀ w ∈ u_ws RX10 TX10 7, w ∈ wsX11_read := by decide +kernel
  have hin11 : ∀ w ∈ u_ws RX11 TX11 10, w ∈ wsX11_read := by decide +kernel
  refine g_aload_n hk dX11_read_0 rfl ?_
  refine gX_r0_1 hk hin11 (by decide +kernel) dX11_read_1 ?_
  refine g_callV hk (m222_X5_readText l D zt d q) (SP.same _) (fun _ h => h) gX11_read_X5_readText rfl rfl rfl (by decide +kernel) ⟨Nat.le_of_ble_eq_true rfl, Nat.le_of_ble_eq_true rfl⟩ 3 rfl rfl rfl rfl (Nat.le_of_ble_eq_true rfl) ⟨Nat.le_of_ble_eq_true rfl, Nat.le_of_ble_eq_true rfl⟩ dX11_read_4 (fun v ty' w' hp hk' => ?_)
  obtain ⟨rfl, rfl⟩ := hp
  show GW κ 3 0 0 (wX q d (upd iX0 4 1) aX0) 7 [(0, .ref (q 0))] [.int 0]
  refine g_istore_n (lv' := [(1, .int 0), (0, .ref (q 0))]) hk dX11_read_7 (by decide) rfl ?_
  refine g_aload_n hk dX11_read_8 rfl ?_
  refine gX_r0_0 hk hin11 (by decide +kernel) dX11_read_9 ?_
  refine g_iconst (v := 0) hk dX11_read_12 (by decide) ?_
  refine pX_i0 hk hin10 (by decide +kernel) dX11_read_13 ?_
  refine gX_sameI rfl ?_
  refine g_iload_n hk dX11_read_16 rfl ?_
  refine g_if_ne (tgt := 72) (a := 0) hk dX11_read_17 (by decide) rfl (fun z9 => absurd z9 (show ¬ (0 ≠ 0) from by decide)) (fun _ => ?_)
  refine g_aload_n hk dX11_read_20 rfl ?_
  refine gX_r0_3 hk hin11 (by decide +kernel) dX11_read_21 ?_
  refine g_aload_n hk dX11_read_24 rfl ?_
  refine gX_r0_1 hk hin11 (by decide +kernel) dX11_read_25 ?_
  refine gX_r3_2 hk hin5 (by decide +kernel) dX11_read_28 ?_
  refine g_callV hk (m223_X4_takeFrom l D zt d q) (SP.same _) (fun _ h => h) gX11_read_X4_takeFrom rfl rfl rfl (by decide +kernel) ⟨Nat.le_of_ble_eq_true rfl, Nat.le_of_ble_eq_true rfl⟩ 15 rfl rfl rfl rfl (Nat.le_of_ble_eq_true rfl) ⟨Nat.le_of_ble_eq_true rfl, Nat.le_of_ble_eq_true rfl⟩ dX11_read_31 (fun v ty' w' hp hk' => ?_)
  obtain ⟨rfl, rfl⟩ := hp
  show GW κ 3 0 0 (wX q d (upd iX0 4 1) aX0) 34 [(1, .int 0), (0, .ref (q 0))] []
  refine g_aload_n hk dX11_read_34 rfl ?_
  refine g_aload_n hk dX11_read_35 rfl ?_
  refine gX_r0_1 hk hin11 (by decide +kernel) dX11_read_36 ?_
  refine gX_r3_1 hk hin5 (by decide +kernel) dX11_read_39 ?_
  refine g_callV hk (m231_X11_goOnFrom l D zt d q) (SP.same _) (fun _ h => h) gX11_read_X11_goOnFrom rfl rfl rfl (by decide +kernel) ⟨Nat.le_of_ble_eq_true rfl, Nat.le_of_ble_eq_true rfl⟩ 0 rfl rfl rfl rfl (Nat.le_of_ble_eq_true rfl) ⟨Nat.le_of_ble_eq_true rfl, Nat.le_of_ble_eq_true rfl⟩ dX11_read_42 (fun v ty' w' hp hk' => ?_)
  obtain ⟨rfl, rfl⟩ := hp
  show GW κ 3 0 0 (wX q d (upd iX0 4 1) aX0) 45 [(1, .int 0), (0, .ref (q 0))] []
  refine g_iconst (v := 0) hk dX11_read_45 (by decide) ?_
  refine g_istore_n (lv' := [(2, .int 0), (1, .int 0), (0, .ref (q 0))]) hk dX11_read_46 (by decide) rfl ?_
  refine g_iload_n hk dX11_read_47 rfl ?_
  refine g_aload_n hk dX11_read_48 rfl ?_
  refine gX_r0_6 hk hin11 (by decide +kernel) dX11_read_49 ?_
  refine nX_14 hk dX11_read_52 ?_
  refine g_icmp_ge (tgt := 72) (a := 0) (b := 3) hk dX11_read_53 (by decide) rfl rfl (fun z9 => absurd z9 (show ¬ (3 ≤ 0) from by decide)) (fun _ => ?_)
  refine g_aload_n hk dX11_read_56 rfl ?_
  refine gX_r0_6 hk hin11 (by decide +kernel) dX11_read_57 ?_
  refine g_iload_n hk dX11_read_60 rfl ?_
  refine lX_14 hk (vp_in_iff.mpr ⟨by decide, by decide⟩) rfl dX11_read_61 ?_
  refine g_iconst (v := 0) hk dX11_read_62 (by decide) ?_
  refine pX_i23 hk hin8 (by decide +kernel) ⟨rfl, rfl⟩ dX11_read_63 ?_
  refine gX_sameI rfl ?_
  refine g_iinc (v := 1) (lv' := [(2, .int 1), (1, .int 0), (0, .ref (q 0))]) hk 0 dX11_read_66 rfl (by decide) (by decide) rfl ?_
  refine g_goto (tgt := 47) hk dX11_read_69 (by decide) ?_
  refine g_iload_n hk dX11_read_47 rfl ?_
  refine g_aload_n hk dX11_read_48 rfl ?_
  refine gX_r0_6 hk hin11 (by decide +kernel) dX11_read_49 ?_
  refine nX_14 hk dX11_read_52 ?_
  refine g_icmp_ge (tgt := 72) (a := 1) (b := 3) hk dX11_read_53 (by decide) rfl rfl (fun z9 => absurd z9 (show ¬ (3 ≤ 1) from by decide)) (fun _ => ?_)
  refine g_aload_n hk dX11_read_56 rfl ?_
  refine gX_r0_6 hk hin11 (by decide +kernel) dX11_read_57 ?_
  refine g_iload_n hk dX11_read_60 rfl ?_
  refine lX_14 hk (vp_in_iff.mpr ⟨by decide, by decide⟩) rfl dX11_read_61 ?_
  refine g_iconst (v := 0) hk dX11_read_62 (by decide) ?_
  refine pX_i25 hk hin8 (by decide +kernel) ⟨rfl, rfl⟩ dX11_read_63 ?_
  refine gX_sameI rfl ?_
  refine g_iinc (v := 2) (lv' := [(2, .int 2), (1, .int 0), (0, .ref (q 0))]) hk 0 dX11_read_66 rfl (by decide) (by decide) rfl ?_
  refine g_goto (tgt := 47) hk dX11_read_69 (by decide) ?_
  refine g_iload_n hk dX11_read_47 rfl ?_
  refine g_aload_n hk dX11_read_48 rfl ?_
  refine gX_r0_6 hk hin11 (by decide +kernel) dX11_read_49 ?_
  refine nX_14 hk dX11_read_52 ?_
  refine g_icmp_ge (tgt := 72) (a := 2) (b := 3) hk dX11_read_53 (by decide) rfl rfl (fun z9 => absurd z9 (show ¬ (3 ≤ 2) from by decide)) (fun _ => ?_)
  refine g_aload_n hk dX11_read_56 rfl ?_
  refine gX_r0_6 hk hin11 (by decide +kernel) dX11_read_57 ?_
  refine g_iload_n hk dX11_read_60 rfl ?_
  refine lX_14 hk (vp_in_iff.mpr ⟨by decide, by decide⟩) rfl dX11_read_61 ?_
  refine g_iconst (v := 0) hk dX11_read_62 (by decide) ?_
  refine pX_i27 hk hin8 (by decide +kernel) ⟨rfl, rfl⟩ dX11_read_63 ?_
  refine gX_sameI rfl ?_
  refine g_iinc (v := 3) (lv' := [(2, .int 3), (1, .int 0), (0, .ref (q 0))]) hk 0 dX11_read_66 rfl (by decide) (by decide) rfl ?_
  refine g_goto (tgt := 47) hk dX11_read_69 (by decide) ?_
  refine g_iload_n hk dX11_read_47 rfl ?_
  refine g_aload_n hk dX11_read_48 rfl ?_
  refine gX_r0_6 hk hin11 (by decide +kernel) dX11_read_49 ?_
  refine nX_14 hk dX11_read_52 ?_
  refine g_icmp_ge (tgt := 72) (a := 3) (b := 3) hk dX11_read_53 (by decide) rfl rfl (fun _ => ?_) (fun z9 => absurd (show 3 ≤ 3 from by decide) z9)
  refine g_iload_n hk dX11_read_72 rfl ?_
  exact g_iret hk hR rfl ⟨rfl, rfl⟩ dX11_read_73
set_option maxHeartbeats 4000000 in
set_option maxRecDepth 100000 in
theorem m233_X11_place (l : Launch) (D : va_G) (zt : Nat × Nat × Nat) (d : Nat → ClassId) (q : Nat → Nat) : GM l D zt (tyX d) yX11_place wsX11_place ({ frames := 0, cells := 0, slots := 0, locals := 0 } : Room) [.ref (q 0)] (wX q d iX0 aX0) (fun v _ w' => v = some (.int (-1)) ∧ w' = wX q d iX0 aX0) 0 0 := by
  refine GM.of (cc := cX11_place) (maxL := 1) (ret := (some .int)) (own := RX11) (lv := [(0, .ref (q 0))]) (by decide) rfl rfl (Nat.le_of_ble_eq_true rfl) rfl (fun κ sz hk hR hN => ?_)
  have hin5 : ∀ w ∈ u_ws RX5 TX5 13, w ∈ wsX11_place := by decide +kernel
  have hin11 : ∀ w ∈ u_ws RX11 TX11 10, w ∈ wsX11_place := by decide +kernel
  refine g_aload_n hk dX11_place_0 rfl ?_
  refine gX_r0_1 hk hin11 (by decide +kernel) dX11_place_1 ?_
  refine gX_i12 (v := (-1)) hk hin5 (by decide +kernel) dX11_place_4 rfl ?_
  exact g_iret hk hR rfl ⟨rfl, rfl⟩ dX11_place_7
set_option maxHeartbeats 4000000 in
set_option maxRecDepth 100000 in
theorem m234_X11_cause (l : Launch) (D : va_G) (zt : Nat × Nat × Nat) (d : Nat → ClassId) (q : Nat → Nat) : GM l D zt (tyX d) yX11_cause wsX11_cause ({ frames := 0, cells := 0, slots := 0, locals := 0 } : Room) [.ref (q 0)] (wX q d iX0 aX0) (fun v _ w' => v = some (.int (-1)) ∧ w' = wX q d iX0 aX0) 0 0 := by
  refine GM.of (cc := cX11_cause) (maxL := 1) (ret := (some .int)) (own := RX11) (lv := [(0, .ref (q 0))]) (by decide) rfl rfl (Nat.le_of_ble_eq_true rfl) rfl (fun κ sz hk hR hN => ?_)
  have hin5 : ∀ w ∈ u_ws RX5 TX5 13, w ∈ wsX11_cause := by decide +kernel
  have hin11 : ∀ w ∈ u_ws RX11 TX11 10, w ∈ wsX11_cause := by decide +kernel
  refine g_aload_n hk dX11_cause_0 rfl ?_
  refine gX_r0_1 hk hin11 (by decide +kernel) dX11_cause_1 ?_
  refine gX_i13 (v := (-1)) hk hin5 (by decide +kernel) dX11_cause_4 rfl ?_
  exact g_iret hk hR rfl ⟨rfl, rfl⟩ dX11_cause_7
set_option maxHeartbeats 4000000 in
set_option maxRecDepth 100000 in
theorem m235_X6_valueAt (l : Launch) (D : va_G) (zt : Nat × Nat × Nat) (d : Nat → ClassId) (q : Nat → Nat) (a1 : Int32) : GM l D zt (tyX d) yX6_valueAt wsX6_valueAt ({ frames := 0, cells := 0, slots := 0, locals := 0 } : Room) [.ref (q 13), .int a1] (wX q d iX0 aX0) (fun v _ w' => v = some (.int (-1000)) ∧ w' = wX q d iX0 aX0) 0 0 := by
  refine GM.of (cc := cX6_valueAt) (maxL := 2) (ret := (some .int)) (own := RX6) (lv := [(0, .ref (q 13)), (1, .int a1)]) (by decide) rfl rfl (Nat.le_of_ble_eq_true rfl) rfl (fun κ sz hk hR hN => ?_)
  have hin6 : ∀ w ∈ u_ws RX6 TX6 3, w ∈ wsX6_valueAt := by decide +kernel
  refine g_iload_n hk dX6_valueAt_0 rfl ?_
  refine g_if_lt (tgt := 30) (a := a1.toInt) hk dX6_valueAt_1 (by decide) rfl (fun c621 => ?_) (fun c621 => ?_)
  · skip
    refine g_sipush (v := (-1000)) hk dX6_valueAt_30 (by decide) ?_
    exact g_iret hk hR rfl ⟨rfl, rfl⟩ dX6_valueAt_33
  · skip
    refine g_iload_n hk dX6_valueAt_4 rfl ?_
    refine g_aload_n hk dX6_valueAt_5 rfl ?_
    refine gX_i18 (v := 0) hk hin6 (by decide +kernel) dX6_valueAt_6 rfl ?_
    refine g_icmp_ge (tgt := 30) (a := a1.toInt) (b := 0) hk dX6_valueAt_9 (by decide) rfl rfl (fun _ => ?_) (fun z9 => absurd (show 0 ≤ a1.toInt from by omega) z9)
    refine g_sipush (v := (-1000)) hk dX6_valueAt_30 (by decide) ?_
    exact g_iret hk hR rfl ⟨rfl, rfl⟩ dX6_valueAt_33
set_option maxHeartbeats 4000000 in
set_option maxRecDepth 100000 in
theorem m236_X11_at (l : Launch) (D : va_G) (zt : Nat × Nat × Nat) (d : Nat → ClassId) (q : Nat → Nat) (a1 : Int32) : GM l D zt (tyX d) yX11_at wsX11_at ({ frames := 1, cells := 0, slots := 0, locals := 21 } : Room) [.ref (q 0), .int a1] (wX q d iX0 aX0) (fun v _ w' => v = some (.int (-1000)) ∧ w' = wX q d iX0 aX0) 0 0 := by
  refine GM.of (cc := cX11_at) (maxL := 2) (ret := (some .int)) (own := RX11) (lv := [(0, .ref (q 0)), (1, .int a1)]) (by decide) rfl rfl (Nat.le_of_ble_eq_true rfl) rfl (fun κ sz hk hR hN => ?_)
  have hin11 : ∀ w ∈ u_ws RX11 TX11 10, w ∈ wsX11_at := by decide +kernel
  refine g_aload_n hk dX11_at_0 rfl ?_
  refine gX_r0_2 hk hin11 (by decide +kernel) dX11_at_1 ?_
  refine g_iload_n hk dX11_at_4 rfl ?_
  refine g_callV hk (m235_X6_valueAt l D zt d q a1) (SP.same _) (fun _ h => h) gX11_at_X6_valueAt rfl rfl rfl (by decide +kernel) ⟨Nat.le_of_ble_eq_true rfl, Nat.le_of_ble_eq_true rfl⟩ 13 rfl rfl rfl rfl (Nat.le_of_ble_eq_true rfl) ⟨Nat.le_of_ble_eq_true rfl, Nat.le_of_ble_eq_true rfl⟩ dX11_at_5 (fun v ty' w' hp hk' => ?_)
  obtain ⟨rfl, rfl⟩ := hp
  show GW κ 2 0 0 (wX q d iX0 aX0) 8 [(0, .ref (q 0)), (1, .int a1)] [.int (-1000)]
  exact g_iret hk hR rfl ⟨rfl, rfl⟩ dX11_at_8
set_option maxHeartbeats 4000000 in
set_option maxRecDepth 100000 in
theorem m237_X4_has (l : Launch) (D : va_G) (zt : Nat × Nat × Nat) (d : Nat → ClassId) (q : Nat → Nat) (a1 : Int32) : GM l D zt (tyX d) yX4_has wsX4_has ({ frames := 0, cells := 0, slots := 0, locals := 0 } : Room) [.ref (q 15), .int a1] (wX q d iX0 aX0) (fun v _ w' => v = some (.int 0) ∧ w' = wX q d iX0 aX0) 0 0 := by
  refine GM.of (cc := cX4_has) (maxL := 2) (ret := (some .boolean)) (own := RX4) (lv := [(0, .ref (q 15)), (1, .int a1)]) (by decide) rfl rfl (Nat.le_of_ble_eq_true rfl) rfl (fun κ sz hk hR hN => ?_)
  have hin4 : ∀ w ∈ u_ws RX4 TX4 3, w ∈ wsX4_has := by decide +kernel
  refine g_iload_n hk dX4_has_0 rfl ?_
  refine g_if_lt (tgt := 21) (a := a1.toInt) hk dX4_has_1 (by decide) rfl (fun c624 => ?_) (fun c624 => ?_)
  · skip
    refine g_iconst (v := 0) hk dX4_has_21 (by decide) ?_
    exact g_iret hk hR rfl ⟨rfl, rfl⟩ dX4_has_22
  · skip
    refine g_iload_n hk dX4_has_4 rfl ?_
    refine g_aload_n hk dX4_has_5 rfl ?_
    refine gX_i19 (v := 0) hk hin4 (by decide +kernel) dX4_has_6 rfl ?_
    refine g_icmp_ge (tgt := 21) (a := a1.toInt) (b := 0) hk dX4_has_9 (by decide) rfl rfl (fun _ => ?_) (fun z9 => absurd (show 0 ≤ a1.toInt from by omega) z9)
    refine g_iconst (v := 0) hk dX4_has_21 (by decide) ?_
    exact g_iret hk hR rfl ⟨rfl, rfl⟩ dX4_has_22
set_option maxHeartbeats 4000000 in
set_option maxRecDepth 100000 in
theorem m238_X4_lengthOf (l : Launch) (D : va_G) (zt : Nat × Nat × Nat) (d : Nat → ClassId) (q : Nat → Nat) (a1 : Int32) : GM l D zt (tyX d) yX4_lengthOf wsX4_lengthOf ({ frames := 1, cells := 0, slots := 0, locals := 21 } : Room) [.ref (q 15), .int a1] (wX q d iX0 aX0) (fun v _ w' => v = some (.int 0) ∧ w' = wX q d iX0 aX0) 0 0 := by
  refine GM.of (cc := cX4_lengthOf) (maxL := 2) (ret := (some .int)) (own := RX4) (lv := [(0, .ref (q 15)), (1, .int a1)]) (by decide) rfl rfl (Nat.le_of_ble_eq_true rfl) rfl (fun κ sz hk hR hN => ?_)
  refine g_aload_n hk dX4_lengthOf_0 rfl ?_
  refine g_iload_n hk dX4_lengthOf_1 rfl ?_
  refine g_callV hk (m237_X4_has l D zt d q a1) (SP.same _) (fun _ h => h) gX4_lengthOf_X4_has rfl rfl rfl (by decide +kernel) ⟨Nat.le_of_ble_eq_true rfl, Nat.le_of_ble_eq_true rfl⟩ 15 rfl rfl rfl rfl (Nat.le_of_ble_eq_true rfl) ⟨Nat.le_of_ble_eq_true rfl, Nat.le_of_ble_eq_true rfl⟩ dX4_lengthOf_2 (fun v ty' w' hp hk' => ?_)
  obtain ⟨rfl, rfl⟩ := hp
  show GW κ 2 0 0 (wX q d iX0 aX0) 5 [(0, .ref (q 15)), (1, .int a1)] [.int 0]
  refine g_if_eq (tgt := 17) (a := 0) hk dX4_lengthOf_5 (by decide) rfl (fun _ => ?_) (fun z9 => absurd (show 0 = 0 from by decide) z9)
  refine g_iconst (v := 0) hk dX4_lengthOf_17 (by decide) ?_
  exact g_iret hk hR rfl ⟨rfl, rfl⟩ dX4_lengthOf_18
set_option maxHeartbeats 4000000 in
set_option maxRecDepth 100000 in
theorem m239_X4_valueAt (l : Launch) (D : va_G) (zt : Nat × Nat × Nat) (d : Nat → ClassId) (q : Nat → Nat) (a1 : Int32) (a2 : Int32) : GM l D zt (tyX d) yX4_valueAt wsX4_valueAt ({ frames := 2, cells := 0, slots := 0, locals := 42 } : Room) [.ref (q 15), .int a1, .int a2] (wX q d iX0 aX0) (fun v _ w' => v = some (.int (-1000)) ∧ w' = wX q d iX0 aX0) 0 0 := by
  refine GM.of (cc := cX4_valueAt) (maxL := 3) (ret := (some .int)) (own := RX4) (lv := [(0, .ref (q 15)), (1, .int a1), (2, .int a2)]) (by decide) rfl rfl (Nat.le_of_ble_eq_true rfl) rfl (fun κ sz hk hR hN => ?_)
  refine g_iload_n hk dX4_valueAt_0 rfl ?_
  refine g_if_lt (tgt := 33) (a := a2.toInt) hk dX4_valueAt_1 (by decide) rfl (fun c622 => ?_) (fun c622 => ?_)
  · skip
    refine g_sipush (v := (-1000)) hk dX4_valueAt_33 (by decide) ?_
    exact g_iret hk hR rfl ⟨rfl, rfl⟩ dX4_valueAt_36
  · skip
    refine g_iload_n hk dX4_valueAt_4 rfl ?_
    refine g_bipush (v := 16) hk dX4_valueAt_5 (by decide) ?_
    refine g_icmp_ge (tgt := 33) (a := a2.toInt) (b := 16) hk dX4_valueAt_7 (by decide) rfl rfl (fun c623 => ?_) (fun c623 => ?_)
    · skip
      refine g_sipush (v := (-1000)) hk dX4_valueAt_33 (by decide) ?_
      exact g_iret hk hR rfl ⟨rfl, rfl⟩ dX4_valueAt_36
    · skip
      refine g_iload_n hk dX4_valueAt_10 rfl ?_
      refine g_aload_n hk dX4_valueAt_11 rfl ?_
      refine g_iload_n hk dX4_valueAt_12 rfl ?_
      refine g_callV hk (m238_X4_lengthOf l D zt d q a1) (SP.same _) (fun _ h => h) gX4_valueAt_X4_lengthOf rfl rfl rfl (by decide +kernel) ⟨Nat.le_of_ble_eq_true rfl, Nat.le_of_ble_eq_true rfl⟩ 15 rfl rfl rfl rfl (Nat.le_of_ble_eq_true rfl) ⟨Nat.le_of_ble_eq_true rfl, Nat.le_of_ble_eq_true rfl⟩ dX4_valueAt_13 (fun v ty' w' hp hk' => ?_)
      obtain ⟨rfl, rfl⟩ := hp
      show GW κ 3 0 0 (wX q d iX0 aX0) 16 [(0, .ref (q 15)), (1, .int a1), (2, .int a2)] [.int 0, .int a2]
      refine g_icmp_ge (tgt := 33) (a := a2.toInt) (b := 0) hk dX4_valueAt_16 (by decide) rfl rfl (fun _ => ?_) (fun z9 => absurd (show 0 ≤ a2.toInt from by omega) z9)
      refine g_sipush (v := (-1000)) hk dX4_valueAt_33 (by decide) ?_
      exact g_iret hk hR rfl ⟨rfl, rfl⟩ dX4_valueAt_36
set_option maxHeartbeats 4000000 in
set_option maxRecDepth 100000 in
theorem m240_X11_query (l : Launch) (D : va_G) (zt : Nat × Nat × Nat) (d : Nat → ClassId) (q : Nat → Nat) (a1 : Int32) (a2 : Int32) : GM l D zt (tyX d) yX11_query wsX11_query ({ frames := 3, cells := 0, slots := 0, locals := 64 } : Room) [.ref (q 0), .int a1, .int a2] (wX q d iX0 aX0) (fun v _ w' => v = some (.int (-1000)) ∧ w' = wX q d iX0 aX0) 0 0 := by
  refine GM.of (cc := cX11_query) (maxL := 3) (ret := (some .int)) (own := RX11) (lv := [(0, .ref (q 0)), (1, .int a1), (2, .int a2)]) (by decide) rfl rfl (Nat.le_of_ble_eq_true rfl) rfl (fun κ sz hk hR hN => ?_)
  have hin11 : ∀ w ∈ u_ws RX11 TX11 10, w ∈ wsX11_query := by decide +kernel
  refine g_aload_n hk dX11_query_0 rfl ?_
  refine gX_r0_3 hk hin11 (by decide +kernel) dX11_query_1 ?_
  refine g_iload_n hk dX11_query_4 rfl ?_
  refine g_iload_n hk dX11_query_5 rfl ?_
  refine g_callV hk (m239_X4_valueAt l D zt d q a1 a2) (SP.same _) (fun _ h => h) gX11_query_X4_valueAt rfl rfl rfl (by decide +kernel) ⟨Nat.le_of_ble_eq_true rfl, Nat.le_of_ble_eq_true rfl⟩ 15 rfl rfl rfl rfl (Nat.le_of_ble_eq_true rfl) ⟨Nat.le_of_ble_eq_true rfl, Nat.le_of_ble_eq_true rfl⟩ dX11_query_6 (fun v ty' w' hp hk' => ?_)
  obtain ⟨rfl, rfl⟩ := hp
  show GW κ 3 0 0 (wX q d iX0 aX0) 9 [(0, .ref (q 0)), (1, .int a1), (2, .int a2)] [.int (-1000)]
  exact g_iret hk hR rfl ⟨rfl, rfl⟩ dX11_query_9
set_option maxHeartbeats 4000000 in
set_option maxRecDepth 100000 in
theorem m241_X6_append (l : Launch) (D : va_G) (zt : Nat × Nat × Nat) (d : Nat → ClassId) (q : Nat → Nat) (a1 : Int32) (h0 : (-999) ≤ a1.toInt) (h1 : a1.toInt ≤ 999) : GM l D zt (tyX d) yX6_append wsX6_append ({ frames := 0, cells := 0, slots := 0, locals := 0 } : Room) [.ref (q 13), .int a1] (wX q d iX0 aX0) (fun v _ w' => v = some (.int 1) ∧ w' = wX q d (upd iX0 18 1) (up3 aX0 7 0 a1)) 0 0 := by
  refine GM.of (cc := cX6_append) (maxL := 2) (ret := (some .boolean)) (own := RX6) (lv := [(0, .ref (q 13)), (1, .int a1)]) (by decide) rfl rfl (Nat.le_of_ble_eq_true rfl) rfl (fun κ sz hk hR hN => ?_)
  have hin6 : ∀ w ∈ u_ws RX6 TX6 3, w ∈ wsX6_append := by decide +kernel
  refine g_aload_n hk dX6_append_0 rfl ?_
  refine gX_i18 (v := 0) hk hin6 (by decide +kernel) dX6_append_1 rfl ?_
  refine g_sipush (v := 160) hk dX6_append_4 (by decide) ?_
  refine g_icmp_lt (tgt := 12) (a := 0) (b := 160) hk dX6_append_7 (by decide) rfl rfl (fun _ => ?_) (fun z9 => absurd (show 0 < 160 from by decide) z9)
  refine g_aload_n hk dX6_append_12 rfl ?_
  refine gX_r13_0 hk hin6 (by decide +kernel) dX6_append_13 ?_
  refine g_aload_n hk dX6_append_16 rfl ?_
  refine gX_i17 (v := 0) hk hin6 (by decide +kernel) dX6_append_17 rfl ?_
  refine g_aload_n hk dX6_append_20 rfl ?_
  refine gX_i18 (v := 0) hk hin6 (by decide +kernel) dX6_append_21 rfl ?_
  refine g_iadd hk dX6_append_24 ?_
  refine g_norm (v := 0) (by decide) ?_
  refine g_sipush (v := 255) hk dX6_append_25 (by decide) ?_
  refine g_iand hk dX6_append_28 ?_
  refine g_norm (v := 0) (by decide) ?_
  refine g_iload_n hk dX6_append_29 rfl ?_
  refine sX_7 (j := 0) hk (vp_in_iff.mpr ⟨by decide, by decide⟩) (by decide) dX6_append_30 ?_
  refine g_aload_n hk dX6_append_31 rfl ?_
  refine g_dup hk dX6_append_32 rfl ?_
  refine gX_i18 (v := 0) hk hin6 (by decide +kernel) dX6_append_33 rfl ?_
  refine g_iconst (v := 1) hk dX6_append_36 (by decide) ?_
  refine g_iadd hk dX6_append_37 ?_
  refine g_norm (v := 1) (by decide) ?_
  refine pX_i18 hk hin6 (by decide +kernel) dX6_append_38 ?_
  refine g_iconst (v := 1) hk dX6_append_41 (by decide) ?_
  exact g_iret hk hR rfl ⟨rfl, rfl⟩ dX6_append_42
set_option maxHeartbeats 4000000 in
set_option maxRecDepth 100000 in
theorem m242_X3_note (l : Launch) (D : va_G) (zt : Nat × Nat × Nat) (d : Nat → ClassId) (q : Nat → Nat) : GM l D zt (tyX d) yX3_note wsX3_note ({ frames := 1, cells := 0, slots := 0, locals := 14 } : Room) [.ref (q 20), .int 0, .int 0, .int 0] (wX q d (upd iX0 18 1) (up3 aX0 7 0 a1)) (fun v _ w' => v = none ∧ w' = wX q d (upd (upd (upd iX0 18 1) 20 1) 21 1) (up3 aX0 7 0 a1)) 0 0 := by
  refine GM.of (cc := cX3_note) (maxL := 4) (ret := none) (own := RX3) (lv := [(0, .ref (q 20)), (1, .int 0), (2, .int 0), (3, .int 0)]) (by decide) rfl rfl (Nat.le_of_ble_eq_true rfl) rfl (fun κ sz hk hR hN => ?_)
  have hin3 : ∀ w ∈ u_ws RX3 TX3 5, w ∈ wsX3_note := by decide +kernel
  refine g_aload_n hk dX3_note_0 rfl ?_
  refine gX_i20 (v := 0) hk hin3 (by decide +kernel) dX3_note_1 rfl ?_
  refine g_if_lt (tgt := 16) (a := 0) hk dX3_note_4 (by decide) rfl (fun z9 => absurd z9 (show ¬ (0 < 0) from by decide)) (fun _ => ?_)
  refine g_aload_n hk dX3_note_7 rfl ?_
  refine gX_i20 (v := 0) hk hin3 (by decide +kernel) dX3_note_8 rfl ?_
  refine g_bipush (v := 40) hk dX3_note_11 (by decide) ?_
  refine g_icmp_lt (tgt := 17) (a := 0) (b := 40) hk dX3_note_13 (by decide) rfl rfl (fun _ => ?_) (fun z9 => absurd (show 0 < 40 from by decide) z9)
  refine g_aload_n hk dX3_note_17 rfl ?_
  refine gX_r20_0 hk hin3 (by decide +kernel) dX3_note_18 ?_
  refine g_aload_n hk dX3_note_21 rfl ?_
  refine gX_i20 (v := 0) hk hin3 (by decide +kernel) dX3_note_22 rfl ?_
  refine g_iload_n hk dX3_note_25 rfl ?_
  refine sX_11 (j := 0) hk (vp_in_iff.mpr ⟨by decide, by decide⟩) (by decide) dX3_note_26 ?_
  refine gX_same rfl ?_
  refine g_aload_n hk dX3_note_27 rfl ?_
  refine gX_r20_1 hk hin3 (by decide +kernel) dX3_note_28 ?_
  refine g_aload_n hk dX3_note_31 rfl ?_
  refine gX_i20 (v := 0) hk hin3 (by decide +kernel) dX3_note_32 rfl ?_
  refine g_iload_n hk dX3_note_35 rfl ?_
  refine sX_12 (j := 0) hk (vp_in_iff.mpr ⟨by decide, by decide⟩) (by decide) dX3_note_36 ?_
  refine gX_same rfl ?_
  refine g_aload_n hk dX3_note_37 rfl ?_
  refine gX_r20_2 hk hin3 (by decide +kernel) dX3_note_38 ?_
  refine g_aload_n hk dX3_note_41 rfl ?_
  refine gX_i20 (v := 0) hk hin3 (by decide +kernel) dX3_note_42 rfl ?_
  refine g_iload_n hk dX3_note_45 rfl ?_
  refine sX_13 (j := 0) hk (vp_in_iff.mpr ⟨by decide, by decide⟩) (by decide) dX3_note_46 ?_
  refine gX_same rfl ?_
  refine g_aload_n hk dX3_note_47 rfl ?_
  refine g_aload_n hk dX3_note_48 rfl ?_
  refine gX_i20 (v := 0) hk hin3 (by decide +kernel) dX3_note_49 rfl ?_
  refine g_bipush (v := 39) hk dX3_note_52 (by decide) ?_
  refine g_icmp_ne (tgt := 61) (a := 0) (b := 39) hk dX3_note_54 (by decide) rfl rfl (fun _ => ?_) (fun z9 => absurd (show 0 ≠ 39 from by decide) z9)
  refine g_aload_n hk dX3_note_61 rfl ?_
  refine gX_i20 (v := 0) hk hin3 (by decide +kernel) dX3_note_62 rfl ?_
  refine g_iconst (v := 1) hk dX3_note_65 (by decide) ?_
  refine g_iadd hk dX3_note_66 ?_
  refine g_norm (v := 1) (by decide) ?_
  refine pX_i20 hk hin3 (by decide +kernel) dX3_note_67 ?_
  refine g_aload_n hk dX3_note_70 rfl ?_
  refine g_aload_n hk dX3_note_71 rfl ?_
  refine gX_i21 (v := 0) hk hin3 (by decide +kernel) dX3_note_72 rfl ?_
  refine g_iconst (v := 1) hk dX3_note_75 (by decide) ?_
  refine g_iadd hk dX3_note_76 ?_
  refine g_norm (v := 1) (by decide) ?_
  refine g_bipush (v := 40) hk dX3_note_77 (by decide) ?_
  refine g_mmin hk (by decide +kernel) (by decide +kernel) (by decide +kernel) (by decide +kernel) (Nat.le_of_ble_eq_true rfl) (Nat.le_of_ble_eq_true rfl) (Nat.le_of_ble_eq_true rfl) (Nat.le_of_ble_eq_true rfl) dX3_note_79 ?_
  refine g_norm (v := 1) (by decide) ?_
  refine pX_i21 hk hin3 (by decide +kernel) dX3_note_82 ?_
  exact g_vret hk hR ⟨rfl, rfl⟩ dX3_note_85
set_option maxHeartbeats 4000000 in
set_option maxRecDepth 100000 in
theorem m243_X11_appendPlace (l : Launch) (D : va_G) (zt : Nat × Nat × Nat) (d : Nat → ClassId) (q : Nat → Nat) (a1 : Int32) (h0 : (-999) ≤ a1.toInt) (h1 : a1.toInt ≤ 999) : GM l D zt (tyX d) yX11_appendPlace wsX11_appendPlace ({ frames := 2, cells := 0, slots := 0, locals := 37 } : Room) [.ref (q 0), .int a1] (wX q d iX0 aX0) (fun v _ w' => v = some (.int 1) ∧ w' = wX q d (upd (upd (upd iX0 18 1) 20 1) 21 1) (up3 aX0 7 0 a1)) 0 0 := by
  refine GM.of (cc := cX11_appendPlace) (maxL := 2) (ret := (some .int)) (own := RX11) (lv := [(0, .ref (q 0)), (1, .int a1)]) (by decide) rfl rfl (Nat.le_of_ble_eq_true rfl) rfl (fun κ sz hk hR hN => ?_)
  have hin6 : ∀ w ∈ u_ws RX6 TX6 3, w ∈ wsX11_appendPlace := by decide +kernel
  have hin11 : ∀ w ∈ u_ws RX11 TX11 10, w ∈ wsX11_appendPlace := by decide +kernel
  refine g_aload_n hk dX11_appendPlace_0 rfl ?_
  refine gX_r0_2 hk hin11 (by decide +kernel) dX11_appendPlace_1 ?_
  refine g_iload_n hk dX11_appendPlace_4 rfl ?_
  refine g_callV hk (m241_X6_append l D zt d q a1 (by omega) (by omega)) (SP.same _) (fun _ h => h) gX11_appendPlace_X6_append rfl rfl rfl (by decide +kernel) ⟨Nat.le_of_ble_eq_true rfl, Nat.le_of_ble_eq_true rfl⟩ 13 rfl rfl rfl rfl (Nat.le_of_ble_eq_true rfl) ⟨Nat.le_of_ble_eq_true rfl, Nat.le_of_ble_eq_true rfl⟩ dX11_appendPlace_5 (fun v ty' w' hp hk' => ?_)
  obtain ⟨rfl, rfl⟩ := hp
  show GW κ 2 0 0 (wX q d (upd iX0 18 1) (up3 aX0 7 0 a1)) 8 [(0, .ref (q 0)), (1, .int a1)] [.int 1]
  refine g_if_ne (tgt := 13) (a := 1) hk dX11_appendPlace_8 (by decide) rfl (fun _ => ?_) (fun z9 => absurd (show 1 ≠ 0 from by decide) z9)
  refine g_aload_n hk dX11_appendPlace_13 rfl ?_
  refine gX_r0_5 hk hin11 (by decide +kernel) dX11_appendPlace_14 ?_
  refine g_iconst (v := 0) hk dX11_appendPlace_17 (by decide) ?_
  refine g_iconst (v := 0) hk dX11_appendPlace_18 (by decide) ?_
  refine g_iconst (v := 0) hk dX11_appendPlace_19 (by decide) ?_
  refine g_callV hk (m242_X3_note l D zt d q) (SP.same _) (fun _ h => h) gX11_appendPlace_X3_note rfl rfl rfl (by decide +kernel) ⟨Nat.le_of_ble_eq_true rfl, Nat.le_of_ble_eq_true rfl⟩ 20 rfl rfl rfl rfl (Nat.le_of_ble_eq_true rfl) ⟨Nat.le_of_ble_eq_true rfl, Nat.le_of_ble_eq_true rfl⟩ dX11_appendPlace_20 (fun v ty' w' hp hk' => ?_)
  obtain ⟨rfl, rfl⟩ := hp
  show GW κ 2 0 0 (wX q d (upd (upd (upd iX0 18 1) 20 1) 21 1) (up3 aX0 7 0 a1)) 23 [(0, .ref (q 0)), (1, .int a1)] []
  refine g_aload_n hk dX11_appendPlace_23 rfl ?_
  refine gX_r0_2 hk hin11 (by decide +kernel) dX11_appendPlace_24 ?_
  refine gX_i18 (v := 1) hk hin6 (by decide +kernel) dX11_appendPlace_27 rfl ?_
  exact g_iret hk hR rfl ⟨rfl, rfl⟩ dX11_appendPlace_30
set_option maxHeartbeats 4000000 in
set_option maxRecDepth 100000 in
theorem m244_X11_push (l : Launch) (D : va_G) (zt : Nat × Nat × Nat) (d : Nat → ClassId) (q : Nat → Nat) (a1 : Int32) : GM l D zt (tyX d) yX11_push wsX11_push ({ frames := 3, cells := 0, slots := 0, locals := 58 } : Room) [.ref (q 0), .int a1] (wX q d iX0 aX0) (fun v _ w' => ((a1.toInt < (-999)) ∧ v = some (.int (-1)) ∧ w' = wX q d iX0 aX0) ∨ ((¬ (a1.toInt < (-999))) ∧ (a1.toInt ≤ 999) ∧ v = some (.int 1) ∧ w' = wX q d (upd (upd (upd iX0 18 1) 20 1) 21 1) (up3 aX0 7 0 a1)) ∨ ((¬ (a1.toInt < (-999))) ∧ (¬ (a1.toInt ≤ 999)) ∧ v = some (.int (-1)) ∧ w' = wX q d iX0 aX0)) 0 0 := by
  refine GM.of (cc := cX11_push) (maxL := 2) (ret := (some .int)) (own := RX11) (lv := [(0, .ref (q 0)), (1, .int a1)]) (by decide) rfl rfl (Nat.le_of_ble_eq_true rfl) rfl (fun κ sz hk hR hN => ?_)
  refine g_iload_n hk dX11_push_0 rfl ?_
  refine g_sipush (v := (-999)) hk dX11_push_1 (by decide) ?_
  refine g_icmp_lt (tgt := 14) (a := a1.toInt) (b := (-999)) hk dX11_push_4 (by decide) rfl rfl (fun c625 => ?_) (fun c625 => ?_)
  · skip
    refine g_iconst (v := (-1)) hk dX11_push_14 (by decide) ?_
    exact g_iret hk hR rfl (Or.inl ⟨c625, rfl, rfl⟩) dX11_push_15
  · skip
    refine g_iload_n hk dX11_push_7 rfl ?_
    refine g_sipush (v := 999) hk dX11_push_8 (by decide) ?_
    refine g_icmp_le (tgt := 16) (a := a1.toInt) (b := 999) hk dX11_push_11 (by decide) rfl rfl (fun c626 => ?_) (fun c626 => ?_)
    · skip
      refine g_aload_n hk dX11_push_16 rfl ?_
      refine g_iload_n hk dX11_push_17 rfl ?_
      refine g_callV hk (m243_X11_appendPlace l D zt d q a1 (by omega) (by omega)) (SP.same _) (fun _ h => h) gX11_push_X11_appendPlace rfl rfl rfl (by decide +kernel) ⟨Nat.le_of_ble_eq_true rfl, Nat.le_of_ble_eq_true rfl⟩ 0 rfl rfl rfl rfl (Nat.le_of_ble_eq_true rfl) ⟨Nat.le_of_ble_eq_true rfl, Nat.le_of_ble_eq_true rfl⟩ dX11_push_18 (fun v ty' w' hp hk' => ?_)
      obtain ⟨rfl, rfl⟩ := hp
      show GW κ 2 0 0 (wX q d (upd (upd (upd iX0 18 1) 20 1) 21 1) (up3 aX0 7 0 a1)) 21 [(0, .ref (q 0)), (1, .int a1)] [.int 1]
      exact g_iret hk hR rfl (Or.inr (Or.inl ⟨c625, c626, rfl, rfl⟩)) dX11_push_21
    · skip
      refine g_iconst (v := (-1)) hk dX11_push_14 (by decide) ?_
      exact g_iret hk hR rfl (Or.inr (Or.inr (⟨c625, c626, rfl, rfl⟩))) dX11_push_15
set_option maxHeartbeats 4000000 in
set_option maxRecDepth 100000 in
theorem m245_X6_append (l : Launch) (D : va_G) (zt : Nat × Nat × Nat) (d : Nat → ClassId) (q : Nat → Nat) : GM l D zt (tyX d) yX6_append wsX6_append ({ frames := 0, cells := 0, slots := 0, locals := 0 } : Room) [.ref (q 13), .int (-1000)] (wX q d iX0 aX0) (fun v _ w' => v = some (.int 1) ∧ w' = wX q d (upd iX0 18 1) (up3 aX0 7 0 (-1000))) 0 0 := by
  refine GM.of (cc := cX6_append) (maxL := 2) (ret := (some .boolean)) (own := RX6) (lv := [(0, .ref (q 13)), (1, .int (-1000))]) (by decide) rfl rfl (Nat.le_of_ble_eq_true rfl) rfl (fun κ sz hk hR hN => ?_)
  have hin6 : ∀ w ∈ u_ws RX6 TX6 3, w ∈ wsX6_append := by decide +kernel
  refine g_aload_n hk dX6_append_0 rfl ?_
  refine gX_i18 (v := 0) hk hin6 (by decide +kernel) dX6_append_1 rfl ?_
  refine g_sipush (v := 160) hk dX6_append_4 (by decide) ?_
  refine g_icmp_lt (tgt := 12) (a := 0) (b := 160) hk dX6_append_7 (by decide) rfl rfl (fun _ => ?_) (fun z9 => absurd (show 0 < 160 from by decide) z9)
  refine g_aload_n hk dX6_append_12 rfl ?_
  refine gX_r13_0 hk hin6 (by decide +kernel) dX6_append_13 ?_
  refine g_aload_n hk dX6_append_16 rfl ?_
  refine gX_i17 (v := 0) hk hin6 (by decide +kernel) dX6_append_17 rfl ?_
  refine g_aload_n hk dX6_append_20 rfl ?_
  refine gX_i18 (v := 0) hk hin6 (by decide +kernel) dX6_append_21 rfl ?_
  refine g_iadd hk dX6_append_24 ?_
  refine g_norm (v := 0) (by decide) ?_
  refine g_sipush (v := 255) hk dX6_append_25 (by decide) ?_
  refine g_iand hk dX6_append_28 ?_
  refine g_norm (v := 0) (by decide) ?_
  refine g_iload_n hk dX6_append_29 rfl ?_
  refine sX_7 (j := 0) hk (vp_in_iff.mpr ⟨by decide, by decide⟩) (by decide) dX6_append_30 ?_
  refine g_aload_n hk dX6_append_31 rfl ?_
  refine g_dup hk dX6_append_32 rfl ?_
  refine gX_i18 (v := 0) hk hin6 (by decide +kernel) dX6_append_33 rfl ?_
  refine g_iconst (v := 1) hk dX6_append_36 (by decide) ?_
  refine g_iadd hk dX6_append_37 ?_
  refine g_norm (v := 1) (by decide) ?_
  refine pX_i18 hk hin6 (by decide +kernel) dX6_append_38 ?_
  refine g_iconst (v := 1) hk dX6_append_41 (by decide) ?_
  exact g_iret hk hR rfl ⟨rfl, rfl⟩ dX6_append_42
set_option maxHeartbeats 4000000 in
set_option maxRecDepth 100000 in
theorem m246_X3_note (l : Launch) (D : va_G) (zt : Nat × Nat × Nat) (d : Nat → ClassId) (q : Nat → Nat) : GM l D zt (tyX d) yX3_note wsX3_note ({ frames := 1, cells := 0, slots := 0, locals := 14 } : Room) [.ref (q 20), .int 0, .int 0, .int 0] (wX q d (upd iX0 18 1) (up3 aX0 7 0 (-1000))) (fun v _ w' => v = none ∧ w' = wX q d (upd (upd (upd iX0 18 1) 20 1) 21 1) (up3 aX0 7 0 (-1000))) 0 0 := by
  refine GM.of (cc := cX3_note) (maxL := 4) (ret := none) (own := RX3) (lv := [(0, .ref (q 20)), (1, .int 0), (2, .int 0), (3, .int 0)]) (by decide) rfl rfl (Nat.le_of_ble_eq_true rfl) rfl (fun κ sz hk hR hN => ?_)
  have hin3 : ∀ w ∈ u_ws RX3 TX3 5, w ∈ wsX3_note := by decide +kernel
  refine g_aload_n hk dX3_note_0 rfl ?_
  refine gX_i20 (v := 0) hk hin3 (by decide +kernel) dX3_note_1 rfl ?_
  refine g_if_lt (tgt := 16) (a := 0) hk dX3_note_4 (by decide) rfl (fun z9 => absurd z9 (show ¬ (0 < 0) from by decide)) (fun _ => ?_)
  refine g_aload_n hk dX3_note_7 rfl ?_
  refine gX_i20 (v := 0) hk hin3 (by decide +kernel) dX3_note_8 rfl ?_
  refine g_bipush (v := 40) hk dX3_note_11 (by decide) ?_
  refine g_icmp_lt (tgt := 17) (a := 0) (b := 40) hk dX3_note_13 (by decide) rfl rfl (fun _ => ?_) (fun z9 => absurd (show 0 < 40 from by decide) z9)
  refine g_aload_n hk dX3_note_17 rfl ?_
  refine gX_r20_0 hk hin3 (by decide +kernel) dX3_note_18 ?_
  refine g_aload_n hk dX3_note_21 rfl ?_
  refine gX_i20 (v := 0) hk hin3 (by decide +kernel) dX3_note_22 rfl ?_
  refine g_iload_n hk dX3_note_25 rfl ?_
  refine sX_11 (j := 0) hk (vp_in_iff.mpr ⟨by decide, by decide⟩) (by decide) dX3_note_26 ?_
  refine gX_same rfl ?_
  refine g_aload_n hk dX3_note_27 rfl ?_
  refine gX_r20_1 hk hin3 (by decide +kernel) dX3_note_28 ?_
  refine g_aload_n hk dX3_note_31 rfl ?_
  refine gX_i20 (v := 0) hk hin3 (by decide +kernel) dX3_note_32 rfl ?_
  refine g_iload_n hk dX3_note_35 rfl ?_
  refine sX_12 (j := 0) hk (vp_in_iff.mpr ⟨by decide, by decide⟩) (by decide) dX3_note_36 ?_
  refine gX_same rfl ?_
  refine g_aload_n hk dX3_note_37 rfl ?_
  refine gX_r20_2 hk hin3 (by decide +kernel) dX3_note_38 ?_
  refine g_aload_n hk dX3_note_41 rfl ?_
  refine gX_i20 (v := 0) hk hin3 (by decide +kernel) dX3_note_42 rfl ?_
  refine g_iload_n hk dX3_note_45 rfl ?_
  refine sX_13 (j := 0) hk (vp_in_iff.mpr ⟨by decide, by decide⟩) (by decide) dX3_note_46 ?_
  refine gX_same rfl ?_
  refine g_aload_n hk dX3_note_47 rfl ?_
  refine g_aload_n hk dX3_note_48 rfl ?_
  refine gX_i20 (v := 0) hk hin3 (by decide +kernel) dX3_note_49 rfl ?_
  refine g_bipush (v := 39) hk dX3_note_52 (by decide) ?_
  refine g_icmp_ne (tgt := 61) (a := 0) (b := 39) hk dX3_note_54 (by decide) rfl rfl (fun _ => ?_) (fun z9 => absurd (show 0 ≠ 39 from by decide) z9)
  refine g_aload_n hk dX3_note_61 rfl ?_
  refine gX_i20 (v := 0) hk hin3 (by decide +kernel) dX3_note_62 rfl ?_
  refine g_iconst (v := 1) hk dX3_note_65 (by decide) ?_
  refine g_iadd hk dX3_note_66 ?_
  refine g_norm (v := 1) (by decide) ?_
  refine pX_i20 hk hin3 (by decide +kernel) dX3_note_67 ?_
  refine g_aload_n hk dX3_note_70 rfl ?_
  refine g_aload_n hk dX3_note_71 rfl ?_
  refine gX_i21 (v := 0) hk hin3 (by decide +kernel) dX3_note_72 rfl ?_
  refine g_iconst (v := 1) hk dX3_note_75 (by decide) ?_
  refine g_iadd hk dX3_note_76 ?_
  refine g_norm (v := 1) (by decide) ?_
  refine g_bipush (v := 40) hk dX3_note_77 (by decide) ?_
  refine g_mmin hk (by decide +kernel) (by decide +kernel) (by decide +kernel) (by decide +kernel) (Nat.le_of_ble_eq_true rfl) (Nat.le_of_ble_eq_true rfl) (Nat.le_of_ble_eq_true rfl) (Nat.le_of_ble_eq_true rfl) dX3_note_79 ?_
  refine g_norm (v := 1) (by decide) ?_
  refine pX_i21 hk hin3 (by decide +kernel) dX3_note_82 ?_
  exact g_vret hk hR ⟨rfl, rfl⟩ dX3_note_85
set_option maxHeartbeats 4000000 in
set_option maxRecDepth 100000 in
theorem m247_X11_appendPlace (l : Launch) (D : va_G) (zt : Nat × Nat × Nat) (d : Nat → ClassId) (q : Nat → Nat) : GM l D zt (tyX d) yX11_appendPlace wsX11_appendPlace ({ frames := 2, cells := 0, slots := 0, locals := 37 } : Room) [.ref (q 0), .int (-1000)] (wX q d iX0 aX0) (fun v _ w' => v = some (.int 1) ∧ w' = wX q d (upd (upd (upd iX0 18 1) 20 1) 21 1) (up3 aX0 7 0 (-1000))) 0 0 := by
  refine GM.of (cc := cX11_appendPlace) (maxL := 2) (ret := (some .int)) (own := RX11) (lv := [(0, .ref (q 0)), (1, .int (-1000))]) (by decide) rfl rfl (Nat.le_of_ble_eq_true rfl) rfl (fun κ sz hk hR hN => ?_)
  have hin6 : ∀ w ∈ u_ws RX6 TX6 3, w ∈ wsX11_appendPlace := by decide +kernel
  have hin11 : ∀ w ∈ u_ws RX11 TX11 10, w ∈ wsX11_appendPlace := by decide +kernel
  refine g_aload_n hk dX11_appendPlace_0 rfl ?_
  refine gX_r0_2 hk hin11 (by decide +kernel) dX11_appendPlace_1 ?_
  refine g_iload_n hk dX11_appendPlace_4 rfl ?_
  refine g_callV hk (m245_X6_append l D zt d q) (SP.same _) (fun _ h => h) gX11_appendPlace_X6_append rfl rfl rfl (by decide +kernel) ⟨Nat.le_of_ble_eq_true rfl, Nat.le_of_ble_eq_true rfl⟩ 13 rfl rfl rfl rfl (Nat.le_of_ble_eq_true rfl) ⟨Nat.le_of_ble_eq_true rfl, Nat.le_of_ble_eq_true rfl⟩ dX11_appendPlace_5 (fun v ty' w' hp hk' => ?_)
  obtain ⟨rfl, rfl⟩ := hp
  show GW κ 2 0 0 (wX q d (upd iX0 18 1) (up3 aX0 7 0 (-1000))) 8 [(0, .ref (q 0)), (1, .int (-1000))] [.int 1]
  refine g_if_ne (tgt := 13) (a := 1) hk dX11_appendPlace_8 (by decide) rfl (fun _ => ?_) (fun z9 => absurd (show 1 ≠ 0 from by decide) z9)
  refine g_aload_n hk dX11_appendPlace_13 rfl ?_
  refine gX_r0_5 hk hin11 (by decide +kernel) dX11_appendPlace_14 ?_
  refine g_iconst (v := 0) hk dX11_appendPlace_17 (by decide) ?_
  refine g_iconst (v := 0) hk dX11_appendPlace_18 (by decide) ?_
  refine g_iconst (v := 0) hk dX11_appendPlace_19 (by decide) ?_
  refine g_callV hk (m246_X3_note l D zt d q) (SP.same _) (fun _ h => h) gX11_appendPlace_X3_note rfl rfl rfl (by decide +kernel) ⟨Nat.le_of_ble_eq_true rfl, Nat.le_of_ble_eq_true rfl⟩ 20 rfl rfl rfl rfl (Nat.le_of_ble_eq_true rfl) ⟨Nat.le_of_ble_eq_true rfl, Nat.le_of_ble_eq_true rfl⟩ dX11_appendPlace_20 (fun v ty' w' hp hk' => ?_)
  obtain ⟨rfl, rfl⟩ := hp
  show GW κ 2 0 0 (wX q d (upd (upd (upd iX0 18 1) 20 1) 21 1) (up3 aX0 7 0 (-1000))) 23 [(0, .ref (q 0)), (1, .int (-1000))] []
  refine g_aload_n hk dX11_appendPlace_23 rfl ?_
  refine gX_r0_2 hk hin11 (by decide +kernel) dX11_appendPlace_24 ?_
  refine gX_i18 (v := 1) hk hin6 (by decide +kernel) dX11_appendPlace_27 rfl ?_
  exact g_iret hk hR rfl ⟨rfl, rfl⟩ dX11_appendPlace_30
set_option maxHeartbeats 4000000 in
set_option maxRecDepth 100000 in
theorem m248_X11_gap (l : Launch) (D : va_G) (zt : Nat × Nat × Nat) (d : Nat → ClassId) (q : Nat → Nat) : GM l D zt (tyX d) yX11_gap wsX11_gap ({ frames := 3, cells := 0, slots := 0, locals := 58 } : Room) [.ref (q 0)] (wX q d iX0 aX0) (fun v _ w' => v = some (.int 1) ∧ w' = wX q d (upd (upd (upd iX0 18 1) 20 1) 21 1) (up3 aX0 7 0 (-1000))) 0 0 := by
  refine GM.of (cc := cX11_gap) (maxL := 1) (ret := (some .int)) (own := RX11) (lv := [(0, .ref (q 0))]) (by decide) rfl rfl (Nat.le_of_ble_eq_true rfl) rfl (fun κ sz hk hR hN => ?_)
  refine g_aload_n hk dX11_gap_0 rfl ?_
  refine g_sipush (v := (-1000)) hk dX11_gap_1 (by decide) ?_
  refine g_callV hk (m247_X11_appendPlace l D zt d q) (SP.same _) (fun _ h => h) gX11_gap_X11_appendPlace rfl rfl rfl (by decide +kernel) ⟨Nat.le_of_ble_eq_true rfl, Nat.le_of_ble_eq_true rfl⟩ 0 rfl rfl rfl rfl (Nat.le_of_ble_eq_true rfl) ⟨Nat.le_of_ble_eq_true rfl, Nat.le_of_ble_eq_true rfl⟩ dX11_gap_4 (fun v ty' w' hp hk' => ?_)
  obtain ⟨rfl, rfl⟩ := hp
  show GW κ 1 0 0 (wX q d (upd (upd (upd iX0 18 1) 20 1) 21 1) (up3 aX0 7 0 (-1000))) 7 [(0, .ref (q 0))] [.int 1]
  exact g_iret hk hR rfl ⟨rfl, rfl⟩ dX11_gap_7
set_option maxHeartbeats 4000000 in
set_option maxRecDepth 100000 in
theorem m249_X11_mend (l : Launch) (D : va_G) (zt : Nat × Nat × Nat) (d : Nat → ClassId) (q : Nat → Nat) (a1 : Int32) : GM l D zt (tyX d) yX11_mend wsX11_mend ({ frames := 0, cells := 0, slots := 0, locals := 0 } : Room) [.ref (q 0), .int a1] (wX q d iX0 aX0) (fun v _ w' => v = some (.int (-1000)) ∧ w' = wX q d iX0 aX0) 0 0 := by
  refine GM.of (cc := cX11_mend) (maxL := 3) (ret := (some .int)) (own := RX11) (lv := [(0, .ref (q 0)), (1, .int a1)]) (by decide) rfl rfl (Nat.le_of_ble_eq_true rfl) rfl (fun κ sz hk hR hN => ?_)
  have hin6 : ∀ w ∈ u_ws RX6 TX6 3, w ∈ wsX11_mend := by decide +kernel
  have hin11 : ∀ w ∈ u_ws RX11 TX11 10, w ∈ wsX11_mend := by decide +kernel
  refine g_iload_n hk dX11_mend_0 rfl ?_
  refine g_iconst (v := 1) hk dX11_mend_1 (by decide) ?_
  refine g_icmp_lt (tgt := 29) (a := a1.toInt) (b := 1) hk dX11_mend_2 (by decide) rfl rfl (fun c627 => ?_) (fun c627 => ?_)
  · skip
    refine g_sipush (v := (-1000)) hk dX11_mend_29 (by decide) ?_
    exact g_iret hk hR rfl ⟨rfl, rfl⟩ dX11_mend_32
  · skip
    refine g_iload_n hk dX11_mend_5 rfl ?_
    refine g_aload_n hk dX11_mend_6 rfl ?_
    refine gX_r0_2 hk hin11 (by decide +kernel) dX11_mend_7 ?_
    refine gX_i18 (v := 0) hk hin6 (by decide +kernel) dX11_mend_10 rfl ?_
    refine g_iconst (v := 1) hk dX11_mend_13 (by decide) ?_
    refine g_isub hk dX11_mend_14 ?_
    refine g_norm (v := (-1)) (by decide) ?_
    refine g_icmp_ge (tgt := 29) (a := a1.toInt) (b := (-1)) hk dX11_mend_15 (by decide) rfl rfl (fun _ => ?_) (fun z9 => absurd (show (-1) ≤ a1.toInt from by omega) z9)
    refine g_sipush (v := (-1000)) hk dX11_mend_29 (by decide) ?_
    exact g_iret hk hR rfl ⟨rfl, rfl⟩ dX11_mend_32
set_option maxHeartbeats 4000000 in
set_option maxRecDepth 100000 in
theorem m250_X6_cutFirst (l : Launch) (D : va_G) (zt : Nat × Nat × Nat) (d : Nat → ClassId) (q : Nat → Nat) (a1 : Int32) : GM l D zt (tyX d) yX6_cutFirst wsX6_cutFirst ({ frames := 0, cells := 0, slots := 0, locals := 0 } : Room) [.ref (q 13), .int a1] (wX q d iX0 aX0) (fun v _ w' => v = some (.int 0) ∧ w' = wX q d iX0 aX0) 0 0 := by
  refine GM.of (cc := cX6_cutFirst) (maxL := 2) (ret := (some .boolean)) (own := RX6) (lv := [(0, .ref (q 13)), (1, .int a1)]) (by decide) rfl rfl (Nat.le_of_ble_eq_true rfl) rfl (fun κ sz hk hR hN => ?_)
  have hin6 : ∀ w ∈ u_ws RX6 TX6 3, w ∈ wsX6_cutFirst := by decide +kernel
  refine g_iload_n hk dX6_cutFirst_0 rfl ?_
  refine g_iconst (v := 1) hk dX6_cutFirst_1 (by decide) ?_
  refine g_icmp_lt (tgt := 13) (a := a1.toInt) (b := 1) hk dX6_cutFirst_2 (by decide) rfl rfl (fun c628 => ?_) (fun c628 => ?_)
  · skip
    refine g_iconst (v := 0) hk dX6_cutFirst_13 (by decide) ?_
    exact g_iret hk hR rfl ⟨rfl, rfl⟩ dX6_cutFirst_14
  · skip
    refine g_iload_n hk dX6_cutFirst_5 rfl ?_
    refine g_aload_n hk dX6_cutFirst_6 rfl ?_
    refine gX_i18 (v := 0) hk hin6 (by decide +kernel) dX6_cutFirst_7 rfl ?_
    refine g_icmp_le (tgt := 15) (a := a1.toInt) (b := 0) hk dX6_cutFirst_10 (by decide) rfl rfl (fun z9 => absurd z9 (show ¬ (a1.toInt ≤ 0) from by omega)) (fun _ => ?_)
    refine g_iconst (v := 0) hk dX6_cutFirst_13 (by decide) ?_
    exact g_iret hk hR rfl ⟨rfl, rfl⟩ dX6_cutFirst_14
set_option maxHeartbeats 4000000 in
set_option maxRecDepth 100000 in
theorem m251_X11_drop (l : Launch) (D : va_G) (zt : Nat × Nat × Nat) (d : Nat → ClassId) (q : Nat → Nat) (a1 : Int32) : GM l D zt (tyX d) yX11_drop wsX11_drop ({ frames := 1, cells := 0, slots := 0, locals := 21 } : Room) [.ref (q 0), .int a1] (wX q d iX0 aX0) (fun v _ w' => v = some (.int 0) ∧ w' = wX q d iX0 aX0) 0 0 := by
  refine GM.of (cc := cX11_drop) (maxL := 2) (ret := (some .boolean)) (own := RX11) (lv := [(0, .ref (q 0)), (1, .int a1)]) (by decide) rfl rfl (Nat.le_of_ble_eq_true rfl) rfl (fun κ sz hk hR hN => ?_)
  have hin11 : ∀ w ∈ u_ws RX11 TX11 10, w ∈ wsX11_drop := by decide +kernel
  refine g_aload_n hk dX11_drop_0 rfl ?_
  refine gX_r0_2 hk hin11 (by decide +kernel) dX11_drop_1 ?_
  refine g_iload_n hk dX11_drop_4 rfl ?_
  refine g_callV hk (m250_X6_cutFirst l D zt d q a1) (SP.same _) (fun _ h => h) gX11_drop_X6_cutFirst rfl rfl rfl (by decide +kernel) ⟨Nat.le_of_ble_eq_true rfl, Nat.le_of_ble_eq_true rfl⟩ 13 rfl rfl rfl rfl (Nat.le_of_ble_eq_true rfl) ⟨Nat.le_of_ble_eq_true rfl, Nat.le_of_ble_eq_true rfl⟩ dX11_drop_5 (fun v ty' w' hp hk' => ?_)
  obtain ⟨rfl, rfl⟩ := hp
  show GW κ 2 0 0 (wX q d iX0 aX0) 8 [(0, .ref (q 0)), (1, .int a1)] [.int 0]
  refine g_if_ne (tgt := 13) (a := 0) hk dX11_drop_8 (by decide) rfl (fun z9 => absurd z9 (show ¬ (0 ≠ 0) from by decide)) (fun _ => ?_)
  refine g_iconst (v := 0) hk dX11_drop_11 (by decide) ?_
  exact g_iret hk hR rfl ⟨rfl, rfl⟩ dX11_drop_12
set_option maxHeartbeats 4000000 in
set_option maxRecDepth 100000 in
theorem m252_X7_valueOf (l : Launch) (D : va_G) (zt : Nat × Nat × Nat) (d : Nat → ClassId) (q : Nat → Nat) (a1 : Int32) : GM l D zt (tyX d) yX7_valueOf wsX7_valueOf ({ frames := 0, cells := 0, slots := 0, locals := 0 } : Room) [.ref (q 18), .int a1] (wX q d iX0 aX0) (fun v _ w' => ((a1.toInt < 0) ∧ v = some (.int (-1)) ∧ w' = wX q d iX0 aX0) ∨ ((¬ (a1.toInt < 0)) ∧ (4 ≤ a1.toInt) ∧ v = some (.int (-1)) ∧ w' = wX q d iX0 aX0) ∨ ((¬ (a1.toInt < 0)) ∧ (¬ (4 ≤ a1.toInt)) ∧ (a1.toInt = 0) ∧ v = some (.int 2) ∧ w' = wX q d iX0 aX0) ∨ ((¬ (a1.toInt < 0)) ∧ (¬ (4 ≤ a1.toInt)) ∧ (¬ (a1.toInt = 0)) ∧ (a1.toInt = 1) ∧ v = some (.int 0) ∧ w' = wX q d iX0 aX0) ∨ ((¬ (a1.toInt < 0)) ∧ (¬ (4 ≤ a1.toInt)) ∧ (¬ (a1.toInt = 0)) ∧ (¬ (a1.toInt = 1)) ∧ (a1.toInt = 2) ∧ v = some (.int 0) ∧ w' = wX q d iX0 aX0) ∨ ((¬ (a1.toInt < 0)) ∧ (¬ (4 ≤ a1.toInt)) ∧ (¬ (a1.toInt = 0)) ∧ (¬ (a1.toInt = 1)) ∧ (¬ (a1.toInt = 2)) ∧ (a1.toInt = 3) ∧ v = some (.int 8) ∧ w' = wX q d iX0 aX0)) 0 0 := by
  refine GM.of (cc := cX7_valueOf) (maxL := 2) (ret := (some .int)) (own := RX7) (lv := [(0, .ref (q 18)), (1, .int a1)]) (by decide) rfl rfl (Nat.le_of_ble_eq_true rfl) rfl (fun κ sz hk hR hN => ?_)
  have hin7 : ∀ w ∈ u_ws RX7 TX7 1, w ∈ wsX7_valueOf := by decide +kernel
  refine g_iload_n hk dX7_valueOf_0 rfl ?_
  refine g_if_lt (tgt := 22) (a := a1.toInt) hk dX7_valueOf_1 (by decide) rfl (fun c629 => ?_) (fun c629 => ?_)
  · skip
    refine g_iconst (v := (-1)) hk dX7_valueOf_22 (by decide) ?_
    exact g_iret hk hR rfl (Or.inl ⟨c629, rfl, rfl⟩) dX7_valueOf_23
  · skip
    refine g_iload_n hk dX7_valueOf_4 rfl ?_
    refine g_aload_n hk dX7_valueOf_5 rfl ?_
    refine gX_r18_0 hk hin7 (by decide +kernel) dX7_valueOf_6 ?_
    refine nX_10 hk dX7_valueOf_9 ?_
    refine g_icmp_ge (tgt := 22) (a := a1.toInt) (b := 4) hk dX7_valueOf_10 (by decide) rfl rfl (fun c630 => ?_) (fun c630 => ?_)
    · skip
      refine g_iconst (v := (-1)) hk dX7_valueOf_22 (by decide) ?_
      exact g_iret hk hR rfl (Or.inr (Or.inl ⟨c629, c630, rfl, rfl⟩)) dX7_valueOf_23
    · skip
      refine g_aload_n hk dX7_valueOf_13 rfl ?_
      refine gX_r18_0 hk hin7 (by decide +kernel) dX7_valueOf_14 ?_
      refine g_iload_n hk dX7_valueOf_17 rfl ?_
      by_cases c631 : a1.toInt = 0
      · obtain rfl : a1 = 0 := Int32.toInt_inj.mp c631
        refine lX_10 (v := 2) hk (vp_in_iff.mpr ⟨by decide, by decide⟩) rfl dX7_valueOf_18 ?_
        refine g_goto (tgt := 23) hk dX7_valueOf_19 (by decide) ?_
        exact g_iret hk hR rfl (Or.inr (Or.inr (Or.inl ⟨c629, c630, c631, rfl, rfl⟩))) dX7_valueOf_23
      by_cases c632 : a1.toInt = 1
      · obtain rfl : a1 = 1 := Int32.toInt_inj.mp c632
        refine lX_10 (v := 0) hk (vp_in_iff.mpr ⟨by decide, by decide⟩) rfl dX7_valueOf_18 ?_
        refine g_goto (tgt := 23) hk dX7_valueOf_19 (by decide) ?_
        exact g_iret hk hR rfl (Or.inr (Or.inr (Or.inr (Or.inl ⟨c629, c630, c631, c632, rfl, rfl⟩)))) dX7_valueOf_23
      by_cases c633 : a1.toInt = 2
      · obtain rfl : a1 = 2 := Int32.toInt_inj.mp c633
        refine lX_10 (v := 0) hk (vp_in_iff.mpr ⟨by decide, by decide⟩) rfl dX7_valueOf_18 ?_
        refine g_goto (tgt := 23) hk dX7_valueOf_19 (by decide) ?_
        exact g_iret hk hR rfl (Or.inr (Or.inr (Or.inr (Or.inr (Or.inl ⟨c629, c630, c631, c632, c633, rfl, rfl⟩))))) dX7_valueOf_23
      by_cases c634 : a1.toInt = 3
      · obtain rfl : a1 = 3 := Int32.toInt_inj.mp c634
        refine lX_10 (v := 8) hk (vp_in_iff.mpr ⟨by decide, by decide⟩) rfl dX7_valueOf_18 ?_
        refine g_goto (tgt := 23) hk dX7_valueOf_19 (by decide) ?_
        exact g_iret hk hR rfl (Or.inr (Or.inr (Or.inr (Or.inr (Or.inr (⟨c629, c630, c631, c632, c633, c634, rfl, rfl⟩)))))) dX7_valueOf_23
      exfalso; omega
set_option maxHeartbeats 4000000 in
set_option maxRecDepth 100000 in
theorem m253_X7_allows (l : Launch) (D : va_G) (zt : Nat × Nat × Nat) (d : Nat → ClassId) (q : Nat → Nat) (a0 : Int32) (a1 : Int32) (h0 : a0.toInt ≤ (-1)) : GM l D zt (tyX d) yX7_allows wsX7_allows ({ frames := 0, cells := 0, slots := 0, locals := 0 } : Room) [.int a0, .int a1] (wX q d iX0 aX0) (fun v _ w' => v = some (.int 0) ∧ w' = wX q d iX0 aX0) 0 0 := by
  refine GM.of (cc := cX7_allows) (maxL := 2) (ret := (some .boolean)) (own := RX7) (lv := [(0, .int a0), (1, .int a1)]) (by decide) rfl rfl (Nat.le_of_ble_eq_true rfl) rfl (fun κ sz hk hR hN => ?_)
  refine g_iload_n hk dX7_allows_0 rfl ?_
  refine g_if_lt (tgt := 42) (a := a0.toInt) hk dX7_allows_1 (by decide) rfl (fun _ => ?_) (fun z9 => absurd (show a0.toInt < 0 from by omega) z9)
  refine g_iconst (v := 0) hk dX7_allows_42 (by decide) ?_
  exact g_iret hk hR rfl ⟨rfl, rfl⟩ dX7_allows_43
set_option maxHeartbeats 4000000 in
set_option maxRecDepth 100000 in
theorem m254_X7_allows (l : Launch) (D : va_G) (zt : Nat × Nat × Nat) (d : Nat → ClassId) (q : Nat → Nat) (a0 : Int32) (a1 : Int32) (h0 : 4 ≤ a0.toInt) : GM l D zt (tyX d) yX7_allows wsX7_allows ({ frames := 0, cells := 0, slots := 0, locals := 0 } : Room) [.int a0, .int a1] (wX q d iX0 aX0) (fun v _ w' => v = some (.int 0) ∧ w' = wX q d iX0 aX0) 0 0 := by
  refine GM.of (cc := cX7_allows) (maxL := 2) (ret := (some .boolean)) (own := RX7) (lv := [(0, .int a0), (1, .int a1)]) (by decide) rfl rfl (Nat.le_of_ble_eq_true rfl) rfl (fun κ sz hk hR hN => ?_)
  refine g_iload_n hk dX7_allows_0 rfl ?_
  refine g_if_lt (tgt := 42) (a := a0.toInt) hk dX7_allows_1 (by decide) rfl (fun z9 => absurd z9 (show ¬ (a0.toInt < 0) from by omega)) (fun _ => ?_)
  refine g_iload_n hk dX7_allows_4 rfl ?_
  refine g_getsL hk (by decide +kernel) dX7_allows_5 ?_
  refine g_lenL hk dX7_allows_8 ?_
  refine g_icmp_ge (tgt := 42) (a := a0.toInt) (b := 4) hk dX7_allows_9 (by decide) rfl rfl (fun _ => ?_) (fun z9 => absurd (show 4 ≤ a0.toInt from by omega) z9)
  refine g_iconst (v := 0) hk dX7_allows_42 (by decide) ?_
  exact g_iret hk hR rfl ⟨rfl, rfl⟩ dX7_allows_43
set_option maxHeartbeats 4000000 in
set_option maxRecDepth 100000 in
theorem m255_X7_allows (l : Launch) (D : va_G) (zt : Nat × Nat × Nat) (d : Nat → ClassId) (q : Nat → Nat) (a0 : Int32) (a1 : Int32) (h0 : 0 ≤ a0.toInt) (h1 : a0.toInt ≤ 0) : GM l D zt (tyX d) yX7_allows wsX7_allows ({ frames := 0, cells := 0, slots := 0, locals := 0 } : Room) [.int a0, .int a1] (wX q d iX0 aX0) (fun v _ w' => ((a0.toInt = 0) ∧ (a1.toInt < 0) ∧ v = some (.int 0) ∧ w' = wX q d iX0 aX0) ∨ ((a0.toInt = 0) ∧ (¬ (a1.toInt < 0)) ∧ (15 < a1.toInt) ∧ v = some (.int 0) ∧ w' = wX q d iX0 aX0) ∨ ((a0.toInt = 0) ∧ (¬ (a1.toInt < 0)) ∧ (¬ (15 < a1.toInt)) ∧ v = some (.int 1) ∧ w' = wX q d iX0 aX0)) 0 0 := by
  refine GM.of (cc := cX7_allows) (maxL := 2) (ret := (some .boolean)) (own := RX7) (lv := [(0, .int a0), (1, .int a1)]) (by decide) rfl rfl (Nat.le_of_ble_eq_true rfl) rfl (fun κ sz hk hR hN => ?_)
  refine g_iload_n hk dX7_allows_0 rfl ?_
  refine g_if_lt (tgt := 42) (a := a0.toInt) hk dX7_allows_1 (by decide) rfl (fun z9 => absurd z9 (show ¬ (a0.toInt < 0) from by omega)) (fun _ => ?_)
  refine g_iload_n hk dX7_allows_4 rfl ?_
  refine g_getsL hk (by decide +kernel) dX7_allows_5 ?_
  refine g_lenL hk dX7_allows_8 ?_
  refine g_icmp_ge (tgt := 42) (a := a0.toInt) (b := 4) hk dX7_allows_9 (by decide) rfl rfl (fun z9 => absurd z9 (show ¬ (4 ≤ a0.toInt) from by omega)) (fun _ => ?_)
  refine g_iload_n hk dX7_allows_12 rfl ?_
  refine g_getsH hk (by decide +kernel) dX7_allows_13 ?_
  refine g_lenH hk dX7_allows_16 ?_
  refine g_icmp_ge (tgt := 42) (a := a0.toInt) (b := 4) hk dX7_allows_17 (by decide) rfl rfl (fun z9 => absurd z9 (show ¬ (4 ≤ a0.toInt) from by omega)) (fun _ => ?_)
  refine g_iload_n hk dX7_allows_20 rfl ?_
  refine g_getsL hk (by decide +kernel) dX7_allows_21 ?_
  refine g_iload_n hk dX7_allows_24 rfl ?_
  by_cases c656 : a0.toInt = 0
  · obtain rfl : a0 = 0 := Int32.toInt_inj.mp c656
    refine g_sL (v := .int 0) hk (vp_in_iff.mpr ⟨by decide, by decide⟩) rfl dX7_allows_25 ?_
    refine g_icmp_lt (tgt := 42) (a := a1.toInt) (b := 0) hk dX7_allows_26 (by decide) rfl rfl (fun c657 => ?_) (fun c657 => ?_)
    · skip
      refine g_iconst (v := 0) hk dX7_allows_42 (by decide) ?_
      exact g_iret hk hR rfl (Or.inl ⟨c656, c657, rfl, rfl⟩) dX7_allows_43
    · skip
      refine g_iload_n hk dX7_allows_29 rfl ?_
      refine g_getsH hk (by decide +kernel) dX7_allows_30 ?_
      refine g_iload_n hk dX7_allows_33 rfl ?_
      refine g_sH (v := .int 15) hk (vp_in_iff.mpr ⟨by decide, by decide⟩) rfl dX7_allows_34 ?_
      refine g_icmp_gt (tgt := 42) (a := a1.toInt) (b := 15) hk dX7_allows_35 (by decide) rfl rfl (fun c658 => ?_) (fun c658 => ?_)
      · skip
        refine g_iconst (v := 0) hk dX7_allows_42 (by decide) ?_
        exact g_iret hk hR rfl (Or.inr (Or.inl ⟨c656, c657, c658, rfl, rfl⟩)) dX7_allows_43
      · skip
        refine g_iconst (v := 1) hk dX7_allows_38 (by decide) ?_
        refine g_goto (tgt := 43) hk dX7_allows_39 (by decide) ?_
        exact g_iret hk hR rfl (Or.inr (Or.inr (⟨c656, c657, c658, rfl, rfl⟩))) dX7_allows_43
  exfalso; omega
set_option maxHeartbeats 4000000 in
set_option maxRecDepth 100000 in
theorem m256_X7_put (l : Launch) (D : va_G) (zt : Nat × Nat × Nat) (d : Nat → ClassId) (q : Nat → Nat) (a1 : Int32) (a2 : Int32) (h0 : 0 ≤ a1.toInt) (h1 : a1.toInt ≤ 0) (h2 : 0 ≤ a2.toInt) (h3 : a2.toInt ≤ 15) : GM l D zt (tyX d) yX7_put wsX7_put ({ frames := 0, cells := 0, slots := 0, locals := 0 } : Room) [.ref (q 18), .int a1, .int a2] (wX q d iX0 aX0) (fun v _ w' => v = none ∧ w' = wX q d iX0 (up3 aX0 10 0 a2)) 0 0 := by
  refine GM.of (cc := cX7_put) (maxL := 3) (ret := none) (own := RX7) (lv := [(0, .ref (q 18)), (1, .int a1), (2, .int a2)]) (by decide) rfl rfl (Nat.le_of_ble_eq_true rfl) rfl (fun κ sz hk hR hN => ?_)
  have hin7 : ∀ w ∈ u_ws RX7 TX7 1, w ∈ wsX7_put := by decide +kernel
  refine g_iload_n hk dX7_put_0 rfl ?_
  refine g_if_lt (tgt := 20) (a := a1.toInt) hk dX7_put_1 (by decide) rfl (fun z9 => absurd z9 (show ¬ (a1.toInt < 0) from by omega)) (fun _ => ?_)
  refine g_iload_n hk dX7_put_4 rfl ?_
  refine g_aload_n hk dX7_put_5 rfl ?_
  refine gX_r18_0 hk hin7 (by decide +kernel) dX7_put_6 ?_
  refine nX_10 hk dX7_put_9 ?_
  refine g_icmp_ge (tgt := 20) (a := a1.toInt) (b := 4) hk dX7_put_10 (by decide) rfl rfl (fun z9 => absurd z9 (show ¬ (4 ≤ a1.toInt) from by omega)) (fun _ => ?_)
  refine g_aload_n hk dX7_put_13 rfl ?_
  refine gX_r18_0 hk hin7 (by decide +kernel) dX7_put_14 ?_
  refine g_iload_n hk dX7_put_17 rfl ?_
  refine g_iload_n hk dX7_put_18 rfl ?_
  by_cases c668 : a1.toInt = 0
  · obtain rfl : a1 = 0 := Int32.toInt_inj.mp c668
    refine sX_10 (j := 0) hk (vp_in_iff.mpr ⟨by decide, by decide⟩) (by decide) dX7_put_19 ?_
    exact g_vret hk hR ⟨rfl, rfl⟩ dX7_put_20
  exfalso; omega
set_option maxHeartbeats 4000000 in
set_option maxRecDepth 100000 in
theorem m257_X3_note (l : Launch) (D : va_G) (zt : Nat × Nat × Nat) (d : Nat → ClassId) (q : Nat → Nat) (a2 : Int32) (h0 : 0 ≤ a2.toInt) (h1 : a2.toInt ≤ 0) : GM l D zt (tyX d) yX3_note wsX3_note ({ frames := 1, cells := 0, slots := 0, locals := 14 } : Room) [.ref (q 20), .int 3, .int a2, .int 2] (wX q d iX0 (up3 aX0 10 0 a2)) (fun v _ w' => v = none ∧ w' = wX q d (upd (upd iX0 20 1) 21 1) (up3 (up3 (up3 (up3 aX0 10 0 a2) 11 0 3) 12 0 a2) 13 0 2)) 0 0 := by
  refine GM.of (cc := cX3_note) (maxL := 4) (ret := none) (own := RX3) (lv := [(0, .ref (q 20)), (1, .int 3), (2, .int a2), (3, .int 2)]) (by decide) rfl rfl (Nat.le_of_ble_eq_true rfl) rfl (fun κ sz hk hR hN => ?_)
  have hin3 : ∀ w ∈ u_ws RX3 TX3 5, w ∈ wsX3_note := by decide +kernel
  refine g_aload_n hk dX3_note_0 rfl ?_
  refine gX_i20 (v := 0) hk hin3 (by decide +kernel) dX3_note_1 rfl ?_
  refine g_if_lt (tgt := 16) (a := 0) hk dX3_note_4 (by decide) rfl (fun z9 => absurd z9 (show ¬ (0 < 0) from by decide)) (fun _ => ?_)
  refine g_aload_n hk dX3_note_7 rfl ?_
  refine gX_i20 (v := 0) hk hin3 (by decide +kernel) dX3_note_8 rfl ?_
  refine g_bipush (v := 40) hk dX3_note_11 (by decide) ?_
  refine g_icmp_lt (tgt := 17) (a := 0) (b := 40) hk dX3_note_13 (by decide) rfl rfl (fun _ => ?_) (fun z9 => absurd (show 0 < 40 from by decide) z9)
  refine g_aload_n hk dX3_note_17 rfl ?_
  refine gX_r20_0 hk hin3 (by decide +kernel) dX3_note_18 ?_
  refine g_aload_n hk dX3_note_21 rfl ?_
  refine gX_i20 (v := 0) hk hin3 (by decide +kernel) dX3_note_22 rfl ?_
  refine g_iload_n hk dX3_note_25 rfl ?_
  refine sX_11 (j := 0) hk (vp_in_iff.mpr ⟨by decide, by decide⟩) (by decide) dX3_note_26 ?_
  refine g_aload_n hk dX3_note_27 rfl ?_
  refine gX_r20_1 hk hin3 (by decide +kernel) dX3_note_28 ?_
  refine g_aload_n hk dX3_note_31 rfl ?_
  refine gX_i20 (v := 0) hk hin3 (by decide +kernel) dX3_note_32 rfl ?_
  refine g_iload_n hk dX3_note_35 rfl ?_
  refine sX_12 (j := 0) hk (vp_in_iff.mpr ⟨by decide, by decide⟩) (by decide) dX3_note_36 ?_
  refine g_aload_n hk dX3_note_37 rfl ?_
  refine gX_r20_2 hk hin3 (by decide +kernel) dX3_note_38 ?_
  refine g_aload_n hk dX3_note_41 rfl ?_
  refine gX_i20 (v := 0) hk hin3 (by decide +kernel) dX3_note_42 rfl ?_
  refine g_iload_n hk dX3_note_45 rfl ?_
  refine sX_13 (j := 0) hk (vp_in_iff.mpr ⟨by decide, by decide⟩) (by decide) dX3_note_46 ?_
  refine g_aload_n hk dX3_note_47 rfl ?_
  refine g_aload_n hk dX3_note_48 rfl ?_
  refine gX_i20 (v := 0) hk hin3 (by decide +kernel) dX3_note_49 rfl ?_
  refine g_bipush (v := 39) hk dX3_note_52 (by decide) ?_
  refine g_icmp_ne (tgt := 61) (a := 0) (b := 39) hk dX3_note_54 (by decide) rfl rfl (fun _ => ?_) (fun z9 => absurd (show 0 ≠ 39 from by decide) z9)
  refine g_aload_n hk dX3_note_61 rfl ?_
  refine gX_i20 (v := 0) hk hin3 (by decide +kernel) dX3_note_62 rfl ?_
  refine g_iconst (v := 1) hk dX3_note_65 (by decide) ?_
  refine g_iadd hk dX3_note_66 ?_
  refine g_norm (v := 1) (by decide) ?_
  refine pX_i20 hk hin3 (by decide +kernel) dX3_note_67 ?_
  refine g_aload_n hk dX3_note_70 rfl ?_
  refine g_aload_n hk dX3_note_71 rfl ?_
  refine gX_i21 (v := 0) hk hin3 (by decide +kernel) dX3_note_72 rfl ?_
  refine g_iconst (v := 1) hk dX3_note_75 (by decide) ?_
  refine g_iadd hk dX3_note_76 ?_
  refine g_norm (v := 1) (by decide) ?_
  refine g_bipush (v := 40) hk dX3_note_77 (by decide) ?_
  refine g_mmin hk (by decide +kernel) (by decide +kernel) (by decide +kernel) (by decide +kernel) (Nat.le_of_ble_eq_true rfl) (Nat.le_of_ble_eq_true rfl) (Nat.le_of_ble_eq_true rfl) (Nat.le_of_ble_eq_true rfl) dX3_note_79 ?_
  refine g_norm (v := 1) (by decide) ?_
  refine pX_i21 hk hin3 (by decide +kernel) dX3_note_82 ?_
  exact g_vret hk hR ⟨rfl, rfl⟩ dX3_note_85
set_option maxHeartbeats 4000000 in
set_option maxRecDepth 100000 in
theorem m258_X7_allows (l : Launch) (D : va_G) (zt : Nat × Nat × Nat) (d : Nat → ClassId) (q : Nat → Nat) (a0 : Int32) (a1 : Int32) (h0 : 1 ≤ a0.toInt) (h1 : a0.toInt ≤ 1) : GM l D zt (tyX d) yX7_allows wsX7_allows ({ frames := 0, cells := 0, slots := 0, locals := 0 } : Room) [.int a0, .int a1] (wX q d iX0 aX0) (fun v _ w' => ((a0.toInt = 1) ∧ (a1.toInt < 0) ∧ v = some (.int 0) ∧ w' = wX q d iX0 aX0) ∨ ((a0.toInt = 1) ∧ (¬ (a1.toInt < 0)) ∧ (3 < a1.toInt) ∧ v = some (.int 0) ∧ w' = wX q d iX0 aX0) ∨ ((a0.toInt = 1) ∧ (¬ (a1.toInt < 0)) ∧ (¬ (3 < a1.toInt)) ∧ v = some (.int 1) ∧ w' = wX q d iX0 aX0)) 0 0 := by
  refine GM.of (cc := cX7_allows) (maxL := 2) (ret := (some .boolean)) (own := RX7) (lv := [(0, .int a0), (1, .int a1)]) (by decide) rfl rfl (Nat.le_of_ble_eq_true rfl) rfl (fun κ sz hk hR hN => ?_)
  refine g_iload_n hk dX7_allows_0 rfl ?_
  refine g_if_lt (tgt := 42) (a := a0.toInt) hk dX7_allows_1 (by decide) rfl (fun z9 => absurd z9 (show ¬ (a0.toInt < 0) from by omega)) (fun _ => ?_)
  refine g_iload_n hk dX7_allows_4 rfl ?_
  refine g_getsL hk (by decide +kernel) dX7_allows_5 ?_
  refine g_lenL hk dX7_allows_8 ?_
  refine g_icmp_ge (tgt := 42) (a := a0.toInt) (b := 4) hk dX7_allows_9 (by decide) rfl rfl (fun z9 => absurd z9 (show ¬ (4 ≤ a0.toInt) from by omega)) (fun _ => ?_)
  refine g_iload_n hk dX7_allows_12 rfl ?_
  refine g_getsH hk (by decide +kernel) dX7_allows_13 ?_
  refine g_lenH hk dX7_allows_16 ?_
  refine g_icmp_ge (tgt := 42) (a := a0.toInt) (b := 4) hk dX7_allows_17 (by decide) rfl rfl (fun z9 => absurd z9 (show ¬ (4 ≤ a0.toInt) from by omega)) (fun _ => ?_)
  refine g_iload_n hk dX7_allows_20 rfl ?_
  refine g_getsL hk (by decide +kernel) dX7_allows_21 ?_
  refine g_iload_n hk dX7_allows_24 rfl ?_
  by_cases c669 : a0.toInt = 1
  · obtain rfl : a0 = 1 := Int32.toInt_inj.mp c669
    refine g_sL (v := .int 0) hk (vp_in_iff.mpr ⟨by decide, by decide⟩) rfl dX7_allows_25 ?_
    refine g_icmp_lt (tgt := 42) (a := a1.toInt) (b := 0) hk dX7_allows_26 (by decide) rfl rfl (fun c670 => ?_) (fun c670 => ?_)
    · skip
      refine g_iconst (v := 0) hk dX7_allows_42 (by decide) ?_
      exact g_iret hk hR rfl (Or.inl ⟨c669, c670, rfl, rfl⟩) dX7_allows_43
    · skip
      refine g_iload_n hk dX7_allows_29 rfl ?_
      refine g_getsH hk (by decide +kernel) dX7_allows_30 ?_
      refine g_iload_n hk dX7_allows_33 rfl ?_
      refine g_sH (v := .int 3) hk (vp_in_iff.mpr ⟨by decide, by decide⟩) rfl dX7_allows_34 ?_
      refine g_icmp_gt (tgt := 42) (a := a1.toInt) (b := 3) hk dX7_allows_35 (by decide) rfl rfl (fun c671 => ?_) (fun c671 => ?_)
      · skip
        refine g_iconst (v := 0) hk dX7_allows_42 (by decide) ?_
        exact g_iret hk hR rfl (Or.inr (Or.inl ⟨c669, c670, c671, rfl, rfl⟩)) dX7_allows_43
      · skip
        refine g_iconst (v := 1) hk dX7_allows_38 (by decide) ?_
        refine g_goto (tgt := 43) hk dX7_allows_39 (by decide) ?_
        exact g_iret hk hR rfl (Or.inr (Or.inr (⟨c669, c670, c671, rfl, rfl⟩))) dX7_allows_43
  exfalso; omega
set_option maxHeartbeats 4000000 in
set_option maxRecDepth 100000 in
theorem m259_X7_put (l : Launch) (D : va_G) (zt : Nat × Nat × Nat) (d : Nat → ClassId) (q : Nat → Nat) (a1 : Int32) (a2 : Int32) (h0 : 1 ≤ a1.toInt) (h1 : a1.toInt ≤ 1) (h2 : 0 ≤ a2.toInt) (h3 : a2.toInt ≤ 3) : GM l D zt (tyX d) yX7_put wsX7_put ({ frames := 0, cells := 0, slots := 0, locals := 0 } : Room) [.ref (q 18), .int a1, .int a2] (wX q d iX0 aX0) (fun v _ w' => v = none ∧ w' = wX q d iX0 (up3 aX0 10 1 a2)) 0 0 := by
  refine GM.of (cc := cX7_put) (maxL := 3) (ret := none) (own := RX7) (lv := [(0, .ref (q 18)), (1, .int a1), (2, .int a2)]) (by decide) rfl rfl (Nat.le_of_ble_eq_true rfl) rfl (fun κ sz hk hR hN => ?_)
  have hin7 : ∀ w ∈ u_ws RX7 TX7 1, w ∈ wsX7_put := by decide +kernel
  refine g_iload_n hk dX7_put_0 rfl ?_
  refine g_if_lt (tgt := 20) (a := a1.toInt) hk dX7_put_1 (by decide) rfl (fun z9 => absurd z9 (show ¬ (a1.toInt < 0) from by omega)) (fun _ => ?_)
  refine g_iload_n hk dX7_put_4 rfl ?_
  refine g_aload_n hk dX7_put_5 rfl ?_
  refine gX_r18_0 hk hin7 (by decide +kernel) dX7_put_6 ?_
  refine nX_10 hk dX7_put_9 ?_
  refine g_icmp_ge (tgt := 20) (a := a1.toInt) (b := 4) hk dX7_put_10 (by decide) rfl rfl (fun z9 => absurd z9 (show ¬ (4 ≤ a1.toInt) from by omega)) (fun _ => ?_)
  refine g_aload_n hk dX7_put_13 rfl ?_
  refine gX_r18_0 hk hin7 (by decide +kernel) dX7_put_14 ?_
  refine g_iload_n hk dX7_put_17 rfl ?_
  refine g_iload_n hk dX7_put_18 rfl ?_
  by_cases c681 : a1.toInt = 1
  · obtain rfl : a1 = 1 := Int32.toInt_inj.mp c681
    refine sX_10 (j := 1) hk (vp_in_iff.mpr ⟨by decide, by decide⟩) (by decide) dX7_put_19 ?_
    exact g_vret hk hR ⟨rfl, rfl⟩ dX7_put_20
  exfalso; omega
set_option maxHeartbeats 4000000 in
set_option maxRecDepth 100000 in
theorem m260_X3_note (l : Launch) (D : va_G) (zt : Nat × Nat × Nat) (d : Nat → ClassId) (q : Nat → Nat) (a2 : Int32) (h0 : 1 ≤ a2.toInt) (h1 : a2.toInt ≤ 1) : GM l D zt (tyX d) yX3_note wsX3_note ({ frames := 1, cells := 0, slots := 0, locals := 14 } : Room) [.ref (q 20), .int 3, .int a2, .int 0] (wX q d iX0 (up3 aX0 10 1 a2)) (fun v _ w' => v = none ∧ w' = wX q d (upd (upd iX0 20 1) 21 1) (up3 (up3 (up3 aX0 10 1 a2) 11 0 3) 12 0 a2)) 0 0 := by
  refine GM.of (cc := cX3_note) (maxL := 4) (ret := none) (own := RX3) (lv := [(0, .ref (q 20)), (1, .int 3), (2, .int a2), (3, .int 0)]) (by decide) rfl rfl (Nat.le_of_ble_eq_true rfl) rfl (fun κ sz hk hR hN => ?_)
  have hin3 : ∀ w ∈ u_ws RX3 TX3 5, w ∈ wsX3_note := by decide +kernel
  refine g_aload_n hk dX3_note_0 rfl ?_
  refine gX_i20 (v := 0) hk hin3 (by decide +kernel) dX3_note_1 rfl ?_
  refine g_if_lt (tgt := 16) (a := 0) hk dX3_note_4 (by decide) rfl (fun z9 => absurd z9 (show ¬ (0 < 0) from by decide)) (fun _ => ?_)
  refine g_aload_n hk dX3_note_7 rfl ?_
  refine gX_i20 (v := 0) hk hin3 (by decide +kernel) dX3_note_8 rfl ?_
  refine g_bipush (v := 40) hk dX3_note_11 (by decide) ?_
  refine g_icmp_lt (tgt := 17) (a := 0) (b := 40) hk dX3_note_13 (by decide) rfl rfl (fun _ => ?_) (fun z9 => absurd (show 0 < 40 from by decide) z9)
  refine g_aload_n hk dX3_note_17 rfl ?_
  refine gX_r20_0 hk hin3 (by decide +kernel) dX3_note_18 ?_
  refine g_aload_n hk dX3_note_21 rfl ?_
  refine gX_i20 (v := 0) hk hin3 (by decide +kernel) dX3_note_22 rfl ?_
  refine g_iload_n hk dX3_note_25 rfl ?_
  refine sX_11 (j := 0) hk (vp_in_iff.mpr ⟨by decide, by decide⟩) (by decide) dX3_note_26 ?_
  refine g_aload_n hk dX3_note_27 rfl ?_
  refine gX_r20_1 hk hin3 (by decide +kernel) dX3_note_28 ?_
  refine g_aload_n hk dX3_note_31 rfl ?_
  refine gX_i20 (v := 0) hk hin3 (by decide +kernel) dX3_note_32 rfl ?_
  refine g_iload_n hk dX3_note_35 rfl ?_
  refine sX_12 (j := 0) hk (vp_in_iff.mpr ⟨by decide, by decide⟩) (by decide) dX3_note_36 ?_
  refine g_aload_n hk dX3_note_37 rfl ?_
  refine gX_r20_2 hk hin3 (by decide +kernel) dX3_note_38 ?_
  refine g_aload_n hk dX3_note_41 rfl ?_
  refine gX_i20 (v := 0) hk hin3 (by decide +kernel) dX3_note_42 rfl ?_
  refine g_iload_n hk dX3_note_45 rfl ?_
  refine sX_13 (j := 0) hk (vp_in_iff.mpr ⟨by decide, by decide⟩) (by decide) dX3_note_46 ?_
  refine gX_same rfl ?_
  refine g_aload_n hk dX3_note_47 rfl ?_
  refine g_aload_n hk dX3_note_48 rfl ?_
  refine gX_i20 (v := 0) hk hin3 (by decide +kernel) dX3_note_49 rfl ?_
  refine g_bipush (v := 39) hk dX3_note_52 (by decide) ?_
  refine g_icmp_ne (tgt := 61) (a := 0) (b := 39) hk dX3_note_54 (by decide) rfl rfl (fun _ => ?_) (fun z9 => absurd (show 0 ≠ 39 from by decide) z9)
  refine g_aload_n hk dX3_note_61 rfl ?_
  refine gX_i20 (v := 0) hk hin3 (by decide +kernel) dX3_note_62 rfl ?_
  refine g_iconst (v := 1) hk dX3_note_65 (by decide) ?_
  refine g_iadd hk dX3_note_66 ?_
  refine g_norm (v := 1) (by decide) ?_
  refine pX_i20 hk hin3 (by decide +kernel) dX3_note_67 ?_
  refine g_aload_n hk dX3_note_70 rfl ?_
  refine g_aload_n hk dX3_note_71 rfl ?_
  refine gX_i21 (v := 0) hk hin3 (by decide +kernel) dX3_note_72 rfl ?_
  refine g_iconst (v := 1) hk dX3_note_75 (by decide) ?_
  refine g_iadd hk dX3_note_76 ?_
  refine g_norm (v := 1) (by decide) ?_
  refine g_bipush (v := 40) hk dX3_note_77 (by decide) ?_
  refine g_mmin hk (by decide +kernel) (by decide +kernel) (by decide +kernel) (by decide +kernel) (Nat.le_of_ble_eq_true rfl) (Nat.le_of_ble_eq_true rfl) (Nat.le_of_ble_eq_true rfl) (Nat.le_of_ble_eq_true rfl) dX3_note_79 ?_
  refine g_norm (v := 1) (by decide) ?_
  refine pX_i21 hk hin3 (by decide +kernel) dX3_note_82 ?_
  exact g_vret hk hR ⟨rfl, rfl⟩ dX3_note_85
set_option maxHeartbeats 4000000 in
set_option maxRecDepth 100000 in
theorem m261_X7_allows (l : Launch) (D : va_G) (zt : Nat × Nat × Nat) (d : Nat → ClassId) (q : Nat → Nat) (a0 : Int32) (a1 : Int32) (h0 : 2 ≤ a0.toInt) (h1 : a0.toInt ≤ 2) : GM l D zt (tyX d) yX7_allows wsX7_allows ({ frames := 0, cells := 0, slots := 0, locals := 0 } : Room) [.int a0, .int a1] (wX q d iX0 aX0) (fun v _ w' => ((a0.toInt = 2) ∧ (a1.toInt < 0) ∧ v = some (.int 0) ∧ w' = wX q d iX0 aX0) ∨ ((a0.toInt = 2) ∧ (¬ (a1.toInt < 0)) ∧ (1 < a1.toInt) ∧ v = some (.int 0) ∧ w' = wX q d iX0 aX0) ∨ ((a0.toInt = 2) ∧ (¬ (a1.toInt < 0)) ∧ (¬ (1 < a1.toInt)) ∧ v = some (.int 1) ∧ w' = wX q d iX0 aX0)) 0 0 := by
  refine GM.of (cc := cX7_allows) (maxL := 2) (ret := (some .boolean)) (own := RX7) (lv := [(0, .int a0), (1, .int a1)]) (by decide) rfl rfl (Nat.le_of_ble_eq_true rfl) rfl (fun κ sz hk hR hN => ?_)
  refine g_iload_n hk dX7_allows_0 rfl ?_
  refine g_if_lt (tgt := 42) (a := a0.toInt) hk dX7_allows_1 (by decide) rfl (fun z9 => absurd z9 (show ¬ (a0.toInt < 0) from by omega)) (fun _ => ?_)
  refine g_iload_n hk dX7_allows_4 rfl ?_
  refine g_getsL hk (by decide +kernel) dX7_allows_5 ?_
  refine g_lenL hk dX7_allows_8 ?_
  refine g_icmp_ge (tgt := 42) (a := a0.toInt) (b := 4) hk dX7_allows_9 (by decide) rfl rfl (fun z9 => absurd z9 (show ¬ (4 ≤ a0.toInt) from by omega)) (fun _ => ?_)
  refine g_iload_n hk dX7_allows_12 rfl ?_
  refine g_getsH hk (by decide +kernel) dX7_allows_13 ?_
  refine g_lenH hk dX7_allows_16 ?_
  refine g_icmp_ge (tgt := 42) (a := a0.toInt) (b := 4) hk dX7_allows_17 (by decide) rfl rfl (fun z9 => absurd z9 (show ¬ (4 ≤ a0.toInt) from by omega)) (fun _ => ?_)
  refine g_iload_n hk dX7_allows_20 rfl ?_
  refine g_getsL hk (by decide +kernel) dX7_allows_21 ?_
  refine g_iload_n hk dX7_allows_24 rfl ?_
  by_cases c682 : a0.toInt = 2
  · obtain rfl : a0 = 2 := Int32.toInt_inj.mp c682
    refine g_sL (v := .int 0) hk (vp_in_iff.mpr ⟨by decide, by decide⟩) rfl dX7_allows_25 ?_
    refine g_icmp_lt (tgt := 42) (a := a1.toInt) (b := 0) hk dX7_allows_26 (by decide) rfl rfl (fun c683 => ?_) (fun c683 => ?_)
    · skip
      refine g_iconst (v := 0) hk dX7_allows_42 (by decide) ?_
      exact g_iret hk hR rfl (Or.inl ⟨c682, c683, rfl, rfl⟩) dX7_allows_43
    · skip
      refine g_iload_n hk dX7_allows_29 rfl ?_
      refine g_getsH hk (by decide +kernel) dX7_allows_30 ?_
      refine g_iload_n hk dX7_allows_33 rfl ?_
      refine g_sH (v := .int 1) hk (vp_in_iff.mpr ⟨by decide, by decide⟩) rfl dX7_allows_34 ?_
      refine g_icmp_gt (tgt := 42) (a := a1.toInt) (b := 1) hk dX7_allows_35 (by decide) rfl rfl (fun c684 => ?_) (fun c684 => ?_)
      · skip
        refine g_iconst (v := 0) hk dX7_allows_42 (by decide) ?_
        exact g_iret hk hR rfl (Or.inr (Or.inl ⟨c682, c683, c684, rfl, rfl⟩)) dX7_allows_43
      · skip
        refine g_iconst (v := 1) hk dX7_allows_38 (by decide) ?_
        refine g_goto (tgt := 43) hk dX7_allows_39 (by decide) ?_
        exact g_iret hk hR rfl (Or.inr (Or.inr (⟨c682, c683, c684, rfl, rfl⟩))) dX7_allows_43
  exfalso; omega
set_option maxHeartbeats 4000000 in
set_option maxRecDepth 100000 in
theorem m262_X7_put (l : Launch) (D : va_G) (zt : Nat × Nat × Nat) (d : Nat → ClassId) (q : Nat → Nat) (a1 : Int32) (a2 : Int32) (h0 : 2 ≤ a1.toInt) (h1 : a1.toInt ≤ 2) (h2 : 0 ≤ a2.toInt) (h3 : a2.toInt ≤ 1) : GM l D zt (tyX d) yX7_put wsX7_put ({ frames := 0, cells := 0, slots := 0, locals := 0 } : Room) [.ref (q 18), .int a1, .int a2] (wX q d iX0 aX0) (fun v _ w' => v = none ∧ w' = wX q d iX0 (up3 aX0 10 2 a2)) 0 0 := by
  refine GM.of (cc := cX7_put) (maxL := 3) (ret := none) (own := RX7) (lv := [(0, .ref (q 18)), (1, .int a1), (2, .int a2)]) (by decide) rfl rfl (Nat.le_of_ble_eq_true rfl) rfl (fun κ sz hk hR hN => ?_)
  have hin7 : ∀ w ∈ u_ws RX7 TX7 1, w ∈ wsX7_put := by decide +kernel
  refine g_iload_n hk dX7_put_0 rfl ?_
  refine g_if_lt (tgt := 20) (a := a1.toInt) hk dX7_put_1 (by decide) rfl (fun z9 => absurd z9 (show ¬ (a1.toInt < 0) from by omega)) (fun _ => ?_)
  refine g_iload_n hk dX7_put_4 rfl ?_
  refine g_aload_n hk dX7_put_5 rfl ?_
  refine gX_r18_0 hk hin7 (by decide +kernel) dX7_put_6 ?_
  refine nX_10 hk dX7_put_9 ?_
  refine g_icmp_ge (tgt := 20) (a := a1.toInt) (b := 4) hk dX7_put_10 (by decide) rfl rfl (fun z9 => absurd z9 (show ¬ (4 ≤ a1.toInt) from by omega)) (fun _ => ?_)
  refine g_aload_n hk dX7_put_13 rfl ?_
  refine gX_r18_0 hk hin7 (by decide +kernel) dX7_put_14 ?_
  refine g_iload_n hk dX7_put_17 rfl ?_
  refine g_iload_n hk dX7_put_18 rfl ?_
  by_cases c694 : a1.toInt = 2
  · obtain rfl : a1 = 2 := Int32.toInt_inj.mp c694
    refine sX_10 (j := 2) hk (vp_in_iff.mpr ⟨by decide, by decide⟩) (by decide) dX7_put_19 ?_
    exact g_vret hk hR ⟨rfl, rfl⟩ dX7_put_20
  exfalso; omega
set_option maxHeartbeats 4000000 in
set_option maxRecDepth 100000 in
theorem m263_X3_note (l : Launch) (D : va_G) (zt : Nat × Nat × Nat) (d : Nat → ClassId) (q : Nat → Nat) (a2 : Int32) (h0 : 2 ≤ a2.toInt) (h1 : a2.toInt ≤ 2) : GM l D zt (tyX d) yX3_note wsX3_note ({ frames := 1, cells := 0, slots := 0, locals := 14 } : Room) [.ref (q 20), .int 3, .int a2, .int 0] (wX q d iX0 (up3 aX0 10 2 a2)) (fun v _ w' => v = none ∧ w' = wX q d (upd (upd iX0 20 1) 21 1) (up3 (up3 (up3 aX0 10 2 a2) 11 0 3) 12 0 a2)) 0 0 := by
  refine GM.of (cc := cX3_note) (maxL := 4) (ret := none) (own := RX3) (lv := [(0, .ref (q 20)), (1, .int 3), (2, .int a2), (3, .int 0)]) (by decide) rfl rfl (Nat.le_of_ble_eq_true rfl) rfl (fun κ sz hk hR hN => ?_)
  have hin3 : ∀ w ∈ u_ws RX3 TX3 5, w ∈ wsX3_note := by decide +kernel
  refine g_aload_n hk dX3_note_0 rfl ?_
  refine gX_i20 (v := 0) hk hin3 (by decide +kernel) dX3_note_1 rfl ?_
  refine g_if_lt (tgt := 16) (a := 0) hk dX3_note_4 (by decide) rfl (fun z9 => absurd z9 (show ¬ (0 < 0) from by decide)) (fun _ => ?_)
  refine g_aload_n hk dX3_note_7 rfl ?_
  refine gX_i20 (v := 0) hk hin3 (by decide +kernel) dX3_note_8 rfl ?_
  refine g_bipush (v := 40) hk dX3_note_11 (by decide) ?_
  refine g_icmp_lt (tgt := 17) (a := 0) (b := 40) hk dX3_note_13 (by decide) rfl rfl (fun _ => ?_) (fun z9 => absurd (show 0 < 40 from by decide) z9)
  refine g_aload_n hk dX3_note_17 rfl ?_
  refine gX_r20_0 hk hin3 (by decide +kernel) dX3_note_18 ?_
  refine g_aload_n hk dX3_note_21 rfl ?_
  refine gX_i20 (v := 0) hk hin3 (by decide +kernel) dX3_note_22 rfl ?_
  refine g_iload_n hk dX3_note_25 rfl ?_
  refine sX_11 (j := 0) hk (vp_in_iff.mpr ⟨by decide, by decide⟩) (by decide) dX3_note_26 ?_
  refine g_aload_n hk dX3_note_27 rfl ?_
  refine gX_r20_1 hk hin3 (by decide +kernel) dX3_note_28 ?_
  refine g_aload_n hk dX3_note_31 rfl ?_
  refine gX_i20 (v := 0) hk hin3 (by decide +kernel) dX3_note_32 rfl ?_
  refine g_iload_n hk dX3_note_35 rfl ?_
  refine sX_12 (j := 0) hk (vp_in_iff.mpr ⟨by decide, by decide⟩) (by decide) dX3_note_36 ?_
  refine g_aload_n hk dX3_note_37 rfl ?_
  refine gX_r20_2 hk hin3 (by decide +kernel) dX3_note_38 ?_
  refine g_aload_n hk dX3_note_41 rfl ?_
  refine gX_i20 (v := 0) hk hin3 (by decide +kernel) dX3_note_42 rfl ?_
  refine g_iload_n hk dX3_note_45 rfl ?_
  refine sX_13 (j := 0) hk (vp_in_iff.mpr ⟨by decide, by decide⟩) (by decide) dX3_note_46 ?_
  refine gX_same rfl ?_
  refine g_aload_n hk dX3_note_47 rfl ?_
  refine g_aload_n hk dX3_note_48 rfl ?_
  refine gX_i20 (v := 0) hk hin3 (by decide +kernel) dX3_note_49 rfl ?_
  refine g_bipush (v := 39) hk dX3_note_52 (by decide) ?_
  refine g_icmp_ne (tgt := 61) (a := 0) (b := 39) hk dX3_note_54 (by decide) rfl rfl (fun _ => ?_) (fun z9 => absurd (show 0 ≠ 39 from by decide) z9)
  refine g_aload_n hk dX3_note_61 rfl ?_
  refine gX_i20 (v := 0) hk hin3 (by decide +kernel) dX3_note_62 rfl ?_
  refine g_iconst (v := 1) hk dX3_note_65 (by decide) ?_
  refine g_iadd hk dX3_note_66 ?_
  refine g_norm (v := 1) (by decide) ?_
  refine pX_i20 hk hin3 (by decide +kernel) dX3_note_67 ?_
  refine g_aload_n hk dX3_note_70 rfl ?_
  refine g_aload_n hk dX3_note_71 rfl ?_
  refine gX_i21 (v := 0) hk hin3 (by decide +kernel) dX3_note_72 rfl ?_
  refine g_iconst (v := 1) hk dX3_note_75 (by decide) ?_
  refine g_iadd hk dX3_note_76 ?_
  refine g_norm (v := 1) (by decide) ?_
  refine g_bipush (v := 40) hk dX3_note_77 (by decide) ?_
  refine g_mmin hk (by decide +kernel) (by decide +kernel) (by decide +kernel) (by decide +kernel) (Nat.le_of_ble_eq_true rfl) (Nat.le_of_ble_eq_true rfl) (Nat.le_of_ble_eq_true rfl) (Nat.le_of_ble_eq_true rfl) dX3_note_79 ?_
  refine g_norm (v := 1) (by decide) ?_
  refine pX_i21 hk hin3 (by decide +kernel) dX3_note_82 ?_
  exact g_vret hk hR ⟨rfl, rfl⟩ dX3_note_85
set_option maxHeartbeats 4000000 in
set_option maxRecDepth 100000 in
theorem m264_X7_allows (l : Launch) (D : va_G) (zt : Nat × Nat × Nat) (d : Nat → ClassId) (q : Nat → Nat) (a0 : Int32) (a1 : Int32) (h0 : 3 ≤ a0.toInt) (h1 : a0.toInt ≤ 3) : GM l D zt (tyX d) yX7_allows wsX7_allows ({ frames := 0, cells := 0, slots := 0, locals := 0 } : Room) [.int a0, .int a1] (wX q d iX0 aX0) (fun v _ w' => ((a0.toInt = 3) ∧ (a1.toInt < 1) ∧ v = some (.int 0) ∧ w' = wX q d iX0 aX0) ∨ ((a0.toInt = 3) ∧ (¬ (a1.toInt < 1)) ∧ (99 < a1.toInt) ∧ v = some (.int 0) ∧ w' = wX q d iX0 aX0) ∨ ((a0.toInt = 3) ∧ (¬ (a1.toInt < 1)) ∧ (¬ (99 < a1.toInt)) ∧ v = some (.int 1) ∧ w' = wX q d iX0 aX0)) 0 0 := by
  refine GM.of (cc := cX7_allows) (maxL := 2) (ret := (some .boolean)) (own := RX7) (lv := [(0, .int a0), (1, .int a1)]) (by decide) rfl rfl (Nat.le_of_ble_eq_true rfl) rfl (fun κ sz hk hR hN => ?_)
  refine g_iload_n hk dX7_allows_0 rfl ?_
  refine g_if_lt (tgt := 42) (a := a0.toInt) hk dX7_allows_1 (by decide) rfl (fun z9 => absurd z9 (show ¬ (a0.toInt < 0) from by omega)) (fun _ => ?_)
  refine g_iload_n hk dX7_allows_4 rfl ?_
  refine g_getsL hk (by decide +kernel) dX7_allows_5 ?_
  refine g_lenL hk dX7_allows_8 ?_
  refine g_icmp_ge (tgt := 42) (a := a0.toInt) (b := 4) hk dX7_allows_9 (by decide) rfl rfl (fun z9 => absurd z9 (show ¬ (4 ≤ a0.toInt) from by omega)) (fun _ => ?_)
  refine g_iload_n hk dX7_allows_12 rfl ?_
  refine g_getsH hk (by decide +kernel) dX7_allows_13 ?_
  refine g_lenH hk dX7_allows_16 ?_
  refine g_icmp_ge (tgt := 42) (a := a0.toInt) (b := 4) hk dX7_allows_17 (by decide) rfl rfl (fun z9 => absurd z9 (show ¬ (4 ≤ a0.toInt) from by omega)) (fun _ => ?_)
  refine g_iload_n hk dX7_allows_20 rfl ?_
  refine g_getsL hk (by decide +kernel) dX7_allows_21 ?_
  refine g_iload_n hk dX7_allows_24 rfl ?_
  by_cases c695 : a0.toInt = 3
  · obtain rfl : a0 = 3 := Int32.toInt_inj.mp c695
    refine g_sL (v := .int 1) hk (vp_in_iff.mpr ⟨by decide, by decide⟩) rfl dX7_allows_25 ?_
    refine g_icmp_lt (tgt := 42) (a := a1.toInt) (b := 1) hk dX7_allows_26 (by decide) rfl rfl (fun c696 => ?_) (fun c696 => ?_)
    · skip
      refine g_iconst (v := 0) hk dX7_allows_42 (by decide) ?_
      exact g_iret hk hR rfl (Or.inl ⟨c695, c696, rfl, rfl⟩) dX7_allows_43
    · skip
      refine g_iload_n hk dX7_allows_29 rfl ?_
      refine g_getsH hk (by decide +kernel) dX7_allows_30 ?_
      refine g_iload_n hk dX7_allows_33 rfl ?_
      refine g_sH (v := .int 99) hk (vp_in_iff.mpr ⟨by decide, by decide⟩) rfl dX7_allows_34 ?_
      refine g_icmp_gt (tgt := 42) (a := a1.toInt) (b := 99) hk dX7_allows_35 (by decide) rfl rfl (fun c697 => ?_) (fun c697 => ?_)
      · skip
        refine g_iconst (v := 0) hk dX7_allows_42 (by decide) ?_
        exact g_iret hk hR rfl (Or.inr (Or.inl ⟨c695, c696, c697, rfl, rfl⟩)) dX7_allows_43
      · skip
        refine g_iconst (v := 1) hk dX7_allows_38 (by decide) ?_
        refine g_goto (tgt := 43) hk dX7_allows_39 (by decide) ?_
        exact g_iret hk hR rfl (Or.inr (Or.inr (⟨c695, c696, c697, rfl, rfl⟩))) dX7_allows_43
  exfalso; omega
set_option maxHeartbeats 4000000 in
set_option maxRecDepth 100000 in
theorem m265_X7_put (l : Launch) (D : va_G) (zt : Nat × Nat × Nat) (d : Nat → ClassId) (q : Nat → Nat) (a1 : Int32) (a2 : Int32) (h0 : 3 ≤ a1.toInt) (h1 : a1.toInt ≤ 3) (h2 : 1 ≤ a2.toInt) (h3 : a2.toInt ≤ 99) : GM l D zt (tyX d) yX7_put wsX7_put ({ frames := 0, cells := 0, slots := 0, locals := 0 } : Room) [.ref (q 18), .int a1, .int a2] (wX q d iX0 aX0) (fun v _ w' => v = none ∧ w' = wX q d iX0 (up3 aX0 10 3 a2)) 0 0 := by
  refine GM.of (cc := cX7_put) (maxL := 3) (ret := none) (own := RX7) (lv := [(0, .ref (q 18)), (1, .int a1), (2, .int a2)]) (by decide) rfl rfl (Nat.le_of_ble_eq_true rfl) rfl (fun κ sz hk hR hN => ?_)
  have hin7 : ∀ w ∈ u_ws RX7 TX7 1, w ∈ wsX7_put := by decide +kernel
  refine g_iload_n hk dX7_put_0 rfl ?_
  refine g_if_lt (tgt := 20) (a := a1.toInt) hk dX7_put_1 (by decide) rfl (fun z9 => absurd z9 (show ¬ (a1.toInt < 0) from by omega)) (fun _ => ?_)
  refine g_iload_n hk dX7_put_4 rfl ?_
  refine g_aload_n hk dX7_put_5 rfl ?_
  refine gX_r18_0 hk hin7 (by decide +kernel) dX7_put_6 ?_
  refine nX_10 hk dX7_put_9 ?_
  refine g_icmp_ge (tgt := 20) (a := a1.toInt) (b := 4) hk dX7_put_10 (by decide) rfl rfl (fun z9 => absurd z9 (show ¬ (4 ≤ a1.toInt) from by omega)) (fun _ => ?_)
  refine g_aload_n hk dX7_put_13 rfl ?_
  refine gX_r18_0 hk hin7 (by decide +kernel) dX7_put_14 ?_
  refine g_iload_n hk dX7_put_17 rfl ?_
  refine g_iload_n hk dX7_put_18 rfl ?_
  by_cases c707 : a1.toInt = 3
  · obtain rfl : a1 = 3 := Int32.toInt_inj.mp c707
    refine sX_10 (j := 3) hk (vp_in_iff.mpr ⟨by decide, by decide⟩) (by decide) dX7_put_19 ?_
    exact g_vret hk hR ⟨rfl, rfl⟩ dX7_put_20
  exfalso; omega
set_option maxHeartbeats 4000000 in
set_option maxRecDepth 100000 in
theorem m266_X3_note (l : Launch) (D : va_G) (zt : Nat × Nat × Nat) (d : Nat → ClassId) (q : Nat → Nat) (a2 : Int32) (h0 : 3 ≤ a2.toInt) (h1 : a2.toInt ≤ 3) : GM l D zt (tyX d) yX3_note wsX3_note ({ frames := 1, cells := 0, slots := 0, locals := 14 } : Room) [.ref (q 20), .int 3, .int a2, .int 8] (wX q d iX0 (up3 aX0 10 3 a2)) (fun v _ w' => v = none ∧ w' = wX q d (upd (upd iX0 20 1) 21 1) (up3 (up3 (up3 (up3 aX0 10 3 a2) 11 0 3) 12 0 a2) 13 0 8)) 0 0 := by
  refine GM.of (cc := cX3_note) (maxL := 4) (ret := none) (own := RX3) (lv := [(0, .ref (q 20)), (1, .int 3), (2, .int a2), (3, .int 8)]) (by decide) rfl rfl (Nat.le_of_ble_eq_true rfl) rfl (fun κ sz hk hR hN => ?_)
  have hin3 : ∀ w ∈ u_ws RX3 TX3 5, w ∈ wsX3_note := by decide +kernel
  refine g_aload_n hk dX3_note_0 rfl ?_
  refine gX_i20 (v := 0) hk hin3 (by decide +kernel) dX3_note_1 rfl ?_
  refine g_if_lt (tgt := 16) (a := 0) hk dX3_note_4 (by decide) rfl (fun z9 => absurd z9 (show ¬ (0 < 0) from by decide)) (fun _ => ?_)
  refine g_aload_n hk dX3_note_7 rfl ?_
  refine gX_i20 (v := 0) hk hin3 (by decide +kernel) dX3_note_8 rfl ?_
  refine g_bipush (v := 40) hk dX3_note_11 (by decide) ?_
  refine g_icmp_lt (tgt := 17) (a := 0) (b := 40) hk dX3_note_13 (by decide) rfl rfl (fun _ => ?_) (fun z9 => absurd (show 0 < 40 from by decide) z9)
  refine g_aload_n hk dX3_note_17 rfl ?_
  refine gX_r20_0 hk hin3 (by decide +kernel) dX3_note_18 ?_
  refine g_aload_n hk dX3_note_21 rfl ?_
  refine gX_i20 (v := 0) hk hin3 (by decide +kernel) dX3_note_22 rfl ?_
  refine g_iload_n hk dX3_note_25 rfl ?_
  refine sX_11 (j := 0) hk (vp_in_iff.mpr ⟨by decide, by decide⟩) (by decide) dX3_note_26 ?_
  refine g_aload_n hk dX3_note_27 rfl ?_
  refine gX_r20_1 hk hin3 (by decide +kernel) dX3_note_28 ?_
  refine g_aload_n hk dX3_note_31 rfl ?_
  refine gX_i20 (v := 0) hk hin3 (by decide +kernel) dX3_note_32 rfl ?_
  refine g_iload_n hk dX3_note_35 rfl ?_
  refine sX_12 (j := 0) hk (vp_in_iff.mpr ⟨by decide, by decide⟩) (by decide) dX3_note_36 ?_
  refine g_aload_n hk dX3_note_37 rfl ?_
  refine gX_r20_2 hk hin3 (by decide +kernel) dX3_note_38 ?_
  refine g_aload_n hk dX3_note_41 rfl ?_
  refine gX_i20 (v := 0) hk hin3 (by decide +kernel) dX3_note_42 rfl ?_
  refine g_iload_n hk dX3_note_45 rfl ?_
  refine sX_13 (j := 0) hk (vp_in_iff.mpr ⟨by decide, by decide⟩) (by decide) dX3_note_46 ?_
  refine g_aload_n hk dX3_note_47 rfl ?_
  refine g_aload_n hk dX3_note_48 rfl ?_
  refine gX_i20 (v := 0) hk hin3 (by decide +kernel) dX3_note_49 rfl ?_
  refine g_bipush (v := 39) hk dX3_note_52 (by decide) ?_
  refine g_icmp_ne (tgt := 61) (a := 0) (b := 39) hk dX3_note_54 (by decide) rfl rfl (fun _ => ?_) (fun z9 => absurd (show 0 ≠ 39 from by decide) z9)
  refine g_aload_n hk dX3_note_61 rfl ?_
  refine gX_i20 (v := 0) hk hin3 (by decide +kernel) dX3_note_62 rfl ?_
  refine g_iconst (v := 1) hk dX3_note_65 (by decide) ?_
  refine g_iadd hk dX3_note_66 ?_
  refine g_norm (v := 1) (by decide) ?_
  refine pX_i20 hk hin3 (by decide +kernel) dX3_note_67 ?_
  refine g_aload_n hk dX3_note_70 rfl ?_
  refine g_aload_n hk dX3_note_71 rfl ?_
  refine gX_i21 (v := 0) hk hin3 (by decide +kernel) dX3_note_72 rfl ?_
  refine g_iconst (v := 1) hk dX3_note_75 (by decide) ?_
  refine g_iadd hk dX3_note_76 ?_
  refine g_norm (v := 1) (by decide) ?_
  refine g_bipush (v := 40) hk dX3_note_77 (by decide) ?_
  refine g_mmin hk (by decide +kernel) (by decide +kernel) (by decide +kernel) (by decide +kernel) (Nat.le_of_ble_eq_true rfl) (Nat.le_of_ble_eq_true rfl) (Nat.le_of_ble_eq_true rfl) (Nat.le_of_ble_eq_true rfl) dX3_note_79 ?_
  refine g_norm (v := 1) (by decide) ?_
  refine pX_i21 hk hin3 (by decide +kernel) dX3_note_82 ?_
  exact g_vret hk hR ⟨rfl, rfl⟩ dX3_note_85
set_option maxHeartbeats 4000000 in
set_option maxRecDepth 100000 in
theorem m267_X11_set (l : Launch) (D : va_G) (zt : Nat × Nat × Nat) (d : Nat → ClassId) (q : Nat → Nat) (a1 : Int32) (a2 : Int32) : GM l D zt (tyX d) yX11_set wsX11_set ({ frames := 2, cells := 0, slots := 0, locals := 37 } : Room) [.ref (q 0), .int a1, .int a2] (wX q d iX0 aX0) (fun v _ w' => ((a1.toInt < 0) ∧ v = some (.int 0) ∧ w' = wX q d iX0 aX0) ∨ ((¬ (a1.toInt < 0)) ∧ (4 ≤ a1.toInt) ∧ v = some (.int 0) ∧ w' = wX q d iX0 aX0) ∨ ((¬ (a1.toInt < 0)) ∧ (¬ (4 ≤ a1.toInt)) ∧ (a1.toInt = 0) ∧ (a1.toInt = 0) ∧ (a2.toInt < 0) ∧ v = some (.int 0) ∧ w' = wX q d iX0 aX0) ∨ ((¬ (a1.toInt < 0)) ∧ (¬ (4 ≤ a1.toInt)) ∧ (a1.toInt = 0) ∧ (a1.toInt = 0) ∧ (¬ (a2.toInt < 0)) ∧ (15 < a2.toInt) ∧ v = some (.int 0) ∧ w' = wX q d iX0 aX0) ∨ ((¬ (a1.toInt < 0)) ∧ (¬ (4 ≤ a1.toInt)) ∧ (a1.toInt = 0) ∧ (a1.toInt = 0) ∧ (¬ (a2.toInt < 0)) ∧ (¬ (15 < a2.toInt)) ∧ (2 ≠ a2.toInt) ∧ v = some (.int 1) ∧ w' = wX q d (upd (upd iX0 20 1) 21 1) (up3 (up3 (up3 (up3 aX0 10 0 a1) 11 0 3) 12 0 a1) 13 0 2)) ∨ ((¬ (a1.toInt < 0)) ∧ (¬ (4 ≤ a1.toInt)) ∧ (a1.toInt = 0) ∧ (a1.toInt = 0) ∧ (¬ (a2.toInt < 0)) ∧ (¬ (15 < a2.toInt)) ∧ (¬ (2 ≠ a2.toInt)) ∧ v = some (.int 0) ∧ w' = wX q d iX0 aX0) ∨ ((¬ (a1.toInt < 0)) ∧ (¬ (4 ≤ a1.toInt)) ∧ (¬ (a1.toInt = 0)) ∧ (a1.toInt = 1) ∧ (a1.toInt = 1) ∧ (a2.toInt < 0) ∧ v = some (.int 0) ∧ w' = wX q d iX0 aX0) ∨ ((¬ (a1.toInt < 0)) ∧ (¬ (4 ≤ a1.toInt)) ∧ (¬ (a1.toInt = 0)) ∧ (a1.toInt = 1) ∧ (a1.toInt = 1) ∧ (¬ (a2.toInt < 0)) ∧ (3 < a2.toInt) ∧ v = some (.int 0) ∧ w' = wX q d iX0 aX0) ∨ ((¬ (a1.toInt < 0)) ∧ (¬ (4 ≤ a1.toInt)) ∧ (¬ (a1.toInt = 0)) ∧ (a1.toInt = 1) ∧ (a1.toInt = 1) ∧ (¬ (a2.toInt < 0)) ∧ (¬ (3 < a2.toInt)) ∧ (0 ≠ a2.toInt) ∧ v = some (.int 1) ∧ w' = wX q d (upd (upd iX0 20 1) 21 1) (up3 (up3 (up3 aX0 10 1 a1) 11 0 3) 12 0 a1)) ∨ ((¬ (a1.toInt < 0)) ∧ (¬ (4 ≤ a1.toInt)) ∧ (¬ (a1.toInt = 0)) ∧ (a1.toInt = 1) ∧ (a1.toInt = 1) ∧ (¬ (a2.toInt < 0)) ∧ (¬ (3 < a2.toInt)) ∧ (¬ (0 ≠ a2.toInt)) ∧ v = some (.int 0) ∧ w' = wX q d iX0 aX0) ∨ ((¬ (a1.toInt < 0)) ∧ (¬ (4 ≤ a1.toInt)) ∧ (¬ (a1.toInt = 0)) ∧ (¬ (a1.toInt = 1)) ∧ (a1.toInt = 2) ∧ (a1.toInt = 2) ∧ (a2.toInt < 0) ∧ v = some (.int 0) ∧ w' = wX q d iX0 aX0) ∨ ((¬ (a1.toInt < 0)) ∧ (¬ (4 ≤ a1.toInt)) ∧ (¬ (a1.toInt = 0)) ∧ (¬ (a1.toInt = 1)) ∧ (a1.toInt = 2) ∧ (a1.toInt = 2) ∧ (¬ (a2.toInt < 0)) ∧ (1 < a2.toInt) ∧ v = some (.int 0) ∧ w' = wX q d iX0 aX0) ∨ ((¬ (a1.toInt < 0)) ∧ (¬ (4 ≤ a1.toInt)) ∧ (¬ (a1.toInt = 0)) ∧ (¬ (a1.toInt = 1)) ∧ (a1.toInt = 2) ∧ (a1.toInt = 2) ∧ (¬ (a2.toInt < 0)) ∧ (¬ (1 < a2.toInt)) ∧ (0 ≠ a2.toInt) ∧ v = some (.int 1) ∧ w' = wX q d (upd (upd iX0 20 1) 21 1) (up3 (up3 (up3 aX0 10 2 a1) 11 0 3) 12 0 a1)) ∨ ((¬ (a1.toInt < 0)) ∧ (¬ (4 ≤ a1.toInt)) ∧ (¬ (a1.toInt = 0)) ∧ (¬ (a1.toInt = 1)) ∧ (a1.toInt = 2) ∧ (a1.toInt = 2) ∧ (¬ (a2.toInt < 0)) ∧ (¬ (1 < a2.toInt)) ∧ (¬ (0 ≠ a2.toInt)) ∧ v = some (.int 0) ∧ w' = wX q d iX0 aX0) ∨ ((¬ (a1.toInt < 0)) ∧ (¬ (4 ≤ a1.toInt)) ∧ (¬ (a1.toInt = 0)) ∧ (¬ (a1.toInt = 1)) ∧ (¬ (a1.toInt = 2)) ∧ (a1.toInt = 3) ∧ (a1.toInt = 3) ∧ (a2.toInt < 1) ∧ v = some (.int 0) ∧ w' = wX q d iX0 aX0) ∨ ((¬ (a1.toInt < 0)) ∧ (¬ (4 ≤ a1.toInt)) ∧ (¬ (a1.toInt = 0)) ∧ (¬ (a1.toInt = 1)) ∧ (¬ (a1.toInt = 2)) ∧ (a1.toInt = 3) ∧ (a1.toInt = 3) ∧ (¬ (a2.toInt < 1)) ∧ (99 < a2.toInt) ∧ v = some (.int 0) ∧ w' = wX q d iX0 aX0) ∨ ((¬ (a1.toInt < 0)) ∧ (¬ (4 ≤ a1.toInt)) ∧ (¬ (a1.toInt = 0)) ∧ (¬ (a1.toInt = 1)) ∧ (¬ (a1.toInt = 2)) ∧ (a1.toInt = 3) ∧ (a1.toInt = 3) ∧ (¬ (a2.toInt < 1)) ∧ (¬ (99 < a2.toInt)) ∧ (8 ≠ a2.toInt) ∧ v = some (.int 1) ∧ w' = wX q d (upd (upd iX0 20 1) 21 1) (up3 (up3 (up3 (up3 aX0 10 3 a1) 11 0 3) 12 0 a1) 13 0 8)) ∨ ((¬ (a1.toInt < 0)) ∧ (¬ (4 ≤ a1.toInt)) ∧ (¬ (a1.toInt = 0)) ∧ (¬ (a1.toInt = 1)) ∧ (¬ (a1.toInt = 2)) ∧ (a1.toInt = 3) ∧ (a1.toInt = 3) ∧ (¬ (a2.toInt < 1)) ∧ (¬ (99 < a2.toInt)) ∧ (¬ (8 ≠ a2.toInt)) ∧ v = some (.int 0) ∧ w' = wX q d iX0 aX0)) 0 0 := by
  refine GM.of (cc := cX11_set) (maxL := 4) (ret := (some .boolean)) (own := RX11) (lv := [(0, .ref (q 0)), (1, .int a1), (2, .int a2)]) (by decide) rfl rfl (Nat.le_of_ble_eq_true rfl) rfl (fun κ sz hk hR hN => ?_)
  have hin11 : ∀ w ∈ u_ws RX11 TX11 10, w ∈ wsX11_set := by decide +kernel
  refine g_aload_n hk dX11_set_0 rfl ?_
  refine gX_r0_4 hk hin11 (by decide +kernel) dX11_set_1 ?_
  refine g_iload_n hk dX11_set_4 rfl ?_
  refine g_callV hk (m252_X7_valueOf l D zt d q a1) (SP.same _) (fun _ h => h) gX11_set_X7_valueOf rfl rfl rfl (by decide +kernel) ⟨Nat.le_of_ble_eq_true rfl, Nat.le_of_ble_eq_true rfl⟩ 18 rfl rfl rfl rfl (Nat.le_of_ble_eq_true rfl) ⟨Nat.le_of_ble_eq_true rfl, Nat.le_of_ble_eq_true rfl⟩ dX11_set_5 (fun v ty' w' hp hk' => ?_)
  rcases hp with ⟨c635, rfl, rfl⟩ | ⟨c636, c637, rfl, rfl⟩ | ⟨c638, c639, c640, rfl, rfl⟩ | ⟨c641, c642, c643, c644, rfl, rfl⟩ | ⟨c645, c646, c647, c648, c649, rfl, rfl⟩ | ⟨c650, c651, c652, c653, c654, c655, rfl, rfl⟩
  · show GW κ 4 0 0 (wX q d iX0 aX0) 8 [(0, .ref (q 0)), (1, .int a1), (2, .int a2)] [.int (-1)]
    refine g_istore_n (lv' := [(3, .int (-1)), (0, .ref (q 0)), (1, .int a1), (2, .int a2)]) hk dX11_set_8 (by decide) rfl ?_
    refine g_iload_n hk dX11_set_9 rfl ?_
    refine g_iload_n hk dX11_set_10 rfl ?_
    refine g_callS hk (m253_X7_allows l D zt d q a1 a2 (by omega)) (SP.same _) (fun _ h => h) gX11_set_X7_allows rfl rfl rfl (by decide +kernel) ⟨Nat.le_of_ble_eq_true rfl, Nat.le_of_ble_eq_true rfl⟩ rfl rfl (Nat.le_of_ble_eq_true rfl) ⟨Nat.le_of_ble_eq_true rfl, Nat.le_of_ble_eq_true rfl⟩ dX11_set_11 (fun v ty' w' hp hk' => ?_)
    obtain ⟨rfl, rfl⟩ := hp
    show GW κ 4 0 0 (wX q d iX0 aX0) 14 [(3, .int (-1)), (0, .ref (q 0)), (1, .int a1), (2, .int a2)] [.int 0]
    refine g_if_eq (tgt := 22) (a := 0) hk dX11_set_14 (by decide) rfl (fun _ => ?_) (fun z9 => absurd (show 0 = 0 from by decide) z9)
    refine g_iconst (v := 0) hk dX11_set_22 (by decide) ?_
    exact g_iret hk hR rfl (Or.inl ⟨c635, rfl, rfl⟩) dX11_set_23
  · show GW κ 4 0 0 (wX q d iX0 aX0) 8 [(0, .ref (q 0)), (1, .int a1), (2, .int a2)] [.int (-1)]
    refine g_istore_n (lv' := [(3, .int (-1)), (0, .ref (q 0)), (1, .int a1), (2, .int a2)]) hk dX11_set_8 (by decide) rfl ?_
    refine g_iload_n hk dX11_set_9 rfl ?_
    refine g_iload_n hk dX11_set_10 rfl ?_
    refine g_callS hk (m254_X7_allows l D zt d q a1 a2 (by omega)) (SP.same _) (fun _ h => h) gX11_set_X7_allows rfl rfl rfl (by decide +kernel) ⟨Nat.le_of_ble_eq_true rfl, Nat.le_of_ble_eq_true rfl⟩ rfl rfl (Nat.le_of_ble_eq_true rfl) ⟨Nat.le_of_ble_eq_true rfl, Nat.le_of_ble_eq_true rfl⟩ dX11_set_11 (fun v ty' w' hp hk' => ?_)
    obtain ⟨rfl, rfl⟩ := hp
    show GW κ 4 0 0 (wX q d iX0 aX0) 14 [(3, .int (-1)), (0, .ref (q 0)), (1, .int a1), (2, .int a2)] [.int 0]
    refine g_if_eq (tgt := 22) (a := 0) hk dX11_set_14 (by decide) rfl (fun _ => ?_) (fun z9 => absurd (show 0 = 0 from by decide) z9)
    refine g_iconst (v := 0) hk dX11_set_22 (by decide) ?_
    exact g_iret hk hR rfl (Or.inr (Or.inl ⟨c636, c637, rfl, rfl⟩)) dX11_set_23
  · show GW κ 4 0 0 (wX q d iX0 aX0) 8 [(0, .ref (q 0)), (1, .int a1), (2, .int a2)] [.int 2]
    refine g_istore_n (lv' := [(3, .int 2), (0, .ref (q 0)), (1, .int a1), (2, .int a2)]) hk dX11_set_8 (by decide) rfl ?_
    refine g_iload_n hk dX11_set_9 rfl ?_
    refine g_iload_n hk dX11_set_10 rfl ?_
    refine g_callS hk (m255_X7_allows l D zt d q a1 a2 (by omega) (by omega)) (SP.same _) (fun _ h => h) gX11_set_X7_allows rfl rfl rfl (by decide +kernel) ⟨Nat.le_of_ble_eq_true rfl, Nat.le_of_ble_eq_true rfl⟩ rfl rfl (Nat.le_of_ble_eq_true rfl) ⟨Nat.le_of_ble_eq_true rfl, Nat.le_of_ble_eq_true rfl⟩ dX11_set_11 (fun v ty' w' hp hk' => ?_)
    rcases hp with ⟨c659, c660, rfl, rfl⟩ | ⟨c661, c662, c663, rfl, rfl⟩ | ⟨c664, c665, c666, rfl, rfl⟩
    · show GW κ 4 0 0 (wX q d iX0 aX0) 14 [(3, .int 2), (0, .ref (q 0)), (1, .int a1), (2, .int a2)] [.int 0]
      refine g_if_eq (tgt := 22) (a := 0) hk dX11_set_14 (by decide) rfl (fun _ => ?_) (fun z9 => absurd (show 0 = 0 from by decide) z9)
      refine g_iconst (v := 0) hk dX11_set_22 (by decide) ?_
      exact g_iret hk hR rfl (Or.inr (Or.inr (Or.inl ⟨c638, c639, c640, c659, c660, rfl, rfl⟩))) dX11_set_23
    · show GW κ 4 0 0 (wX q d iX0 aX0) 14 [(3, .int 2), (0, .ref (q 0)), (1, .int a1), (2, .int a2)] [.int 0]
      refine g_if_eq (tgt := 22) (a := 0) hk dX11_set_14 (by decide) rfl (fun _ => ?_) (fun z9 => absurd (show 0 = 0 from by decide) z9)
      refine g_iconst (v := 0) hk dX11_set_22 (by decide) ?_
      exact g_iret hk hR rfl (Or.inr (Or.inr (Or.inr (Or.inl ⟨c638, c639, c640, c661, c662, c663, rfl, rfl⟩)))) dX11_set_23
    · show GW κ 4 0 0 (wX q d iX0 aX0) 14 [(3, .int 2), (0, .ref (q 0)), (1, .int a1), (2, .int a2)] [.int 1]
      refine g_if_eq (tgt := 22) (a := 1) hk dX11_set_14 (by decide) rfl (fun z9 => absurd z9 (show ¬ (1 = 0) from by decide)) (fun _ => ?_)
      refine g_iload_n hk dX11_set_17 rfl ?_
      refine g_iload_n hk dX11_set_18 rfl ?_
      refine g_icmp_ne (tgt := 24) (a := 2) (b := a2.toInt) hk dX11_set_19 (by decide) rfl rfl (fun c667 => ?_) (fun c667 => ?_)
      · skip
        refine g_aload_n hk dX11_set_24 rfl ?_
        refine gX_r0_4 hk hin11 (by decide +kernel) dX11_set_25 ?_
        refine g_iload_n hk dX11_set_28 rfl ?_
        refine g_iload_n hk dX11_set_29 rfl ?_
        refine g_callV hk (m256_X7_put l D zt d q a1 a2 (by omega) (by omega) (by omega) (by omega)) (SP.same _) (fun _ h => h) gX11_set_X7_put rfl rfl rfl (by decide +kernel) ⟨Nat.le_of_ble_eq_true rfl, Nat.le_of_ble_eq_true rfl⟩ 18 rfl rfl rfl rfl (Nat.le_of_ble_eq_true rfl) ⟨Nat.le_of_ble_eq_true rfl, Nat.le_of_ble_eq_true rfl⟩ dX11_set_30 (fun v ty' w' hp hk' => ?_)
        obtain ⟨rfl, rfl⟩ := hp
        show GW κ 4 0 0 (wX q d iX0 (up3 aX0 10 0 a2)) 33 [(3, .int 2), (0, .ref (q 0)), (1, .int a1), (2, .int a2)] []
        refine g_aload_n hk dX11_set_33 rfl ?_
        refine gX_r0_5 hk hin11 (by decide +kernel) dX11_set_34 ?_
        refine g_iconst (v := 3) hk dX11_set_37 (by decide) ?_
        refine g_iload_n hk dX11_set_38 rfl ?_
        refine g_iload_n hk dX11_set_39 rfl ?_
        refine g_callV hk (m257_X3_note l D zt d q a1 (by omega) (by omega)) (SP.same _) (fun _ h => h) gX11_set_X3_note rfl rfl rfl (by decide +kernel) ⟨Nat.le_of_ble_eq_true rfl, Nat.le_of_ble_eq_true rfl⟩ 20 rfl rfl rfl rfl (Nat.le_of_ble_eq_true rfl) ⟨Nat.le_of_ble_eq_true rfl, Nat.le_of_ble_eq_true rfl⟩ dX11_set_40 (fun v ty' w' hp hk' => ?_)
        obtain ⟨rfl, rfl⟩ := hp
        show GW κ 4 0 0 (wX q d (upd (upd iX0 20 1) 21 1) (up3 (up3 (up3 (up3 aX0 10 0 a1) 11 0 3) 12 0 a1) 13 0 2)) 43 [(3, .int 2), (0, .ref (q 0)), (1, .int a1), (2, .int a2)] []
        refine g_iconst (v := 1) hk dX11_set_43 (by decide) ?_
        exact g_iret hk hR rfl (Or.inr (Or.inr (Or.inr (Or.inr (Or.inl ⟨c638, c639, c640, c664, c665, c666, c667, rfl, rfl⟩))))) dX11_set_44
      · skip
        refine g_iconst (v := 0) hk dX11_set_22 (by decide) ?_
        exact g_iret hk hR rfl (Or.inr (Or.inr (Or.inr (Or.inr (Or.inr (Or.inl ⟨c638, c639, c640, c664, c665, c666, c667, rfl, rfl⟩)))))) dX11_set_23
  · show GW κ 4 0 0 (wX q d iX0 aX0) 8 [(0, .ref (q 0)), (1, .int a1), (2, .int a2)] [.int 0]
    refine g_istore_n (lv' := [(3, .int 0), (0, .ref (q 0)), (1, .int a1), (2, .int a2)]) hk dX11_set_8 (by decide) rfl ?_
    refine g_iload_n hk dX11_set_9 rfl ?_
    refine g_iload_n hk dX11_set_10 rfl ?_
    refine g_callS hk (m258_X7_allows l D zt d q a1 a2 (by omega) (by omega)) (SP.same _) (fun _ h => h) gX11_set_X7_allows rfl rfl rfl (by decide +kernel) ⟨Nat.le_of_ble_eq_true rfl, Nat.le_of_ble_eq_true rfl⟩ rfl rfl (Nat.le_of_ble_eq_true rfl) ⟨Nat.le_of_ble_eq_true rfl, Nat.le_of_ble_eq_true rfl⟩ dX11_set_11 (fun v ty' w' hp hk' => ?_)
    rcases hp with ⟨c672, c673, rfl, rfl⟩ | ⟨c674, c675, c676, rfl, rfl⟩ | ⟨c677, c678, c679, rfl, rfl⟩
    · show GW κ 4 0 0 (wX q d iX0 aX0) 14 [(3, .int 0), (0, .ref (q 0)), (1, .int a1), (2, .int a2)] [.int 0]
      refine g_if_eq (tgt := 22) (a := 0) hk dX11_set_14 (by decide) rfl (fun _ => ?_) (fun z9 => absurd (show 0 = 0 from by decide) z9)
      refine g_iconst (v := 0) hk dX11_set_22 (by decide) ?_
      exact g_iret hk hR rfl (Or.inr (Or.inr (Or.inr (Or.inr (Or.inr (Or.inr (Or.inl ⟨c641, c642, c643, c644, c672, c673, rfl, rfl⟩))))))) dX11_set_23
    · show GW κ 4 0 0 (wX q d iX0 aX0) 14 [(3, .int 0), (0, .ref (q 0)), (1, .int a1), (2, .int a2)] [.int 0]
      refine g_if_eq (tgt := 22) (a := 0) hk dX11_set_14 (by decide) rfl (fun _ => ?_) (fun z9 => absurd (show 0 = 0 from by decide) z9)
      refine g_iconst (v := 0) hk dX11_set_22 (by decide) ?_
      exact g_iret hk hR rfl (Or.inr (Or.inr (Or.inr (Or.inr (Or.inr (Or.inr (Or.inr (Or.inl ⟨c641, c642, c643, c644, c674, c675, c676, rfl, rfl⟩)))))))) dX11_set_23
    · show GW κ 4 0 0 (wX q d iX0 aX0) 14 [(3, .int 0), (0, .ref (q 0)), (1, .int a1), (2, .int a2)] [.int 1]
      refine g_if_eq (tgt := 22) (a := 1) hk dX11_set_14 (by decide) rfl (fun z9 => absurd z9 (show ¬ (1 = 0) from by decide)) (fun _ => ?_)
      refine g_iload_n hk dX11_set_17 rfl ?_
      refine g_iload_n hk dX11_set_18 rfl ?_
      refine g_icmp_ne (tgt := 24) (a := 0) (b := a2.toInt) hk dX11_set_19 (by decide) rfl rfl (fun c680 => ?_) (fun c680 => ?_)
      · skip
        refine g_aload_n hk dX11_set_24 rfl ?_
        refine gX_r0_4 hk hin11 (by decide +kernel) dX11_set_25 ?_
        refine g_iload_n hk dX11_set_28 rfl ?_
        refine g_iload_n hk dX11_set_29 rfl ?_
        refine g_callV hk (m259_X7_put l D zt d q a1 a2 (by omega) (by omega) (by omega) (by omega)) (SP.same _) (fun _ h => h) gX11_set_X7_put rfl rfl rfl (by decide +kernel) ⟨Nat.le_of_ble_eq_true rfl, Nat.le_of_ble_eq_true rfl⟩ 18 rfl rfl rfl rfl (Nat.le_of_ble_eq_true rfl) ⟨Nat.le_of_ble_eq_true rfl, Nat.le_of_ble_eq_true rfl⟩ dX11_set_30 (fun v ty' w' hp hk' => ?_)
        obtain ⟨rfl, rfl⟩ := hp
        show GW κ 4 0 0 (wX q d iX0 (up3 aX0 10 1 a2)) 33 [(3, .int 0), (0, .ref (q 0)), (1, .int a1), (2, .int a2)] []
        refine g_aload_n hk dX11_set_33 rfl ?_
        refine gX_r0_5 hk hin11 (by decide +kernel) dX11_set_34 ?_
        refine g_iconst (v := 3) hk dX11_set_37 (by decide) ?_
        refine g_iload_n hk dX11_set_38 rfl ?_
        refine g_iload_n hk dX11_set_39 rfl ?_
        refine g_callV hk (m260_X3_note l D zt d q a1 (by omega) (by omega)) (SP.same _) (fun _ h => h) gX11_set_X3_note rfl rfl rfl (by decide +kernel) ⟨Nat.le_of_ble_eq_true rfl, Nat.le_of_ble_eq_true rfl⟩ 20 rfl rfl rfl rfl (Nat.le_of_ble_eq_true rfl) ⟨Nat.le_of_ble_eq_true rfl, Nat.le_of_ble_eq_true rfl⟩ dX11_set_40 (fun v ty' w' hp hk' => ?_)
        obtain ⟨rfl, rfl⟩ := hp
        show GW κ 4 0 0 (wX q d (upd (upd iX0 20 1) 21 1) (up3 (up3 (up3 aX0 10 1 a1) 11 0 3) 12 0 a1)) 43 [(3, .int 0), (0, .ref (q 0)), (1, .int a1), (2, .int a2)] []
        refine g_iconst (v := 1) hk dX11_set_43 (by decide) ?_
        exact g_iret hk hR rfl (Or.inr (Or.inr (Or.inr (Or.inr (Or.inr (Or.inr (Or.inr (Or.inr (Or.inl ⟨c641, c642, c643, c644, c677, c678, c679, c680, rfl, rfl⟩))))))))) dX11_set_44
      · skip
        refine g_iconst (v := 0) hk dX11_set_22 (by decide) ?_
        exact g_iret hk hR rfl (Or.inr (Or.inr (Or.inr (Or.inr (Or.inr (Or.inr (Or.inr (Or.inr (Or.inr (Or.inl ⟨c641, c642, c643, c644, c677, c678, c679, c680, rfl, rfl⟩)))))))))) dX11_set_23
  · show GW κ 4 0 0 (wX q d iX0 aX0) 8 [(0, .ref (q 0)), (1, .int a1), (2, .int a2)] [.int 0]
    refine g_istore_n (lv' := [(3, .int 0), (0, .ref (q 0)), (1, .int a1), (2, .int a2)]) hk dX11_set_8 (by decide) rfl ?_
    refine g_iload_n hk dX11_set_9 rfl ?_
    refine g_iload_n hk dX11_set_10 rfl ?_
    refine g_callS hk (m261_X7_allows l D zt d q a1 a2 (by omega) (by omega)) (SP.same _) (fun _ h => h) gX11_set_X7_allows rfl rfl rfl (by decide +kernel) ⟨Nat.le_of_ble_eq_true rfl, Nat.le_of_ble_eq_true rfl⟩ rfl rfl (Nat.le_of_ble_eq_true rfl) ⟨Nat.le_of_ble_eq_true rfl, Nat.le_of_ble_eq_true rfl⟩ dX11_set_11 (fun v ty' w' hp hk' => ?_)
    rcases hp with ⟨c685, c686, rfl, rfl⟩ | ⟨c687, c688, c689, rfl, rfl⟩ | ⟨c690, c691, c692, rfl, rfl⟩
    · show GW κ 4 0 0 (wX q d iX0 aX0) 14 [(3, .int 0), (0, .ref (q 0)), (1, .int a1), (2, .int a2)] [.int 0]
      refine g_if_eq (tgt := 22) (a := 0) hk dX11_set_14 (by decide) rfl (fun _ => ?_) (fun z9 => absurd (show 0 = 0 from by decide) z9)
      refine g_iconst (v := 0) hk dX11_set_22 (by decide) ?_
      exact g_iret hk hR rfl (Or.inr (Or.inr (Or.inr (Or.inr (Or.inr (Or.inr (Or.inr (Or.inr (Or.inr (Or.inr (Or.inl ⟨c645, c646, c647, c648, c649, c685, c686, rfl, rfl⟩))))))))))) dX11_set_23
    · show GW κ 4 0 0 (wX q d iX0 aX0) 14 [(3, .int 0), (0, .ref (q 0)), (1, .int a1), (2, .int a2)] [.int 0]
      refine g_if_eq (tgt := 22) (a := 0) hk dX11_set_14 (by decide) rfl (fun _ => ?_) (fun z9 => absurd (show 0 = 0 from by decide) z9)
      refine g_iconst (v := 0) hk dX11_set_22 (by decide) ?_
      exact g_iret hk hR rfl (Or.inr (Or.inr (Or.inr (Or.inr (Or.inr (Or.inr (Or.inr (Or.inr (Or.inr (Or.inr (Or.inr (Or.inl ⟨c645, c646, c647, c648, c649, c687, c688, c689, rfl, rfl⟩)))))))))))) dX11_set_23
    · show GW κ 4 0 0 (wX q d iX0 aX0) 14 [(3, .int 0), (0, .ref (q 0)), (1, .int a1), (2, .int a2)] [.int 1]
      refine g_if_eq (tgt := 22) (a := 1) hk dX11_set_14 (by decide) rfl (fun z9 => absurd z9 (show ¬ (1 = 0) from by decide)) (fun _ => ?_)
      refine g_iload_n hk dX11_set_17 rfl ?_
      refine g_iload_n hk dX11_set_18 rfl ?_
      refine g_icmp_ne (tgt := 24) (a := 0) (b := a2.toInt) hk dX11_set_19 (by decide) rfl rfl (fun c693 => ?_) (fun c693 => ?_)
      · skip
        refine g_aload_n hk dX11_set_24 rfl ?_
        refine gX_r0_4 hk hin11 (by decide +kernel) dX11_set_25 ?_
        refine g_iload_n hk dX11_set_28 rfl ?_
        refine g_iload_n hk dX11_set_29 rfl ?_
        refine g_callV hk (m262_X7_put l D zt d q a1 a2 (by omega) (by omega) (by omega) (by omega)) (SP.same _) (fun _ h => h) gX11_set_X7_put rfl rfl rfl (by decide +kernel) ⟨Nat.le_of_ble_eq_true rfl, Nat.le_of_ble_eq_true rfl⟩ 18 rfl rfl rfl rfl (Nat.le_of_ble_eq_true rfl) ⟨Nat.le_of_ble_eq_true rfl, Nat.le_of_ble_eq_true rfl⟩ dX11_set_30 (fun v ty' w' hp hk' => ?_)
        obtain ⟨rfl, rfl⟩ := hp
        show GW κ 4 0 0 (wX q d iX0 (up3 aX0 10 2 a2)) 33 [(3, .int 0), (0, .ref (q 0)), (1, .int a1), (2, .int a2)] []
        refine g_aload_n hk dX11_set_33 rfl ?_
        refine gX_r0_5 hk hin11 (by decide +kernel) dX11_set_34 ?_
        refine g_iconst (v := 3) hk dX11_set_37 (by decide) ?_
        refine g_iload_n hk dX11_set_38 rfl ?_
        refine g_iload_n hk dX11_set_39 rfl ?_
        refine g_callV hk (m263_X3_note l D zt d q a1 (by omega) (by omega)) (SP.same _) (fun _ h => h) gX11_set_X3_note rfl rfl rfl (by decide +kernel) ⟨Nat.le_of_ble_eq_true rfl, Nat.le_of_ble_eq_true rfl⟩ 20 rfl rfl rfl rfl (Nat.le_of_ble_eq_true rfl) ⟨Nat.le_of_ble_eq_true rfl, Nat.le_of_ble_eq_true rfl⟩ dX11_set_40 (fun v ty' w' hp hk' => ?_)
        obtain ⟨rfl, rfl⟩ := hp
        show GW κ 4 0 0 (wX q d (upd (upd iX0 20 1) 21 1) (up3 (up3 (up3 aX0 10 2 a1) 11 0 3) 12 0 a1)) 43 [(3, .int 0), (0, .ref (q 0)), (1, .int a1), (2, .int a2)] []
        refine g_iconst (v := 1) hk dX11_set_43 (by decide) ?_
        exact g_iret hk hR rfl (Or.inr (Or.inr (Or.inr (Or.inr (Or.inr (Or.inr (Or.inr (Or.inr (Or.inr (Or.inr (Or.inr (Or.inr (Or.inl ⟨c645, c646, c647, c648, c649, c690, c691, c692, c693, rfl, rfl⟩))))))))))))) dX11_set_44
      · skip
        refine g_iconst (v := 0) hk dX11_set_22 (by decide) ?_
        exact g_iret hk hR rfl (Or.inr (Or.inr (Or.inr (Or.inr (Or.inr (Or.inr (Or.inr (Or.inr (Or.inr (Or.inr (Or.inr (Or.inr (Or.inr (Or.inl ⟨c645, c646, c647, c648, c649, c690, c691, c692, c693, rfl, rfl⟩)))))))))))))) dX11_set_23
  · show GW κ 4 0 0 (wX q d iX0 aX0) 8 [(0, .ref (q 0)), (1, .int a1), (2, .int a2)] [.int 8]
    refine g_istore_n (lv' := [(3, .int 8), (0, .ref (q 0)), (1, .int a1), (2, .int a2)]) hk dX11_set_8 (by decide) rfl ?_
    refine g_iload_n hk dX11_set_9 rfl ?_
    refine g_iload_n hk dX11_set_10 rfl ?_
    refine g_callS hk (m264_X7_allows l D zt d q a1 a2 (by omega) (by omega)) (SP.same _) (fun _ h => h) gX11_set_X7_allows rfl rfl rfl (by decide +kernel) ⟨Nat.le_of_ble_eq_true rfl, Nat.le_of_ble_eq_true rfl⟩ rfl rfl (Nat.le_of_ble_eq_true rfl) ⟨Nat.le_of_ble_eq_true rfl, Nat.le_of_ble_eq_true rfl⟩ dX11_set_11 (fun v ty' w' hp hk' => ?_)
    rcases hp with ⟨c698, c699, rfl, rfl⟩ | ⟨c700, c701, c702, rfl, rfl⟩ | ⟨c703, c704, c705, rfl, rfl⟩
    · show GW κ 4 0 0 (wX q d iX0 aX0) 14 [(3, .int 8), (0, .ref (q 0)), (1, .int a1), (2, .int a2)] [.int 0]
      refine g_if_eq (tgt := 22) (a := 0) hk dX11_set_14 (by decide) rfl (fun _ => ?_) (fun z9 => absurd (show 0 = 0 from by decide) z9)
      refine g_iconst (v := 0) hk dX11_set_22 (by decide) ?_
      exact g_iret hk hR rfl (Or.inr (Or.inr (Or.inr (Or.inr (Or.inr (Or.inr (Or.inr (Or.inr (Or.inr (Or.inr (Or.inr (Or.inr (Or.inr (Or.inr (Or.inl ⟨c650, c651, c652, c653, c654, c655, c698, c699, rfl, rfl⟩))))))))))))))) dX11_set_23
    · show GW κ 4 0 0 (wX q d iX0 aX0) 14 [(3, .int 8), (0, .ref (q 0)), (1, .int a1), (2, .int a2)] [.int 0]
      refine g_if_eq (tgt := 22) (a := 0) hk dX11_set_14 (by decide) rfl (fun _ => ?_) (fun z9 => absurd (show 0 = 0 from by decide) z9)
      refine g_iconst (v := 0) hk dX11_set_22 (by decide) ?_
      exact g_iret hk hR rfl (Or.inr (Or.inr (Or.inr (Or.inr (Or.inr (Or.inr (Or.inr (Or.inr (Or.inr (Or.inr (Or.inr (Or.inr (Or.inr (Or.inr (Or.inr (Or.inl ⟨c650, c651, c652, c653, c654, c655, c700, c701, c702, rfl, rfl⟩)))))))))))))))) dX11_set_23
    · show GW κ 4 0 0 (wX q d iX0 aX0) 14 [(3, .int 8), (0, .ref (q 0)), (1, .int a1), (2, .int a2)] [.int 1]
      refine g_if_eq (tgt := 22) (a := 1) hk dX11_set_14 (by decide) rfl (fun z9 => absurd z9 (show ¬ (1 = 0) from by decide)) (fun _ => ?_)
      refine g_iload_n hk dX11_set_17 rfl ?_
      refine g_iload_n hk dX11_set_18 rfl ?_
      refine g_icmp_ne (tgt := 24) (a := 8) (b := a2.toInt) hk dX11_set_19 (by decide) rfl rfl (fun c706 => ?_) (fun c706 => ?_)
      · skip
        refine g_aload_n hk dX11_set_24 rfl ?_
        refine gX_r0_4 hk hin11 (by decide +kernel) dX11_set_25 ?_
        refine g_iload_n hk dX11_set_28 rfl ?_
        refine g_iload_n hk dX11_set_29 rfl ?_
        refine g_callV hk (m265_X7_put l D zt d q a1 a2 (by omega) (by omega) (by omega) (by omega)) (SP.same _) (fun _ h => h) gX11_set_X7_put rfl rfl rfl (by decide +kernel) ⟨Nat.le_of_ble_eq_true rfl, Nat.le_of_ble_eq_true rfl⟩ 18 rfl rfl rfl rfl (Nat.le_of_ble_eq_true rfl) ⟨Nat.le_of_ble_eq_true rfl, Nat.le_of_ble_eq_true rfl⟩ dX11_set_30 (fun v ty' w' hp hk' => ?_)
        obtain ⟨rfl, rfl⟩ := hp
        show GW κ 4 0 0 (wX q d iX0 (up3 aX0 10 3 a2)) 33 [(3, .int 8), (0, .ref (q 0)), (1, .int a1), (2, .int a2)] []
        refine g_aload_n hk dX11_set_33 rfl ?_
        refine gX_r0_5 hk hin11 (by decide +kernel) dX11_set_34 ?_
        refine g_iconst (v := 3) hk dX11_set_37 (by decide) ?_
        refine g_iload_n hk dX11_set_38 rfl ?_
        refine g_iload_n hk dX11_set_39 rfl ?_
        refine g_callV hk (m266_X3_note l D zt d q a1 (by omega) (by omega)) (SP.same _) (fun _ h => h) gX11_set_X3_note rfl rfl rfl (by decide +kernel) ⟨Nat.le_of_ble_eq_true rfl, Nat.le_of_ble_eq_true rfl⟩ 20 rfl rfl rfl rfl (Nat.le_of_ble_eq_true rfl) ⟨Nat.le_of_ble_eq_true rfl, Nat.le_of_ble_eq_true rfl⟩ dX11_set_40 (fun v ty' w' hp hk' => ?_)
        obtain ⟨rfl, rfl⟩ := hp
        show GW κ 4 0 0 (wX q d (upd (upd iX0 20 1) 21 1) (up3 (up3 (up3 (up3 aX0 10 3 a1) 11 0 3) 12 0 a1) 13 0 8)) 43 [(3, .int 8), (0, .ref (q 0)), (1, .int a1), (2, .int a2)] []
        refine g_iconst (v := 1) hk dX11_set_43 (by decide) ?_
        exact g_iret hk hR rfl (Or.inr (Or.inr (Or.inr (Or.inr (Or.inr (Or.inr (Or.inr (Or.inr (Or.inr (Or.inr (Or.inr (Or.inr (Or.inr (Or.inr (Or.inr (Or.inr (Or.inl ⟨c650, c651, c652, c653, c654, c655, c703, c704, c705, c706, rfl, rfl⟩))))))))))))))))) dX11_set_44
      · skip
        refine g_iconst (v := 0) hk dX11_set_22 (by decide) ?_
        exact g_iret hk hR rfl (Or.inr (Or.inr (Or.inr (Or.inr (Or.inr (Or.inr (Or.inr (Or.inr (Or.inr (Or.inr (Or.inr (Or.inr (Or.inr (Or.inr (Or.inr (Or.inr (Or.inr (⟨c650, c651, c652, c653, c654, c655, c703, c704, c705, c706, rfl, rfl⟩)))))))))))))))))) dX11_set_23
set_option maxHeartbeats 4000000 in
set_option maxRecDepth 100000 in
theorem m268_X3_stepBack (l : Launch) (D : va_G) (zt : Nat × Nat × Nat) (d : Nat → ClassId) (q : Nat → Nat) : GM l D zt (tyX d) yX3_stepBack wsX3_stepBack ({ frames := 0, cells := 0, slots := 0, locals := 0 } : Room) [.ref (q 20)] (wX q d iX0 aX0) (fun v _ w' => v = some (.int 0) ∧ w' = wX q d iX0 aX0) 0 0 := by
  refine GM.of (cc := cX3_stepBack) (maxL := 1) (ret := (some .boolean)) (own := RX3) (lv := [(0, .ref (q 20))]) (by decide) rfl rfl (Nat.le_of_ble_eq_true rfl) rfl (fun κ sz hk hR hN => ?_)
  have hin3 : ∀ w ∈ u_ws RX3 TX3 5, w ∈ wsX3_stepBack := by decide +kernel
  refine g_aload_n hk dX3_stepBack_0 rfl ?_
  refine gX_i21 (v := 0) hk hin3 (by decide +kernel) dX3_stepBack_1 rfl ?_
  refine g_iconst (v := 1) hk dX3_stepBack_4 (by decide) ?_
  refine g_icmp_ge (tgt := 10) (a := 0) (b := 1) hk dX3_stepBack_5 (by decide) rfl rfl (fun z9 => absurd z9 (show ¬ (1 ≤ 0) from by decide)) (fun _ => ?_)
  refine g_iconst (v := 0) hk dX3_stepBack_8 (by decide) ?_
  exact g_iret hk hR rfl ⟨rfl, rfl⟩ dX3_stepBack_9
set_option maxHeartbeats 4000000 in
set_option maxRecDepth 100000 in
theorem m269_X11_undo (l : Launch) (D : va_G) (zt : Nat × Nat × Nat) (d : Nat → ClassId) (q : Nat → Nat) : GM l D zt (tyX d) yX11_undo wsX11_undo ({ frames := 1, cells := 0, slots := 0, locals := 20 } : Room) [.ref (q 0)] (wX q d iX0 aX0) (fun v _ w' => v = some (.int 0) ∧ w' = wX q d iX0 aX0) 0 0 := by
  refine GM.of (cc := cX11_undo) (maxL := 2) (ret := (some .boolean)) (own := RX11) (lv := [(0, .ref (q 0))]) (by decide) rfl rfl (Nat.le_of_ble_eq_true rfl) rfl (fun κ sz hk hR hN => ?_)
  have hin11 : ∀ w ∈ u_ws RX11 TX11 10, w ∈ wsX11_undo := by decide +kernel
  refine g_aload_n hk dX11_undo_0 rfl ?_
  refine gX_r0_5 hk hin11 (by decide +kernel) dX11_undo_1 ?_
  refine g_callV hk (m268_X3_stepBack l D zt d q) (SP.same _) (fun _ h => h) gX11_undo_X3_stepBack rfl rfl rfl (by decide +kernel) ⟨Nat.le_of_ble_eq_true rfl, Nat.le_of_ble_eq_true rfl⟩ 20 rfl rfl rfl rfl (Nat.le_of_ble_eq_true rfl) ⟨Nat.le_of_ble_eq_true rfl, Nat.le_of_ble_eq_true rfl⟩ dX11_undo_4 (fun v ty' w' hp hk' => ?_)
  obtain ⟨rfl, rfl⟩ := hp
  show GW κ 2 0 0 (wX q d iX0 aX0) 7 [(0, .ref (q 0))] [.int 0]
  refine g_if_ne (tgt := 12) (a := 0) hk dX11_undo_7 (by decide) rfl (fun z9 => absurd z9 (show ¬ (0 ≠ 0) from by decide)) (fun _ => ?_)
  refine g_iconst (v := 0) hk dX11_undo_10 (by decide) ?_
  exact g_iret hk hR rfl ⟨rfl, rfl⟩ dX11_undo_11
set_option maxHeartbeats 4000000 in
set_option maxRecDepth 100000 in
theorem m270_X6_hasWindow (l : Launch) (D : va_G) (zt : Nat × Nat × Nat) (d : Nat → ClassId) (q : Nat → Nat) (a1 : Int32) (a2 : Int32) (h0 : 1 ≤ a2.toInt) : GM l D zt (tyX d) yX6_hasWindow wsX6_hasWindow ({ frames := 0, cells := 0, slots := 0, locals := 0 } : Room) [.ref (q 13), .int a1, .int a2] (wX q d iX0 aX0) (fun v _ w' => v = some (.int 0) ∧ w' = wX q d iX0 aX0) 0 0 := by
  refine GM.of (cc := cX6_hasWindow) (maxL := 4) (ret := (some .boolean)) (own := RX6) (lv := [(0, .ref (q 13)), (1, .int a1), (2, .int a2)]) (by decide) rfl rfl (Nat.le_of_ble_eq_true rfl) rfl (fun κ sz hk hR hN => ?_)
  have hin6 : ∀ w ∈ u_ws RX6 TX6 3, w ∈ wsX6_hasWindow := by decide +kernel
  refine g_iload_n hk dX6_hasWindow_0 rfl ?_
  refine g_if_lt (tgt := 27) (a := a1.toInt) hk dX6_hasWindow_1 (by decide) rfl (fun c709 => ?_) (fun c709 => ?_)
  · skip
    refine g_iconst (v := 0) hk dX6_hasWindow_27 (by decide) ?_
    exact g_iret hk hR rfl ⟨rfl, rfl⟩ dX6_hasWindow_28
  · skip
    refine g_iload_n hk dX6_hasWindow_4 rfl ?_
    refine g_aload_n hk dX6_hasWindow_5 rfl ?_
    refine gX_i18 (v := 0) hk hin6 (by decide +kernel) dX6_hasWindow_6 rfl ?_
    refine g_icmp_ge (tgt := 27) (a := a1.toInt) (b := 0) hk dX6_hasWindow_9 (by decide) rfl rfl (fun _ => ?_) (fun z9 => absurd (show 0 ≤ a1.toInt from by omega) z9)
    refine g_iconst (v := 0) hk dX6_hasWindow_27 (by decide) ?_
    exact g_iret hk hR rfl ⟨rfl, rfl⟩ dX6_hasWindow_28
set_option maxHeartbeats 4000000 in
set_option maxRecDepth 100000 in
theorem m271_X11_window (l : Launch) (D : va_G) (zt : Nat × Nat × Nat) (d : Nat → ClassId) (q : Nat → Nat) (a1 : Int32) (a2 : Int32) (a3 : Int32) : GM l D zt (tyX d) yX11_window wsX11_window ({ frames := 1, cells := 0, slots := 0, locals := 23 } : Room) [.ref (q 0), .int a1, .int a2, .int a3] (wX q d iX0 aX0) (fun v _ w' => v = some (.int (-1000000)) ∧ w' = wX q d iX0 aX0) 0 0 := by
  refine GM.of (cc := cX11_window) (maxL := 4) (ret := (some .int)) (own := RX11) (lv := [(0, .ref (q 0)), (1, .int a1), (2, .int a2), (3, .int a3)]) (by decide) rfl rfl (Nat.le_of_ble_eq_true rfl) rfl (fun κ sz hk hR hN => ?_)
  have hin11 : ∀ w ∈ u_ws RX11 TX11 10, w ∈ wsX11_window := by decide +kernel
  refine g_iload_n hk dX11_window_0 rfl ?_
  refine g_iconst (v := 1) hk dX11_window_1 (by decide) ?_
  refine g_icmp_lt (tgt := 17) (a := a2.toInt) (b := 1) hk dX11_window_2 (by decide) rfl rfl (fun c708 => ?_) (fun c708 => ?_)
  · skip
    refine g_ldc (v := (-1000000)) hk (by decide +kernel) dX11_window_17 ?_
    exact g_iret hk hR rfl ⟨rfl, rfl⟩ dX11_window_19
  · skip
    refine g_aload_n hk dX11_window_5 rfl ?_
    refine gX_r0_2 hk hin11 (by decide +kernel) dX11_window_6 ?_
    refine g_iload_n hk dX11_window_9 rfl ?_
    refine g_iload_n hk dX11_window_10 rfl ?_
    refine g_callV hk (m270_X6_hasWindow l D zt d q a1 a2 (by omega)) (SP.same _) (fun _ h => h) gX11_window_X6_hasWindow rfl rfl rfl (by decide +kernel) ⟨Nat.le_of_ble_eq_true rfl, Nat.le_of_ble_eq_true rfl⟩ 13 rfl rfl rfl rfl (Nat.le_of_ble_eq_true rfl) ⟨Nat.le_of_ble_eq_true rfl, Nat.le_of_ble_eq_true rfl⟩ dX11_window_11 (fun v ty' w' hp hk' => ?_)
    obtain ⟨rfl, rfl⟩ := hp
    show GW κ 4 0 0 (wX q d iX0 aX0) 14 [(0, .ref (q 0)), (1, .int a1), (2, .int a2), (3, .int a3)] [.int 0]
    refine g_if_ne (tgt := 20) (a := 0) hk dX11_window_14 (by decide) rfl (fun z9 => absurd z9 (show ¬ (0 ≠ 0) from by decide)) (fun _ => ?_)
    refine g_ldc (v := (-1000000)) hk (by decide +kernel) dX11_window_17 ?_
    exact g_iret hk hR rfl ⟨rfl, rfl⟩ dX11_window_19
set_option maxHeartbeats 4000000 in
set_option maxRecDepth 100000 in
theorem m272_X11_isStretch (l : Launch) (D : va_G) (zt : Nat × Nat × Nat) (d : Nat → ClassId) (q : Nat → Nat) (a0 : Int32) : GM l D zt (tyX d) yX11_isStretch wsX11_isStretch ({ frames := 0, cells := 0, slots := 0, locals := 0 } : Room) [.int a0] (wX q d iX0 aX0) (fun v _ w' => ((a0.toInt < 2) ∧ v = some (.int 0) ∧ w' = wX q d iX0 aX0) ∨ ((¬ (a0.toInt < 2)) ∧ (16 < a0.toInt) ∧ v = some (.int 0) ∧ w' = wX q d iX0 aX0) ∨ ((¬ (a0.toInt < 2)) ∧ (¬ (16 < a0.toInt)) ∧ v = some (.int 1) ∧ w' = wX q d iX0 aX0)) 0 0 := by
  refine GM.of (cc := cX11_isStretch) (maxL := 1) (ret := (some .boolean)) (own := RX11) (lv := [(0, .int a0)]) (by decide) rfl rfl (Nat.le_of_ble_eq_true rfl) rfl (fun κ sz hk hR hN => ?_)
  refine g_iload_n hk dX11_isStretch_0 rfl ?_
  refine g_iconst (v := 2) hk dX11_isStretch_1 (by decide) ?_
  refine g_icmp_lt (tgt := 15) (a := a0.toInt) (b := 2) hk dX11_isStretch_2 (by decide) rfl rfl (fun c710 => ?_) (fun c710 => ?_)
  · skip
    refine g_iconst (v := 0) hk dX11_isStretch_15 (by decide) ?_
    exact g_iret hk hR rfl (Or.inl ⟨c710, rfl, rfl⟩) dX11_isStretch_16
  · skip
    refine g_iload_n hk dX11_isStretch_5 rfl ?_
    refine g_bipush (v := 16) hk dX11_isStretch_6 (by decide) ?_
    refine g_icmp_gt (tgt := 15) (a := a0.toInt) (b := 16) hk dX11_isStretch_8 (by decide) rfl rfl (fun c711 => ?_) (fun c711 => ?_)
    · skip
      refine g_iconst (v := 0) hk dX11_isStretch_15 (by decide) ?_
      exact g_iret hk hR rfl (Or.inr (Or.inl ⟨c710, c711, rfl, rfl⟩)) dX11_isStretch_16
    · skip
      refine g_iconst (v := 1) hk dX11_isStretch_11 (by decide) ?_
      refine g_goto (tgt := 16) hk dX11_isStretch_12 (by decide) ?_
      exact g_iret hk hR rfl (Or.inr (Or.inr (⟨c710, c711, rfl, rfl⟩))) dX11_isStretch_16
set_option maxHeartbeats 4000000 in
set_option maxRecDepth 100000 in
theorem m273_X6_hasWindow (l : Launch) (D : va_G) (zt : Nat × Nat × Nat) (d : Nat → ClassId) (q : Nat → Nat) (a1 : Int32) (a2 : Int32) (h0 : 2 ≤ a2.toInt) (h1 : a2.toInt ≤ 16) : GM l D zt (tyX d) yX6_hasWindow wsX6_hasWindow ({ frames := 0, cells := 0, slots := 0, locals := 0 } : Room) [.ref (q 13), .int a1, .int a2] (wX q d iX0 aX0) (fun v _ w' => v = some (.int 0) ∧ w' = wX q d iX0 aX0) 0 0 := by
  refine GM.of (cc := cX6_hasWindow) (maxL := 4) (ret := (some .boolean)) (own := RX6) (lv := [(0, .ref (q 13)), (1, .int a1), (2, .int a2)]) (by decide) rfl rfl (Nat.le_of_ble_eq_true rfl) rfl (fun κ sz hk hR hN => ?_)
  have hin6 : ∀ w ∈ u_ws RX6 TX6 3, w ∈ wsX6_hasWindow := by decide +kernel
  refine g_iload_n hk dX6_hasWindow_0 rfl ?_
  refine g_if_lt (tgt := 27) (a := a1.toInt) hk dX6_hasWindow_1 (by decide) rfl (fun c719 => ?_) (fun c719 => ?_)
  · skip
    refine g_iconst (v := 0) hk dX6_hasWindow_27 (by decide) ?_
    exact g_iret hk hR rfl ⟨rfl, rfl⟩ dX6_hasWindow_28
  · skip
    refine g_iload_n hk dX6_hasWindow_4 rfl ?_
    refine g_aload_n hk dX6_hasWindow_5 rfl ?_
    refine gX_i18 (v := 0) hk hin6 (by decide +kernel) dX6_hasWindow_6 rfl ?_
    refine g_icmp_ge (tgt := 27) (a := a1.toInt) (b := 0) hk dX6_hasWindow_9 (by decide) rfl rfl (fun _ => ?_) (fun z9 => absurd (show 0 ≤ a1.toInt from by omega) z9)
    refine g_iconst (v := 0) hk dX6_hasWindow_27 (by decide) ?_
    exact g_iret hk hR rfl ⟨rfl, rfl⟩ dX6_hasWindow_28
set_option maxHeartbeats 4000000 in
set_option maxRecDepth 100000 in
theorem m274_X11_level (l : Launch) (D : va_G) (zt : Nat × Nat × Nat) (d : Nat → ClassId) (q : Nat → Nat) (a1 : Int32) (a2 : Int32) (a3 : Int32) : GM l D zt (tyX d) yX11_level wsX11_level ({ frames := 1, cells := 0, slots := 0, locals := 23 } : Room) [.ref (q 0), .int a1, .int a2, .int a3] (wX q d iX0 aX0) (fun v _ w' => v = some (.int (-1000000)) ∧ w' = wX q d iX0 aX0) 0 0 := by
  refine GM.of (cc := cX11_level) (maxL := 4) (ret := (some .int)) (own := RX11) (lv := [(0, .ref (q 0)), (1, .int a1), (2, .int a2), (3, .int a3)]) (by decide) rfl rfl (Nat.le_of_ble_eq_true rfl) rfl (fun κ sz hk hR hN => ?_)
  have hin11 : ∀ w ∈ u_ws RX11 TX11 10, w ∈ wsX11_level := by decide +kernel
  refine g_iload_n hk dX11_level_0 rfl ?_
  refine g_callS hk (m272_X11_isStretch l D zt d q a2) (SP.same _) (fun _ h => h) gX11_level_X11_isStretch rfl rfl rfl (by decide +kernel) ⟨Nat.le_of_ble_eq_true rfl, Nat.le_of_ble_eq_true rfl⟩ rfl rfl (Nat.le_of_ble_eq_true rfl) ⟨Nat.le_of_ble_eq_true rfl, Nat.le_of_ble_eq_true rfl⟩ dX11_level_1 (fun v ty' w' hp hk' => ?_)
  rcases hp with ⟨c712, rfl, rfl⟩ | ⟨c713, c714, rfl, rfl⟩ | ⟨c715, c716, rfl, rfl⟩
  · show GW κ 4 0 0 (wX q d iX0 aX0) 4 [(0, .ref (q 0)), (1, .int a1), (2, .int a2), (3, .int a3)] [.int 0]
    refine g_if_eq (tgt := 28) (a := 0) hk dX11_level_4 (by decide) rfl (fun _ => ?_) (fun z9 => absurd (show 0 = 0 from by decide) z9)
    refine g_ldc (v := (-1000000)) hk (by decide +kernel) dX11_level_28 ?_
    exact g_iret hk hR rfl ⟨rfl, rfl⟩ dX11_level_30
  · show GW κ 4 0 0 (wX q d iX0 aX0) 4 [(0, .ref (q 0)), (1, .int a1), (2, .int a2), (3, .int a3)] [.int 0]
    refine g_if_eq (tgt := 28) (a := 0) hk dX11_level_4 (by decide) rfl (fun _ => ?_) (fun z9 => absurd (show 0 = 0 from by decide) z9)
    refine g_ldc (v := (-1000000)) hk (by decide +kernel) dX11_level_28 ?_
    exact g_iret hk hR rfl ⟨rfl, rfl⟩ dX11_level_30
  · show GW κ 4 0 0 (wX q d iX0 aX0) 4 [(0, .ref (q 0)), (1, .int a1), (2, .int a2), (3, .int a3)] [.int 1]
    refine g_if_eq (tgt := 28) (a := 1) hk dX11_level_4 (by decide) rfl (fun z9 => absurd z9 (show ¬ (1 = 0) from by decide)) (fun _ => ?_)
    refine g_iload_n hk dX11_level_7 rfl ?_
    refine g_if_lt (tgt := 28) (a := a3.toInt) hk dX11_level_8 (by decide) rfl (fun c717 => ?_) (fun c717 => ?_)
    · skip
      refine g_ldc (v := (-1000000)) hk (by decide +kernel) dX11_level_28 ?_
      exact g_iret hk hR rfl ⟨rfl, rfl⟩ dX11_level_30
    · skip
      refine g_iload_n hk dX11_level_11 rfl ?_
      refine g_iload_n hk dX11_level_12 rfl ?_
      refine g_icmp_ge (tgt := 28) (a := a3.toInt) (b := a2.toInt) hk dX11_level_13 (by decide) rfl rfl (fun c718 => ?_) (fun c718 => ?_)
      · skip
        refine g_ldc (v := (-1000000)) hk (by decide +kernel) dX11_level_28 ?_
        exact g_iret hk hR rfl ⟨rfl, rfl⟩ dX11_level_30
      · skip
        refine g_aload_n hk dX11_level_16 rfl ?_
        refine gX_r0_2 hk hin11 (by decide +kernel) dX11_level_17 ?_
        refine g_iload_n hk dX11_level_20 rfl ?_
        refine g_iload_n hk dX11_level_21 rfl ?_
        refine g_callV hk (m273_X6_hasWindow l D zt d q a1 a2 (by omega) (by omega)) (SP.same _) (fun _ h => h) gX11_level_X6_hasWindow rfl rfl rfl (by decide +kernel) ⟨Nat.le_of_ble_eq_true rfl, Nat.le_of_ble_eq_true rfl⟩ 13 rfl rfl rfl rfl (Nat.le_of_ble_eq_true rfl) ⟨Nat.le_of_ble_eq_true rfl, Nat.le_of_ble_eq_true rfl⟩ dX11_level_22 (fun v ty' w' hp hk' => ?_)
        obtain ⟨rfl, rfl⟩ := hp
        show GW κ 4 0 0 (wX q d iX0 aX0) 25 [(0, .ref (q 0)), (1, .int a1), (2, .int a2), (3, .int a3)] [.int 0]
        refine g_if_ne (tgt := 31) (a := 0) hk dX11_level_25 (by decide) rfl (fun z9 => absurd z9 (show ¬ (0 ≠ 0) from by decide)) (fun _ => ?_)
        refine g_ldc (v := (-1000000)) hk (by decide +kernel) dX11_level_28 ?_
        exact g_iret hk hR rfl ⟨rfl, rfl⟩ dX11_level_30
set_option maxHeartbeats 4000000 in
set_option maxRecDepth 100000 in
theorem m275_X0_hasBoth (l : Launch) (D : va_G) (zt : Nat × Nat × Nat) (d : Nat → ClassId) (q : Nat → Nat) (a1 : Int32) (a2 : Int32) : GM l D zt (tyX d) yX0_hasBoth wsX0_hasBoth ({ frames := 1, cells := 0, slots := 0, locals := 21 } : Room) [.ref (q 37), .int a1, .int a2] (wX q d iX0 aX0) (fun v _ w' => v = some (.int 0) ∧ w' = wX q d iX0 aX0) 0 0 := by
  refine GM.of (cc := cX0_hasBoth) (maxL := 3) (ret := (some .boolean)) (own := RX0) (lv := [(0, .ref (q 37)), (1, .int a1), (2, .int a2)]) (by decide) rfl rfl (Nat.le_of_ble_eq_true rfl) rfl (fun κ sz hk hR hN => ?_)
  have hin0 : ∀ w ∈ u_ws RX0 TX0 5, w ∈ wsX0_hasBoth := by decide +kernel
  refine g_aload_n hk dX0_hasBoth_0 rfl ?_
  refine gX_r37_1 hk hin0 (by decide +kernel) dX0_hasBoth_1 ?_
  refine g_iload_n hk dX0_hasBoth_4 rfl ?_
  refine g_callV hk (m237_X4_has l D zt d q a1) (SP.same _) (fun _ h => h) gX0_hasBoth_X4_has rfl rfl rfl (by decide +kernel) ⟨Nat.le_of_ble_eq_true rfl, Nat.le_of_ble_eq_true rfl⟩ 15 rfl rfl rfl rfl (Nat.le_of_ble_eq_true rfl) ⟨Nat.le_of_ble_eq_true rfl, Nat.le_of_ble_eq_true rfl⟩ dX0_hasBoth_5 (fun v ty' w' hp hk' => ?_)
  obtain ⟨rfl, rfl⟩ := hp
  show GW κ 3 0 0 (wX q d iX0 aX0) 8 [(0, .ref (q 37)), (1, .int a1), (2, .int a2)] [.int 0]
  refine g_if_eq (tgt := 34) (a := 0) hk dX0_hasBoth_8 (by decide) rfl (fun _ => ?_) (fun z9 => absurd (show 0 = 0 from by decide) z9)
  refine g_iconst (v := 0) hk dX0_hasBoth_34 (by decide) ?_
  exact g_iret hk hR rfl ⟨rfl, rfl⟩ dX0_hasBoth_35
set_option maxHeartbeats 4000000 in
set_option maxRecDepth 100000 in
theorem m276_X0_openBoth (l : Launch) (D : va_G) (zt : Nat × Nat × Nat) (d : Nat → ClassId) (q : Nat → Nat) (a1 : Int32) (a2 : Int32) : GM l D zt (tyX d) yX0_openBoth wsX0_openBoth ({ frames := 2, cells := 0, slots := 0, locals := 43 } : Room) [.ref (q 37), .int a1, .int a2] (wX q d iX0 aX0) (fun v _ w' => v = some (.int 0) ∧ w' = wX q d iX0 aX0) 0 0 := by
  refine GM.of (cc := cX0_openBoth) (maxL := 3) (ret := (some .boolean)) (own := RX0) (lv := [(0, .ref (q 37)), (1, .int a1), (2, .int a2)]) (by decide) rfl rfl (Nat.le_of_ble_eq_true rfl) rfl (fun κ sz hk hR hN => ?_)
  refine g_aload_n hk dX0_openBoth_0 rfl ?_
  refine g_iload_n hk dX0_openBoth_1 rfl ?_
  refine g_iload_n hk dX0_openBoth_2 rfl ?_
  refine g_callV hk (m275_X0_hasBoth l D zt d q a1 a2) (SP.same _) (fun _ h => h) gX0_openBoth_X0_hasBoth rfl rfl rfl (by decide +kernel) ⟨Nat.le_of_ble_eq_true rfl, Nat.le_of_ble_eq_true rfl⟩ 37 rfl rfl rfl rfl (Nat.le_of_ble_eq_true rfl) ⟨Nat.le_of_ble_eq_true rfl, Nat.le_of_ble_eq_true rfl⟩ dX0_openBoth_3 (fun v ty' w' hp hk' => ?_)
  obtain ⟨rfl, rfl⟩ := hp
  show GW κ 3 0 0 (wX q d iX0 aX0) 6 [(0, .ref (q 37)), (1, .int a1), (2, .int a2)] [.int 0]
  refine g_if_ne (tgt := 11) (a := 0) hk dX0_openBoth_6 (by decide) rfl (fun z9 => absurd z9 (show ¬ (0 ≠ 0) from by decide)) (fun _ => ?_)
  refine g_iconst (v := 0) hk dX0_openBoth_9 (by decide) ?_
  exact g_iret hk hR rfl ⟨rfl, rfl⟩ dX0_openBoth_10
set_option maxHeartbeats 4000000 in
set_option maxRecDepth 100000 in
theorem m277_X11_distance (l : Launch) (D : va_G) (zt : Nat × Nat × Nat) (d : Nat → ClassId) (q : Nat → Nat) (a1 : Int32) (a2 : Int32) : GM l D zt (tyX d) yX11_distance wsX11_distance ({ frames := 3, cells := 0, slots := 0, locals := 65 } : Room) [.ref (q 0), .int a1, .int a2] (wX q d iX0 aX0) (fun v _ w' => v = some (.int (-1)) ∧ w' = wX q d iX0 aX0) 0 0 := by
  refine GM.of (cc := cX11_distance) (maxL := 3) (ret := (some .int)) (own := RX11) (lv := [(0, .ref (q 0)), (1, .int a1), (2, .int a2)]) (by decide) rfl rfl (Nat.le_of_ble_eq_true rfl) rfl (fun κ sz hk hR hN => ?_)
  have hin11 : ∀ w ∈ u_ws RX11 TX11 10, w ∈ wsX11_distance := by decide +kernel
  refine g_aload_n hk dX11_distance_0 rfl ?_
  refine gX_r0_7 hk hin11 (by decide +kernel) dX11_distance_1 ?_
  refine g_iload_n hk dX11_distance_4 rfl ?_
  refine g_iload_n hk dX11_distance_5 rfl ?_
  refine g_callV hk (m276_X0_openBoth l D zt d q a1 a2) (SP.same _) (fun _ h => h) gX11_distance_X0_openBoth rfl rfl rfl (by decide +kernel) ⟨Nat.le_of_ble_eq_true rfl, Nat.le_of_ble_eq_true rfl⟩ 37 rfl rfl rfl rfl (Nat.le_of_ble_eq_true rfl) ⟨Nat.le_of_ble_eq_true rfl, Nat.le_of_ble_eq_true rfl⟩ dX11_distance_6 (fun v ty' w' hp hk' => ?_)
  obtain ⟨rfl, rfl⟩ := hp
  show GW κ 3 0 0 (wX q d iX0 aX0) 9 [(0, .ref (q 0)), (1, .int a1), (2, .int a2)] [.int 0]
  refine g_if_eq (tgt := 25) (a := 0) hk dX11_distance_9 (by decide) rfl (fun _ => ?_) (fun z9 => absurd (show 0 = 0 from by decide) z9)
  refine g_iconst (v := (-1)) hk dX11_distance_25 (by decide) ?_
  exact g_iret hk hR rfl ⟨rfl, rfl⟩ dX11_distance_26
set_option maxHeartbeats 4000000 in
set_option maxRecDepth 100000 in
theorem m278_X11_bound (l : Launch) (D : va_G) (zt : Nat × Nat × Nat) (d : Nat → ClassId) (q : Nat → Nat) (a1 : Int32) (a2 : Int32) (a3 : Int32) : GM l D zt (tyX d) yX11_bound wsX11_bound ({ frames := 3, cells := 0, slots := 0, locals := 65 } : Room) [.ref (q 0), .int a1, .int a2, .int a3] (wX q d iX0 aX0) (fun v _ w' => v = some (.int (-1)) ∧ w' = wX q d iX0 aX0) 0 0 := by
  refine GM.of (cc := cX11_bound) (maxL := 4) (ret := (some .int)) (own := RX11) (lv := [(0, .ref (q 0)), (1, .int a1), (2, .int a2), (3, .int a3)]) (by decide) rfl rfl (Nat.le_of_ble_eq_true rfl) rfl (fun κ sz hk hR hN => ?_)
  have hin11 : ∀ w ∈ u_ws RX11 TX11 10, w ∈ wsX11_bound := by decide +kernel
  refine g_aload_n hk dX11_bound_0 rfl ?_
  refine gX_r0_7 hk hin11 (by decide +kernel) dX11_bound_1 ?_
  refine g_iload_n hk dX11_bound_4 rfl ?_
  refine g_iload_n hk dX11_bound_5 rfl ?_
  refine g_callV hk (m276_X0_openBoth l D zt d q a1 a2) (SP.same _) (fun _ h => h) gX11_bound_X0_openBoth rfl rfl rfl (by decide +kernel) ⟨Nat.le_of_ble_eq_true rfl, Nat.le_of_ble_eq_true rfl⟩ 37 rfl rfl rfl rfl (Nat.le_of_ble_eq_true rfl) ⟨Nat.le_of_ble_eq_true rfl, Nat.le_of_ble_eq_true rfl⟩ dX11_bound_6 (fun v ty' w' hp hk' => ?_)
  obtain ⟨rfl, rfl⟩ := hp
  show GW κ 4 0 0 (wX q d iX0 aX0) 9 [(0, .ref (q 0)), (1, .int a1), (2, .int a2), (3, .int a3)] [.int 0]
  refine g_if_ne (tgt := 14) (a := 0) hk dX11_bound_9 (by decide) rfl (fun z9 => absurd z9 (show ¬ (0 ≠ 0) from by decide)) (fun _ => ?_)
  refine g_iconst (v := (-1)) hk dX11_bound_12 (by decide) ?_
  exact g_iret hk hR rfl ⟨rfl, rfl⟩ dX11_bound_13
set_option maxHeartbeats 4000000 in
set_option maxRecDepth 100000 in
theorem m279_X11_look (l : Launch) (D : va_G) (zt : Nat × Nat × Nat) (d : Nat → ClassId) (q : Nat → Nat) (a1 : Int32) (a2 : Int32) (a3 : Int32) (a4 : Int32) : GM l D zt (tyX d) yX11_look wsX11_look ({ frames := 3, cells := 0, slots := 0, locals := 65 } : Room) [.ref (q 0), .int a1, .int a2, .int a3, .int a4] (wX q d iX0 aX0) (fun v _ w' => v = some (.int (-1)) ∧ w' = wX q d iX0 aX0) 0 0 := by
  refine GM.of (cc := cX11_look) (maxL := 6) (ret := (some .int)) (own := RX11) (lv := [(0, .ref (q 0)), (1, .int a1), (2, .int a2), (3, .int a3), (4, .int a4)]) (by decide) rfl rfl (Nat.le_of_ble_eq_true rfl) rfl (fun κ sz hk hR hN => ?_)
  have hin11 : ∀ w ∈ u_ws RX11 TX11 10, w ∈ wsX11_look := by decide +kernel
  refine g_iload_n hk dX11_look_0 rfl ?_
  refine g_if_lt (tgt := 27) (a := a3.toInt) hk dX11_look_1 (by decide) rfl (fun c720 => ?_) (fun c720 => ?_)
  · skip
    refine g_iconst (v := (-1)) hk dX11_look_27 (by decide) ?_
    exact g_iret hk hR rfl ⟨rfl, rfl⟩ dX11_look_28
  · skip
    refine g_iload hk dX11_look_4 rfl ?_
    refine g_if_lt (tgt := 27) (a := a4.toInt) hk dX11_look_6 (by decide) rfl (fun c721 => ?_) (fun c721 => ?_)
    · skip
      refine g_iconst (v := (-1)) hk dX11_look_27 (by decide) ?_
      exact g_iret hk hR rfl ⟨rfl, rfl⟩ dX11_look_28
    · skip
      refine g_iload hk dX11_look_9 rfl ?_
      refine g_iconst (v := 2) hk dX11_look_11 (by decide) ?_
      refine g_icmp_gt (tgt := 27) (a := a4.toInt) (b := 2) hk dX11_look_12 (by decide) rfl rfl (fun c722 => ?_) (fun c722 => ?_)
      · skip
        refine g_iconst (v := (-1)) hk dX11_look_27 (by decide) ?_
        exact g_iret hk hR rfl ⟨rfl, rfl⟩ dX11_look_28
      · skip
        refine g_aload_n hk dX11_look_15 rfl ?_
        refine gX_r0_7 hk hin11 (by decide +kernel) dX11_look_16 ?_
        refine g_iload_n hk dX11_look_19 rfl ?_
        refine g_iload_n hk dX11_look_20 rfl ?_
        refine g_callV hk (m276_X0_openBoth l D zt d q a1 a2) (SP.same _) (fun _ h => h) gX11_look_X0_openBoth rfl rfl rfl (by decide +kernel) ⟨Nat.le_of_ble_eq_true rfl, Nat.le_of_ble_eq_true rfl⟩ 37 rfl rfl rfl rfl (Nat.le_of_ble_eq_true rfl) ⟨Nat.le_of_ble_eq_true rfl, Nat.le_of_ble_eq_true rfl⟩ dX11_look_21 (fun v ty' w' hp hk' => ?_)
        obtain ⟨rfl, rfl⟩ := hp
        show GW κ 6 0 0 (wX q d iX0 aX0) 24 [(0, .ref (q 0)), (1, .int a1), (2, .int a2), (3, .int a3), (4, .int a4)] [.int 0]
        refine g_if_ne (tgt := 29) (a := 0) hk dX11_look_24 (by decide) rfl (fun z9 => absurd z9 (show ¬ (0 ≠ 0) from by decide)) (fun _ => ?_)
        refine g_iconst (v := (-1)) hk dX11_look_27 (by decide) ?_
        exact g_iret hk hR rfl ⟨rfl, rfl⟩ dX11_look_28
set_option maxHeartbeats 4000000 in
set_option maxRecDepth 100000 in
theorem m280_X11_best (l : Launch) (D : va_G) (zt : Nat × Nat × Nat) (d : Nat → ClassId) (q : Nat → Nat) (a1 : Int32) (a2 : Int32) : GM l D zt (tyX d) yX11_best wsX11_best ({ frames := 1, cells := 0, slots := 0, locals := 21 } : Room) [.ref (q 0), .int a1, .int a2] (wX q d iX0 aX0) (fun v _ w' => v = some (.int (-1)) ∧ w' = wX q d iX0 aX0) 0 0 := by
  refine GM.of (cc := cX11_best) (maxL := 3) (ret := (some .int)) (own := RX11) (lv := [(0, .ref (q 0)), (1, .int a1), (2, .int a2)]) (by decide) rfl rfl (Nat.le_of_ble_eq_true rfl) rfl (fun κ sz hk hR hN => ?_)
  have hin11 : ∀ w ∈ u_ws RX11 TX11 10, w ∈ wsX11_best := by decide +kernel
  refine g_iload_n hk dX11_best_0 rfl ?_
  refine g_if_lt (tgt := 20) (a := a2.toInt) hk dX11_best_1 (by decide) rfl (fun c723 => ?_) (fun c723 => ?_)
  · skip
    refine g_iconst (v := (-1)) hk dX11_best_20 (by decide) ?_
    exact g_iret hk hR rfl ⟨rfl, rfl⟩ dX11_best_21
  · skip
    refine g_iload_n hk dX11_best_4 rfl ?_
    refine g_iconst (v := 1) hk dX11_best_5 (by decide) ?_
    refine g_icmp_gt (tgt := 20) (a := a2.toInt) (b := 1) hk dX11_best_6 (by decide) rfl rfl (fun c724 => ?_) (fun c724 => ?_)
    · skip
      refine g_iconst (v := (-1)) hk dX11_best_20 (by decide) ?_
      exact g_iret hk hR rfl ⟨rfl, rfl⟩ dX11_best_21
    · skip
      refine g_aload_n hk dX11_best_9 rfl ?_
      refine gX_r0_3 hk hin11 (by decide +kernel) dX11_best_10 ?_
      refine g_iload_n hk dX11_best_13 rfl ?_
      refine g_callV hk (m237_X4_has l D zt d q a1) (SP.same _) (fun _ h => h) gX11_best_X4_has rfl rfl rfl (by decide +kernel) ⟨Nat.le_of_ble_eq_true rfl, Nat.le_of_ble_eq_true rfl⟩ 15 rfl rfl rfl rfl (Nat.le_of_ble_eq_true rfl) ⟨Nat.le_of_ble_eq_true rfl, Nat.le_of_ble_eq_true rfl⟩ dX11_best_14 (fun v ty' w' hp hk' => ?_)
      obtain ⟨rfl, rfl⟩ := hp
      show GW κ 3 0 0 (wX q d iX0 aX0) 17 [(0, .ref (q 0)), (1, .int a1), (2, .int a2)] [.int 0]
      refine g_if_ne (tgt := 22) (a := 0) hk dX11_best_17 (by decide) rfl (fun z9 => absurd z9 (show ¬ (0 ≠ 0) from by decide)) (fun _ => ?_)
      refine g_iconst (v := (-1)) hk dX11_best_20 (by decide) ?_
      exact g_iret hk hR rfl ⟨rfl, rfl⟩ dX11_best_21
set_option maxHeartbeats 4000000 in
set_option maxRecDepth 100000 in
theorem m281_X11_search (l : Launch) (D : va_G) (zt : Nat × Nat × Nat) (d : Nat → ClassId) (q : Nat → Nat) (a1 : Int32) (a2 : Int32) : GM l D zt (tyX d) yX11_search wsX11_search ({ frames := 1, cells := 0, slots := 0, locals := 21 } : Room) [.ref (q 0), .int a1, .int a2] (wX q d iX0 aX0) (fun v _ w' => v = some (.int (-1)) ∧ w' = wX q d iX0 aX0) 0 0 := by
  refine GM.of (cc := cX11_search) (maxL := 3) (ret := (some .int)) (own := RX11) (lv := [(0, .ref (q 0)), (1, .int a1), (2, .int a2)]) (by decide) rfl rfl (Nat.le_of_ble_eq_true rfl) rfl (fun κ sz hk hR hN => ?_)
  have hin11 : ∀ w ∈ u_ws RX11 TX11 10, w ∈ wsX11_search := by decide +kernel
  refine g_iload_n hk dX11_search_0 rfl ?_
  refine g_if_lt (tgt := 21) (a := a2.toInt) hk dX11_search_1 (by decide) rfl (fun c725 => ?_) (fun c725 => ?_)
  · skip
    refine g_iconst (v := (-1)) hk dX11_search_21 (by decide) ?_
    exact g_iret hk hR rfl ⟨rfl, rfl⟩ dX11_search_22
  · skip
    refine g_iload_n hk dX11_search_4 rfl ?_
    refine g_bipush (v := 9) hk dX11_search_5 (by decide) ?_
    refine g_icmp_ge (tgt := 21) (a := a2.toInt) (b := 9) hk dX11_search_7 (by decide) rfl rfl (fun c726 => ?_) (fun c726 => ?_)
    · skip
      refine g_iconst (v := (-1)) hk dX11_search_21 (by decide) ?_
      exact g_iret hk hR rfl ⟨rfl, rfl⟩ dX11_search_22
    · skip
      refine g_aload_n hk dX11_search_10 rfl ?_
      refine gX_r0_3 hk hin11 (by decide +kernel) dX11_search_11 ?_
      refine g_iload_n hk dX11_search_14 rfl ?_
      refine g_callV hk (m237_X4_has l D zt d q a1) (SP.same _) (fun _ h => h) gX11_search_X4_has rfl rfl rfl (by decide +kernel) ⟨Nat.le_of_ble_eq_true rfl, Nat.le_of_ble_eq_true rfl⟩ 15 rfl rfl rfl rfl (Nat.le_of_ble_eq_true rfl) ⟨Nat.le_of_ble_eq_true rfl, Nat.le_of_ble_eq_true rfl⟩ dX11_search_15 (fun v ty' w' hp hk' => ?_)
      obtain ⟨rfl, rfl⟩ := hp
      show GW κ 3 0 0 (wX q d iX0 aX0) 18 [(0, .ref (q 0)), (1, .int a1), (2, .int a2)] [.int 0]
      refine g_if_ne (tgt := 23) (a := 0) hk dX11_search_18 (by decide) rfl (fun z9 => absurd z9 (show ¬ (0 ≠ 0) from by decide)) (fun _ => ?_)
      refine g_iconst (v := (-1)) hk dX11_search_21 (by decide) ?_
      exact g_iret hk hR rfl ⟨rfl, rfl⟩ dX11_search_22
set_option maxHeartbeats 4000000 in
set_option maxRecDepth 100000 in
theorem m282_X11_match (l : Launch) (D : va_G) (zt : Nat × Nat × Nat) (d : Nat → ClassId) (q : Nat → Nat) (a1 : Int32) (a2 : Int32) (a3 : Int32) : GM l D zt (tyX d) yX11_match wsX11_match ({ frames := 1, cells := 0, slots := 0, locals := 21 } : Room) [.ref (q 0), .int a1, .int a2, .int a3] (wX q d iX0 aX0) (fun v _ w' => v = some (.int (-1)) ∧ w' = wX q d iX0 aX0) 0 0 := by
  refine GM.of (cc := cX11_match) (maxL := 4) (ret := (some .int)) (own := RX11) (lv := [(0, .ref (q 0)), (1, .int a1), (2, .int a2), (3, .int a3)]) (by decide) rfl rfl (Nat.le_of_ble_eq_true rfl) rfl (fun κ sz hk hR hN => ?_)
  have hin11 : ∀ w ∈ u_ws RX11 TX11 10, w ∈ wsX11_match := by decide +kernel
  refine g_iload_n hk dX11_match_0 rfl ?_
  refine g_if_lt (tgt := 24) (a := a2.toInt) hk dX11_match_1 (by decide) rfl (fun c727 => ?_) (fun c727 => ?_)
  · skip
    refine g_iconst (v := (-1)) hk dX11_match_24 (by decide) ?_
    exact g_iret hk hR rfl ⟨rfl, rfl⟩ dX11_match_25
  · skip
    refine g_iload_n hk dX11_match_4 rfl ?_
    refine g_if_lt (tgt := 24) (a := a3.toInt) hk dX11_match_5 (by decide) rfl (fun c728 => ?_) (fun c728 => ?_)
    · skip
      refine g_iconst (v := (-1)) hk dX11_match_24 (by decide) ?_
      exact g_iret hk hR rfl ⟨rfl, rfl⟩ dX11_match_25
    · skip
      refine g_iload_n hk dX11_match_8 rfl ?_
      refine g_iconst (v := 1) hk dX11_match_9 (by decide) ?_
      refine g_icmp_gt (tgt := 24) (a := a3.toInt) (b := 1) hk dX11_match_10 (by decide) rfl rfl (fun c729 => ?_) (fun c729 => ?_)
      · skip
        refine g_iconst (v := (-1)) hk dX11_match_24 (by decide) ?_
        exact g_iret hk hR rfl ⟨rfl, rfl⟩ dX11_match_25
      · skip
        refine g_aload_n hk dX11_match_13 rfl ?_
        refine gX_r0_3 hk hin11 (by decide +kernel) dX11_match_14 ?_
        refine g_iload_n hk dX11_match_17 rfl ?_
        refine g_callV hk (m237_X4_has l D zt d q a1) (SP.same _) (fun _ h => h) gX11_match_X4_has rfl rfl rfl (by decide +kernel) ⟨Nat.le_of_ble_eq_true rfl, Nat.le_of_ble_eq_true rfl⟩ 15 rfl rfl rfl rfl (Nat.le_of_ble_eq_true rfl) ⟨Nat.le_of_ble_eq_true rfl, Nat.le_of_ble_eq_true rfl⟩ dX11_match_18 (fun v ty' w' hp hk' => ?_)
        obtain ⟨rfl, rfl⟩ := hp
        show GW κ 4 0 0 (wX q d iX0 aX0) 21 [(0, .ref (q 0)), (1, .int a1), (2, .int a2), (3, .int a3)] [.int 0]
        refine g_if_ne (tgt := 26) (a := 0) hk dX11_match_21 (by decide) rfl (fun z9 => absurd z9 (show ¬ (0 ≠ 0) from by decide)) (fun _ => ?_)
        refine g_iconst (v := (-1)) hk dX11_match_24 (by decide) ?_
        exact g_iret hk hR rfl ⟨rfl, rfl⟩ dX11_match_25
set_option maxHeartbeats 4000000 in
set_option maxRecDepth 100000 in
theorem m283_X11_within (l : Launch) (D : va_G) (zt : Nat × Nat × Nat) (d : Nat → ClassId) (q : Nat → Nat) (a1 : Int32) (a2 : Int32) : GM l D zt (tyX d) yX11_within wsX11_within ({ frames := 1, cells := 0, slots := 0, locals := 21 } : Room) [.ref (q 0), .int a1, .int a2] (wX q d iX0 aX0) (fun v _ w' => v = some (.int (-1)) ∧ w' = wX q d iX0 aX0) 0 0 := by
  refine GM.of (cc := cX11_within) (maxL := 3) (ret := (some .int)) (own := RX11) (lv := [(0, .ref (q 0)), (1, .int a1), (2, .int a2)]) (by decide) rfl rfl (Nat.le_of_ble_eq_true rfl) rfl (fun κ sz hk hR hN => ?_)
  have hin11 : ∀ w ∈ u_ws RX11 TX11 10, w ∈ wsX11_within := by decide +kernel
  refine g_iload_n hk dX11_within_0 rfl ?_
  refine g_if_lt (tgt := 15) (a := a2.toInt) hk dX11_within_1 (by decide) rfl (fun c730 => ?_) (fun c730 => ?_)
  · skip
    refine g_iconst (v := (-1)) hk dX11_within_15 (by decide) ?_
    exact g_iret hk hR rfl ⟨rfl, rfl⟩ dX11_within_16
  · skip
    refine g_aload_n hk dX11_within_4 rfl ?_
    refine gX_r0_3 hk hin11 (by decide +kernel) dX11_within_5 ?_
    refine g_iload_n hk dX11_within_8 rfl ?_
    refine g_callV hk (m237_X4_has l D zt d q a1) (SP.same _) (fun _ h => h) gX11_within_X4_has rfl rfl rfl (by decide +kernel) ⟨Nat.le_of_ble_eq_true rfl, Nat.le_of_ble_eq_true rfl⟩ 15 rfl rfl rfl rfl (Nat.le_of_ble_eq_true rfl) ⟨Nat.le_of_ble_eq_true rfl, Nat.le_of_ble_eq_true rfl⟩ dX11_within_9 (fun v ty' w' hp hk' => ?_)
    obtain ⟨rfl, rfl⟩ := hp
    show GW κ 3 0 0 (wX q d iX0 aX0) 12 [(0, .ref (q 0)), (1, .int a1), (2, .int a2)] [.int 0]
    refine g_if_ne (tgt := 17) (a := 0) hk dX11_within_12 (by decide) rfl (fun z9 => absurd z9 (show ¬ (0 ≠ 0) from by decide)) (fun _ => ?_)
    refine g_iconst (v := (-1)) hk dX11_within_15 (by decide) ?_
    exact g_iret hk hR rfl ⟨rfl, rfl⟩ dX11_within_16
set_option maxHeartbeats 4000000 in
set_option maxRecDepth 100000 in
theorem m284_X11_way (l : Launch) (D : va_G) (zt : Nat × Nat × Nat) (d : Nat → ClassId) (q : Nat → Nat) (a1 : Int32) (a2 : Int32) (a3 : Int32) : GM l D zt (tyX d) yX11_way wsX11_way ({ frames := 3, cells := 0, slots := 0, locals := 65 } : Room) [.ref (q 0), .int a1, .int a2, .int a3] (wX q d iX0 aX0) (fun v _ w' => v = some (.int (-1)) ∧ w' = wX q d iX0 aX0) 0 0 := by
  refine GM.of (cc := cX11_way) (maxL := 4) (ret := (some .int)) (own := RX11) (lv := [(0, .ref (q 0)), (1, .int a1), (2, .int a2), (3, .int a3)]) (by decide) rfl rfl (Nat.le_of_ble_eq_true rfl) rfl (fun κ sz hk hR hN => ?_)
  have hin11 : ∀ w ∈ u_ws RX11 TX11 10, w ∈ wsX11_way := by decide +kernel
  refine g_aload_n hk dX11_way_0 rfl ?_
  refine gX_r0_7 hk hin11 (by decide +kernel) dX11_way_1 ?_
  refine g_iload_n hk dX11_way_4 rfl ?_
  refine g_iload_n hk dX11_way_5 rfl ?_
  refine g_callV hk (m276_X0_openBoth l D zt d q a1 a2) (SP.same _) (fun _ h => h) gX11_way_X0_openBoth rfl rfl rfl (by decide +kernel) ⟨Nat.le_of_ble_eq_true rfl, Nat.le_of_ble_eq_true rfl⟩ 37 rfl rfl rfl rfl (Nat.le_of_ble_eq_true rfl) ⟨Nat.le_of_ble_eq_true rfl, Nat.le_of_ble_eq_true rfl⟩ dX11_way_6 (fun v ty' w' hp hk' => ?_)
  obtain ⟨rfl, rfl⟩ := hp
  show GW κ 4 0 0 (wX q d iX0 aX0) 9 [(0, .ref (q 0)), (1, .int a1), (2, .int a2), (3, .int a3)] [.int 0]
  refine g_if_ne (tgt := 14) (a := 0) hk dX11_way_9 (by decide) rfl (fun z9 => absurd z9 (show ¬ (0 ≠ 0) from by decide)) (fun _ => ?_)
  refine g_iconst (v := (-1)) hk dX11_way_12 (by decide) ?_
  exact g_iret hk hR rfl ⟨rfl, rfl⟩ dX11_way_13
set_option maxHeartbeats 4000000 in
set_option maxRecDepth 100000 in
theorem m285_X11_needs (l : Launch) (D : va_G) (zt : Nat × Nat × Nat) (d : Nat → ClassId) (q : Nat → Nat) (a1 : Int32) (a2 : Int32) : GM l D zt (tyX d) yX11_needs wsX11_needs ({ frames := 2, cells := 0, slots := 0, locals := 43 } : Room) [.ref (q 0), .int a1, .int a2] (wX q d iX0 aX0) (fun v _ w' => v = some (.int (-1)) ∧ w' = wX q d iX0 aX0) 0 0 := by
  refine GM.of (cc := cX11_needs) (maxL := 3) (ret := (some .int)) (own := RX11) (lv := [(0, .ref (q 0)), (1, .int a1), (2, .int a2)]) (by decide) rfl rfl (Nat.le_of_ble_eq_true rfl) rfl (fun κ sz hk hR hN => ?_)
  have hin11 : ∀ w ∈ u_ws RX11 TX11 10, w ∈ wsX11_needs := by decide +kernel
  refine g_aload_n hk dX11_needs_0 rfl ?_
  refine gX_r0_7 hk hin11 (by decide +kernel) dX11_needs_1 ?_
  refine g_iload_n hk dX11_needs_4 rfl ?_
  refine g_iload_n hk dX11_needs_5 rfl ?_
  refine g_callV hk (m275_X0_hasBoth l D zt d q a1 a2) (SP.same _) (fun _ h => h) gX11_needs_X0_hasBoth rfl rfl rfl (by decide +kernel) ⟨Nat.le_of_ble_eq_true rfl, Nat.le_of_ble_eq_true rfl⟩ 37 rfl rfl rfl rfl (Nat.le_of_ble_eq_true rfl) ⟨Nat.le_of_ble_eq_true rfl, Nat.le_of_ble_eq_true rfl⟩ dX11_needs_6 (fun v ty' w' hp hk' => ?_)
  obtain ⟨rfl, rfl⟩ := hp
  show GW κ 3 0 0 (wX q d iX0 aX0) 9 [(0, .ref (q 0)), (1, .int a1), (2, .int a2)] [.int 0]
  refine g_if_eq (tgt := 24) (a := 0) hk dX11_needs_9 (by decide) rfl (fun _ => ?_) (fun z9 => absurd (show 0 = 0 from by decide) z9)
  refine g_iconst (v := (-1)) hk dX11_needs_24 (by decide) ?_
  exact g_iret hk hR rfl ⟨rfl, rfl⟩ dX11_needs_25
