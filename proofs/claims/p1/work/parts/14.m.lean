set_option maxHeartbeats 4000000 in
set_option maxRecDepth 100000 in
theorem m122_X12_cut (l : Launch) (D : va_G) (zt : Nat × Nat × Nat) (g : Nat → ClassId) (r : Nat → Nat) : GM l D zt (tyM g) yX12_cut wsX12_cut ({ frames := 1, cells := 0, slots := 0, locals := 25 } : Room) [.ref (r 0)] (wM r g iM1 aM1 lM1) (fun v _ w' => v = none ∧ w' = wM r g (upd iM1 3 1) aM1 (up3L lM1 5 0 0)) 0 0 := by
  refine GM.of (cc := cX12_cut) (maxL := 8) (ret := none) (own := RX12) (lv := [(0, .ref (r 0))]) (by decide) rfl rfl (Nat.le_of_ble_eq_true rfl) rfl (fun κ sz hk hR hN => ?_)
  have hin12 : ∀ w ∈ u_ws RX12 TX12 55, w ∈ wsX12_cut := by decide +kernel
  refine g_aload_n hk dX12_cut_0 rfl ?_
  refine g_iconst (v := 0) hk dX12_cut_1 (by decide) ?_
  refine pM_i3 hk hin12 (by decide +kernel) dX12_cut_2 ?_
  refine gM_sameI rfl ?_
  refine g_iconst (v := 0) hk dX12_cut_5 (by decide) ?_
  refine g_istore_n (lv' := [(1, .int 0), (0, .ref (r 0))]) hk dX12_cut_6 (by decide) rfl ?_
  refine g_aload_n hk dX12_cut_7 rfl ?_
  refine gM_i3 (v := 0) hk hin12 (by decide +kernel) dX12_cut_8 rfl ?_
  refine g_sipush (v := 400) hk dX12_cut_11 (by decide) ?_
  refine g_icmp_gt (tgt := 294) (a := 0) (b := 400) hk dX12_cut_14 (by decide) rfl rfl (fun z9 => absurd z9 (show ¬ (400 < 0) from by decide)) (fun _ => ?_)
  refine g_aload_n hk dX12_cut_17 rfl ?_
  refine g_iload_n hk dX12_cut_18 rfl ?_
  refine g_callV hk (m120_X12_byteAt l D zt g r) (SP.same _) (fun _ h => h) gX12_cut_X12_byteAt rfl rfl rfl (by decide +kernel) ⟨Nat.le_of_ble_eq_true rfl, Nat.le_of_ble_eq_true rfl⟩ 0 rfl rfl rfl rfl (Nat.le_of_ble_eq_true rfl) ⟨Nat.le_of_ble_eq_true rfl, Nat.le_of_ble_eq_true rfl⟩ dX12_cut_19 (fun v ty' w' hp hk' => ?_)
  obtain ⟨rfl, rfl⟩ := hp
  show GW κ 8 0 0 (wM r g iM1 aM1 lM1) 22 [(1, .int 0), (0, .ref (r 0))] [.int 0]
  refine g_istore_n (lv' := [(2, .int 0), (1, .int 0), (0, .ref (r 0))]) hk dX12_cut_22 (by decide) rfl ?_
  refine g_iload_n hk dX12_cut_23 rfl ?_
  refine g_aload_n hk dX12_cut_24 rfl ?_
  refine gM_i2 (v := 0) hk hin12 (by decide +kernel) dX12_cut_25 rfl ?_
  refine g_icmp_lt (tgt := 43) (a := 0) (b := 0) hk dX12_cut_28 (by decide) rfl rfl (fun z9 => absurd z9 (show ¬ (0 < 0) from by decide)) (fun _ => ?_)
  refine g_aload_n hk dX12_cut_31 rfl ?_
  refine g_iconst (v := 0) hk dX12_cut_32 (by decide) ?_
  refine g_aload_n hk dX12_cut_33 rfl ?_
  refine gM_i2 (v := 0) hk hin12 (by decide +kernel) dX12_cut_34 rfl ?_
  refine g_iconst (v := 0) hk dX12_cut_37 (by decide) ?_
  refine g_lconst (v := 0) hk dX12_cut_38 (by decide) ?_
  refine g_callV hk (m121_X12_token l D zt g r) (SP.same _) (fun _ h => h) gX12_cut_X12_token rfl rfl rfl (by decide +kernel) ⟨Nat.le_of_ble_eq_true rfl, Nat.le_of_ble_eq_true rfl⟩ 0 rfl rfl rfl rfl (Nat.le_of_ble_eq_true rfl) ⟨Nat.le_of_ble_eq_true rfl, Nat.le_of_ble_eq_true rfl⟩ dX12_cut_39 (fun v ty' w' hp hk' => ?_)
  obtain ⟨rfl, rfl⟩ := hp
  show GW κ 8 0 0 (wM r g (upd iM1 3 1) aM1 (up3L lM1 5 0 0)) 42 [(2, .int 0), (1, .int 0), (0, .ref (r 0))] []
  exact g_vret hk hR ⟨rfl, rfl⟩ dX12_cut_42
set_option maxHeartbeats 4000000 in
set_option maxRecDepth 100000 in
theorem m123_X12_plain (l : Launch) (D : va_G) (zt : Nat × Nat × Nat) (g : Nat → ClassId) (r : Nat → Nat) : GM l D zt (tyM g) yX12_plain wsX12_plain ({ frames := 0, cells := 0, slots := 0, locals := 0 } : Room) [.ref (r 0), .int 1] (wM r g (upd (upd (upd iM1 3 1) 11 (-2)) 16 1) aM1 (up3L lM1 5 0 0)) (fun v _ w' => v = none ∧ w' = wM r g (upd (upd (upd iM1 3 1) 11 (-2)) 16 1) aM1 (up3L lM1 5 0 0)) 0 0 := by
  refine GM.of (cc := cX12_plain) (maxL := 2) (ret := none) (own := RX12) (lv := [(0, .ref (r 0)), (1, .int 1)]) (by decide) rfl rfl (Nat.le_of_ble_eq_true rfl) rfl (fun κ sz hk hR hN => ?_)
  have hin12 : ∀ w ∈ u_ws RX12 TX12 55, w ∈ wsX12_plain := by decide +kernel
  refine g_aload_n hk dX12_plain_0 rfl ?_
  refine gM_r0_26 hk hin12 (by decide +kernel) dX12_plain_1 ?_
  refine g_iload_n hk dX12_plain_4 rfl ?_
  refine g_iconst (v := 0) hk dX12_plain_5 (by decide) ?_
  refine sM_8 (j := 1) hk (vp_in_iff.mpr ⟨by decide, by decide⟩) (by decide) dX12_plain_6 ?_
  refine gM_same rfl ?_
  refine g_aload_n hk dX12_plain_7 rfl ?_
  refine gM_r0_28 hk hin12 (by decide +kernel) dX12_plain_8 ?_
  refine g_iload_n hk dX12_plain_11 rfl ?_
  refine g_iconst (v := 0) hk dX12_plain_12 (by decide) ?_
  refine sM_10 (j := 1) hk (vp_in_iff.mpr ⟨by decide, by decide⟩) (by decide) dX12_plain_13 ?_
  refine gM_same rfl ?_
  refine g_aload_n hk dX12_plain_14 rfl ?_
  refine gM_r0_31 hk hin12 (by decide +kernel) dX12_plain_15 ?_
  refine g_iload_n hk dX12_plain_18 rfl ?_
  refine g_iconst (v := 2) hk dX12_plain_19 (by decide) ?_
  refine sM_13 (j := 1) hk (vp_in_iff.mpr ⟨by decide, by decide⟩) (by decide) dX12_plain_20 ?_
  refine gM_same rfl ?_
  refine g_aload_n hk dX12_plain_21 rfl ?_
  refine gM_r0_32 hk hin12 (by decide +kernel) dX12_plain_22 ?_
  refine g_iload_n hk dX12_plain_25 rfl ?_
  refine g_iconst (v := 0) hk dX12_plain_26 (by decide) ?_
  refine sM_14 (j := 1) hk (vp_in_iff.mpr ⟨by decide, by decide⟩) (by decide) dX12_plain_27 ?_
  refine gM_same rfl ?_
  refine g_aload_n hk dX12_plain_28 rfl ?_
  refine gM_r0_33 hk hin12 (by decide +kernel) dX12_plain_29 ?_
  refine g_iload_n hk dX12_plain_32 rfl ?_
  refine g_iconst (v := 0) hk dX12_plain_33 (by decide) ?_
  refine sM_15 (j := 1) hk (vp_in_iff.mpr ⟨by decide, by decide⟩) (by decide) dX12_plain_34 ?_
  refine gM_same rfl ?_
  refine g_aload_n hk dX12_plain_35 rfl ?_
  refine gM_r0_34 hk hin12 (by decide +kernel) dX12_plain_36 ?_
  refine g_iload_n hk dX12_plain_39 rfl ?_
  refine g_bipush (v := 8) hk dX12_plain_40 (by decide) ?_
  refine sM_16 (j := 1) hk (vp_in_iff.mpr ⟨by decide, by decide⟩) (by decide) dX12_plain_42 ?_
  refine gM_same rfl ?_
  exact g_vret hk hR ⟨rfl, rfl⟩ dX12_plain_43
set_option maxHeartbeats 4000000 in
set_option maxRecDepth 100000 in
theorem m124_X12_is (l : Launch) (D : va_G) (zt : Nat × Nat × Nat) (g : Nat → ClassId) (r : Nat → Nat) : GM l D zt (tyM g) yX12_is wsX12_is ({ frames := 0, cells := 0, slots := 0, locals := 0 } : Room) [.ref (r 0), .int 0] (wM r g (upd (upd (upd iM1 3 1) 11 (-2)) 16 1) aM1 (up3L lM1 5 0 0)) (fun v _ w' => v = some (.int 1) ∧ w' = wM r g (upd (upd (upd iM1 3 1) 11 (-2)) 16 1) aM1 (up3L lM1 5 0 0)) 0 0 := by
  refine GM.of (cc := cX12_is) (maxL := 2) (ret := (some .boolean)) (own := RX12) (lv := [(0, .ref (r 0)), (1, .int 0)]) (by decide) rfl rfl (Nat.le_of_ble_eq_true rfl) rfl (fun κ sz hk hR hN => ?_)
  have hin12 : ∀ w ∈ u_ws RX12 TX12 55, w ∈ wsX12_is := by decide +kernel
  refine g_aload_n hk dX12_is_0 rfl ?_
  refine gM_i6 (v := 0) hk hin12 (by decide +kernel) dX12_is_1 rfl ?_
  refine g_if_ne (tgt := 24) (a := 0) hk dX12_is_4 (by decide) rfl (fun z9 => absurd z9 (show ¬ (0 ≠ 0) from by decide)) (fun _ => ?_)
  refine g_aload_n hk dX12_is_7 rfl ?_
  refine gM_r0_5 hk hin12 (by decide +kernel) dX12_is_8 ?_
  refine g_aload_n hk dX12_is_11 rfl ?_
  refine gM_i4 (v := 0) hk hin12 (by decide +kernel) dX12_is_12 rfl ?_
  refine lM_2 (v := 0) hk (vp_in_iff.mpr ⟨by decide, by decide⟩) rfl dX12_is_15 ?_
  refine g_iload_n hk dX12_is_16 rfl ?_
  refine g_icmp_ne (tgt := 24) (a := 0) (b := 0) hk dX12_is_17 (by decide) rfl rfl (fun z9 => absurd z9 (show ¬ (0 ≠ 0) from by decide)) (fun _ => ?_)
  refine g_iconst (v := 1) hk dX12_is_20 (by decide) ?_
  refine g_goto (tgt := 25) hk dX12_is_21 (by decide) ?_
  exact g_iret hk hR rfl ⟨rfl, rfl⟩ dX12_is_25
set_option maxHeartbeats 4000000 in
set_option maxRecDepth 100000 in
theorem m125_X12_begins (l : Launch) (D : va_G) (zt : Nat × Nat × Nat) (g : Nat → ClassId) (r : Nat → Nat) : GM l D zt (tyM g) yX12_begins wsX12_begins ({ frames := 0, cells := 0, slots := 0, locals := 0 } : Room) [.ref (r 0)] (wM r g (upd (upd (upd (upd iM1 3 1) 11 (-2)) 16 1) 15 1) aM1 (up3L lM1 5 0 0)) (fun v _ w' => v = none ∧ w' = wM r g (upd (upd (upd (upd iM1 3 1) 11 (-2)) 16 1) 15 1) (up3 (up3 (up2 aM1 18 (cp (fun _ => 0) (aM1 18) 165)) 18 161 2) 18 164 8) (up3L lM1 5 0 0)) 0 0 := by
  refine GM.of (cc := cX12_begins) (maxL := 2) (ret := none) (own := RX12) (lv := [(0, .ref (r 0))]) (by decide) rfl rfl (Nat.le_of_ble_eq_true rfl) rfl (fun κ sz hk hR hN => ?_)
  have hin12 : ∀ w ∈ u_ws RX12 TX12 55, w ∈ wsX12_begins := by decide +kernel
  refine g_iconst (v := 0) hk dX12_begins_0 (by decide) ?_
  refine g_istore_n (lv' := [(1, .int 0), (0, .ref (r 0))]) hk dX12_begins_1 (by decide) rfl ?_
  have lp327 : ∀ (n329 k328 : Nat), k328 + n329 = 165 → GW κ 2 0 0 (wM r g (upd (upd (upd (upd iM1 3 1) 11 (-2)) 16 1) 15 1) (up2 aM1 18 (cp (fun _ => 0) (aM1 18) k328)) (up3L lM1 5 0 0)) 2 [(1, .int (nI k328)), (0, .ref (r 0))] [] := by
    intro n329
    induction n329 with
    | zero =>
      intro k328 hk328
      obtain rfl : k328 = 165 := by omega
      show GW κ 2 0 0 (wM r g (upd (upd (upd (upd iM1 3 1) 11 (-2)) 16 1) 15 1) (up2 aM1 18 (cp (fun _ => 0) (aM1 18) 165)) (up3L lM1 5 0 0)) 2 [(1, .int 165), (0, .ref (r 0))] []
      refine g_iload_n hk dX12_begins_2 rfl ?_
      refine g_sipush (v := 165) hk dX12_begins_3 (by decide) ?_
      refine g_icmp_ge (tgt := 22) (a := 165) (b := 165) hk dX12_begins_6 (by decide) rfl rfl (fun _ => ?_) (fun z9 => absurd (show 165 ≤ 165 from by decide) z9)
      refine g_aload_n hk dX12_begins_22 rfl ?_
      refine gM_r0_36 hk hin12 (by decide +kernel) dX12_begins_23 ?_
      refine g_iconst (v := 0) hk dX12_begins_26 (by decide) ?_
      refine g_aload_n hk dX12_begins_27 rfl ?_
      refine gM_r0_26 hk hin12 (by decide +kernel) dX12_begins_28 ?_
      refine g_aload_n hk dX12_begins_31 rfl ?_
      refine gM_i15 (v := 1) hk hin12 (by decide +kernel) dX12_begins_32 rfl ?_
      refine lM_8 (v := 0) hk (vp_in_iff.mpr ⟨by decide, by decide⟩) rfl dX12_begins_35 ?_
      refine sM_18 (j := 0) hk (vp_in_iff.mpr ⟨by decide, by decide⟩) (by decide) dX12_begins_36 ?_
      refine gM_same rfl ?_
      refine g_iconst (v := 0) hk dX12_begins_37 (by decide) ?_
      refine g_istore_n (lv' := [(1, .int 0), (0, .ref (r 0))]) hk dX12_begins_38 (by decide) rfl ?_
      refine g_iload_n hk dX12_begins_39 rfl ?_
      refine g_aload_n hk dX12_begins_40 rfl ?_
      refine gM_r0_36 hk hin12 (by decide +kernel) dX12_begins_41 ?_
      refine g_iconst (v := 0) hk dX12_begins_44 (by decide) ?_
      refine lM_18 (v := 0) hk (vp_in_iff.mpr ⟨by decide, by decide⟩) rfl dX12_begins_45 ?_
      refine g_icmp_ge (tgt := 78) (a := 0) (b := 0) hk dX12_begins_46 (by decide) rfl rfl (fun _ => ?_) (fun z9 => absurd (show 0 ≤ 0 from by decide) z9)
      refine g_aload_n hk dX12_begins_78 rfl ?_
      refine gM_r0_36 hk hin12 (by decide +kernel) dX12_begins_79 ?_
      refine g_sipush (v := 161) hk dX12_begins_82 (by decide) ?_
      refine g_aload_n hk dX12_begins_85 rfl ?_
      refine gM_r0_31 hk hin12 (by decide +kernel) dX12_begins_86 ?_
      refine g_aload_n hk dX12_begins_89 rfl ?_
      refine gM_i15 (v := 1) hk hin12 (by decide +kernel) dX12_begins_90 rfl ?_
      refine lM_13 (v := 2) hk (vp_in_iff.mpr ⟨by decide, by decide⟩) rfl dX12_begins_93 ?_
      refine sM_18 (j := 161) hk (vp_in_iff.mpr ⟨by decide, by decide⟩) (by decide) dX12_begins_94 ?_
      refine g_aload_n hk dX12_begins_95 rfl ?_
      refine gM_r0_36 hk hin12 (by decide +kernel) dX12_begins_96 ?_
      refine g_sipush (v := 162) hk dX12_begins_99 (by decide) ?_
      refine g_aload_n hk dX12_begins_102 rfl ?_
      refine gM_r0_32 hk hin12 (by decide +kernel) dX12_begins_103 ?_
      refine g_aload_n hk dX12_begins_106 rfl ?_
      refine gM_i15 (v := 1) hk hin12 (by decide +kernel) dX12_begins_107 rfl ?_
      refine lM_14 (v := 0) hk (vp_in_iff.mpr ⟨by decide, by decide⟩) rfl dX12_begins_110 ?_
      refine sM_18 (j := 162) hk (vp_in_iff.mpr ⟨by decide, by decide⟩) (by decide) dX12_begins_111 ?_
      refine gM_same rfl ?_
      refine g_aload_n hk dX12_begins_112 rfl ?_
      refine gM_r0_36 hk hin12 (by decide +kernel) dX12_begins_113 ?_
      refine g_sipush (v := 163) hk dX12_begins_116 (by decide) ?_
      refine g_aload_n hk dX12_begins_119 rfl ?_
      refine gM_r0_33 hk hin12 (by decide +kernel) dX12_begins_120 ?_
      refine g_aload_n hk dX12_begins_123 rfl ?_
      refine gM_i15 (v := 1) hk hin12 (by decide +kernel) dX12_begins_124 rfl ?_
      refine lM_15 (v := 0) hk (vp_in_iff.mpr ⟨by decide, by decide⟩) rfl dX12_begins_127 ?_
      refine sM_18 (j := 163) hk (vp_in_iff.mpr ⟨by decide, by decide⟩) (by decide) dX12_begins_128 ?_
      refine gM_same rfl ?_
      refine g_aload_n hk dX12_begins_129 rfl ?_
      refine gM_r0_36 hk hin12 (by decide +kernel) dX12_begins_130 ?_
      refine g_sipush (v := 164) hk dX12_begins_133 (by decide) ?_
      refine g_aload_n hk dX12_begins_136 rfl ?_
      refine gM_r0_34 hk hin12 (by decide +kernel) dX12_begins_137 ?_
      refine g_aload_n hk dX12_begins_140 rfl ?_
      refine gM_i15 (v := 1) hk hin12 (by decide +kernel) dX12_begins_141 rfl ?_
      refine lM_16 (v := 8) hk (vp_in_iff.mpr ⟨by decide, by decide⟩) rfl dX12_begins_144 ?_
      refine sM_18 (j := 164) hk (vp_in_iff.mpr ⟨by decide, by decide⟩) (by decide) dX12_begins_145 ?_
      exact g_vret hk hR ⟨rfl, rfl⟩ dX12_begins_146
    | succ n329 ih =>
      intro k328 hk328
      obtain ⟨x330, ex330⟩ : ∃ x : Int32, x = nI k328 := ⟨_, rfl⟩
      have hx330 : x330.toInt = (k328 : Int) := by rw [ex330]; exact nI_toInt (by omega)
      rw [← ex330]
      rw [ex330]
      have eW : wM r g (upd (upd (upd (upd iM1 3 1) 11 (-2)) 16 1) 15 1) (up2 aM1 18 (cp (fun _ => 0) (aM1 18) k328)) (up3L lM1 5 0 0) = wM r g (upd (upd (upd (upd iM1 3 1) 11 (-2)) 16 1) 15 1) (up2 aM1 18 (cp (fun _ => 0) (aM1 18) (k328))) (up3L lM1 5 0 0) := by rw [← cp_s (fun _ => 0) (aM1 18) (k328)]; rfl
      rw [eW]
      exact g_lv (List.forall_mem_cons.mpr ⟨List.mem_of_getElem? (i := 0) rfl, (List.forall_mem_cons.mpr ⟨List.mem_of_getElem? (i := 1) rfl, (fun _ h => absurd h List.not_mem_nil)⟩)⟩) (ih (k328) (by omega))
  exact lp327 165 0 (by omega)
set_option maxHeartbeats 4000000 in
set_option maxRecDepth 100000 in
theorem m126_X12_keepsRow (l : Launch) (D : va_G) (zt : Nat × Nat × Nat) (g : Nat → ClassId) (r : Nat → Nat) : GM l D zt (tyM g) yX12_keepsRow wsX12_keepsRow ({ frames := 0, cells := 0, slots := 0, locals := 0 } : Room) [.ref (r 0)] (wM r g (upd (upd (upd (upd iM1 3 1) 11 (-2)) 16 1) 15 1) (up3 (up3 (up2 aM1 18 (cp (fun _ => 0) (aM1 18) 165)) 18 161 2) 18 164 8) (up3L lM1 5 0 0)) (fun v _ w' => v = none ∧ w' = wM r g (upd (upd (upd (upd iM1 3 1) 11 (-2)) 16 1) 15 1) (up2 (up3 (up3 (up2 aM1 18 (cp (fun _ => 0) (aM1 18) 165)) 18 161 2) 18 164 8) 17 (cp ((up3 (up3 (up2 aM1 18 (cp (fun _ => 0) (aM1 18) 165)) 18 161 2) 18 164 8) 18) ((up3 (up3 (up2 aM1 18 (cp (fun _ => 0) (aM1 18) 165)) 18 161 2) 18 164 8) 17) 165)) (up3L lM1 5 0 0)) 0 0 := by
  refine GM.of (cc := cX12_keepsRow) (maxL := 2) (ret := none) (own := RX12) (lv := [(0, .ref (r 0))]) (by decide) rfl rfl (Nat.le_of_ble_eq_true rfl) rfl (fun κ sz hk hR hN => ?_)
  refine g_iconst (v := 0) hk dX12_keepsRow_0 (by decide) ?_
  refine g_istore_n (lv' := [(1, .int 0), (0, .ref (r 0))]) hk dX12_keepsRow_1 (by decide) rfl ?_
  have lp331 : ∀ (n333 k332 : Nat), k332 + n333 = 165 → GW κ 2 0 0 (wM r g (upd (upd (upd (upd iM1 3 1) 11 (-2)) 16 1) 15 1) (up2 (up3 (up3 (up2 aM1 18 (cp (fun _ => 0) (aM1 18) 165)) 18 161 2) 18 164 8) 17 (cp ((up3 (up3 (up2 aM1 18 (cp (fun _ => 0) (aM1 18) 165)) 18 161 2) 18 164 8) 18) ((up3 (up3 (up2 aM1 18 (cp (fun _ => 0) (aM1 18) 165)) 18 161 2) 18 164 8) 17) k332)) (up3L lM1 5 0 0)) 2 [(1, .int (nI k332)), (0, .ref (r 0))] [] := by
    intro n333
    induction n333 with
    | zero =>
      intro k332 hk332
      obtain rfl : k332 = 165 := by omega
      show GW κ 2 0 0 (wM r g (upd (upd (upd (upd iM1 3 1) 11 (-2)) 16 1) 15 1) (up2 (up3 (up3 (up2 aM1 18 (cp (fun _ => 0) (aM1 18) 165)) 18 161 2) 18 164 8) 17 (cp ((up3 (up3 (up2 aM1 18 (cp (fun _ => 0) (aM1 18) 165)) 18 161 2) 18 164 8) 18) ((up3 (up3 (up2 aM1 18 (cp (fun _ => 0) (aM1 18) 165)) 18 161 2) 18 164 8) 17) 165)) (up3L lM1 5 0 0)) 2 [(1, .int 165), (0, .ref (r 0))] []
      refine g_iload_n hk dX12_keepsRow_2 rfl ?_
      refine g_sipush (v := 165) hk dX12_keepsRow_3 (by decide) ?_
      refine g_icmp_ge (tgt := 27) (a := 165) (b := 165) hk dX12_keepsRow_6 (by decide) rfl rfl (fun _ => ?_) (fun z9 => absurd (show 165 ≤ 165 from by decide) z9)
      exact g_vret hk hR ⟨rfl, rfl⟩ dX12_keepsRow_27
    | succ n333 ih =>
      intro k332 hk332
      obtain ⟨x334, ex334⟩ : ∃ x : Int32, x = nI k332 := ⟨_, rfl⟩
      have hx334 : x334.toInt = (k332 : Int) := by rw [ex334]; exact nI_toInt (by omega)
      rw [← ex334]
      rw [ex334]
      have eW : wM r g (upd (upd (upd (upd iM1 3 1) 11 (-2)) 16 1) 15 1) (up2 (up3 (up3 (up2 aM1 18 (cp (fun _ => 0) (aM1 18) 165)) 18 161 2) 18 164 8) 17 (cp ((up3 (up3 (up2 aM1 18 (cp (fun _ => 0) (aM1 18) 165)) 18 161 2) 18 164 8) 18) ((up3 (up3 (up2 aM1 18 (cp (fun _ => 0) (aM1 18) 165)) 18 161 2) 18 164 8) 17) k332)) (up3L lM1 5 0 0) = wM r g (upd (upd (upd (upd iM1 3 1) 11 (-2)) 16 1) 15 1) (up2 (up3 (up3 (up2 aM1 18 (cp (fun _ => 0) (aM1 18) 165)) 18 161 2) 18 164 8) 17 (cp ((up3 (up3 (up2 aM1 18 (cp (fun _ => 0) (aM1 18) 165)) 18 161 2) 18 164 8) 18) ((up3 (up3 (up2 aM1 18 (cp (fun _ => 0) (aM1 18) 165)) 18 161 2) 18 164 8) 17) (k332))) (up3L lM1 5 0 0) := by rw [← cp_s ((up3 (up3 (up2 aM1 18 (cp (fun _ => 0) (aM1 18) 165)) 18 161 2) 18 164 8) 18) ((up3 (up3 (up2 aM1 18 (cp (fun _ => 0) (aM1 18) 165)) 18 161 2) 18 164 8) 17) (k332)]; rfl
      rw [eW]
      exact g_lv (List.forall_mem_cons.mpr ⟨List.mem_of_getElem? (i := 0) rfl, (List.forall_mem_cons.mpr ⟨List.mem_of_getElem? (i := 1) rfl, (fun _ h => absurd h List.not_mem_nil)⟩)⟩) (ih (k332) (by omega))
  exact lp331 165 0 (by omega)
set_option maxHeartbeats 4000000 in
set_option maxRecDepth 100000 in
theorem m127_X12_read (l : Launch) (D : va_G) (zt : Nat × Nat × Nat) (g : Nat → ClassId) (r : Nat → Nat) : GM l D zt (tyM g) yX12_read wsX12_read ({ frames := 2, cells := 0, slots := 0, locals := 52 } : Room) [.ref (r 0)] (wM r g iM1 aM1 lM1) (fun v _ w' => v = some (.int 0) ∧ w' = wM r g (upd (upd (upd (upd iM1 3 1) 11 (-2)) 16 1) 15 1) (up2 (up3 (up3 (up2 aM1 18 (cp (fun _ => 0) (aM1 18) 165)) 18 161 2) 18 164 8) 17 (cp ((up3 (up3 (up2 aM1 18 (cp (fun _ => 0) (aM1 18) 165)) 18 161 2) 18 164 8) 18) ((up3 (up3 (up2 aM1 18 (cp (fun _ => 0) (aM1 18) 165)) 18 161 2) 18 164 8) 17) 165)) (up3L lM1 5 0 0)) 0 0 := by
  refine GM.of (cc := cX12_read) (maxL := 2) (ret := (some .int)) (own := RX12) (lv := [(0, .ref (r 0))]) (by decide) rfl rfl (Nat.le_of_ble_eq_true rfl) rfl (fun κ sz hk hR hN => ?_)
  have hin12 : ∀ w ∈ u_ws RX12 TX12 55, w ∈ wsX12_read := by decide +kernel
  refine g_aload_n hk dX12_read_0 rfl ?_
  refine g_aload_n hk dX12_read_1 rfl ?_
  refine gM_i1 (v := 0) hk hin12 (by decide +kernel) dX12_read_2 rfl ?_
  refine pM_i2 hk hin12 (by decide +kernel) dX12_read_5 ?_
  refine gM_sameI rfl ?_
  refine g_iconst (v := 0) hk dX12_read_8 (by decide) ?_
  refine g_istore_n (lv' := [(1, .int 0), (0, .ref (r 0))]) hk dX12_read_9 (by decide) rfl ?_
  refine g_iload_n hk dX12_read_10 rfl ?_
  refine g_aload_n hk dX12_read_11 rfl ?_
  refine gM_i2 (v := 0) hk hin12 (by decide +kernel) dX12_read_12 rfl ?_
  refine g_icmp_ge (tgt := 36) (a := 0) (b := 0) hk dX12_read_15 (by decide) rfl rfl (fun _ => ?_) (fun z9 => absurd (show 0 ≤ 0 from by decide) z9)
  refine g_aload_n hk dX12_read_36 rfl ?_
  refine g_iconst (v := 0) hk dX12_read_37 (by decide) ?_
  refine pM_i1 hk hin12 (by decide +kernel) dX12_read_38 ?_
  refine gM_sameI rfl ?_
  refine g_aload_n hk dX12_read_41 rfl ?_
  refine g_callV hk (m122_X12_cut l D zt g r) (SP.same _) (fun _ h => h) gX12_read_X12_cut rfl rfl rfl (by decide +kernel) ⟨Nat.le_of_ble_eq_true rfl, Nat.le_of_ble_eq_true rfl⟩ 0 rfl rfl rfl rfl (Nat.le_of_ble_eq_true rfl) ⟨Nat.le_of_ble_eq_true rfl, Nat.le_of_ble_eq_true rfl⟩ dX12_read_42 (fun v ty' w' hp hk' => ?_)
  obtain ⟨rfl, rfl⟩ := hp
  show GW κ 2 0 0 (wM r g (upd iM1 3 1) aM1 (up3L lM1 5 0 0)) 45 [(1, .int 0), (0, .ref (r 0))] []
  refine g_aload_n hk dX12_read_45 rfl ?_
  refine g_iconst (v := 0) hk dX12_read_46 (by decide) ?_
  refine pM_i4 hk hin12 (by decide +kernel) dX12_read_47 ?_
  refine gM_sameI rfl ?_
  refine g_aload_n hk dX12_read_50 rfl ?_
  refine g_iconst (v := 0) hk dX12_read_51 (by decide) ?_
  refine pM_i6 hk hin12 (by decide +kernel) dX12_read_52 ?_
  refine gM_sameI rfl ?_
  refine g_aload_n hk dX12_read_55 rfl ?_
  refine g_iconst (v := 0) hk dX12_read_56 (by decide) ?_
  refine pM_i8 hk hin12 (by decide +kernel) dX12_read_57 ?_
  refine gM_sameI rfl ?_
  refine g_aload_n hk dX12_read_60 rfl ?_
  refine g_bipush (v := (-2)) hk dX12_read_61 (by decide) ?_
  refine pM_i11 hk hin12 (by decide +kernel) dX12_read_63 ?_
  refine g_aload_n hk dX12_read_66 rfl ?_
  refine g_iconst (v := 1) hk dX12_read_67 (by decide) ?_
  refine g_aload_n hk dX12_read_68 rfl ?_
  refine gM_i15 (v := 0) hk hin12 (by decide +kernel) dX12_read_69 rfl ?_
  refine g_isub hk dX12_read_72 ?_
  refine g_norm (v := 1) (by decide) ?_
  refine pM_i16 hk hin12 (by decide +kernel) dX12_read_73 ?_
  refine g_aload_n hk dX12_read_76 rfl ?_
  refine g_iconst (v := 0) hk dX12_read_77 (by decide) ?_
  refine pM_i17 hk hin12 (by decide +kernel) dX12_read_78 ?_
  refine gM_sameI rfl ?_
  refine g_aload_n hk dX12_read_81 rfl ?_
  refine g_aload_n hk dX12_read_82 rfl ?_
  refine gM_i16 (v := 1) hk hin12 (by decide +kernel) dX12_read_83 rfl ?_
  refine g_callV hk (m123_X12_plain l D zt g r) (SP.same _) (fun _ h => h) gX12_read_X12_plain rfl rfl rfl (by decide +kernel) ⟨Nat.le_of_ble_eq_true rfl, Nat.le_of_ble_eq_true rfl⟩ 0 rfl rfl rfl rfl (Nat.le_of_ble_eq_true rfl) ⟨Nat.le_of_ble_eq_true rfl, Nat.le_of_ble_eq_true rfl⟩ dX12_read_86 (fun v ty' w' hp hk' => ?_)
  obtain ⟨rfl, rfl⟩ := hp
  show GW κ 2 0 0 (wM r g (upd (upd (upd iM1 3 1) 11 (-2)) 16 1) aM1 (up3L lM1 5 0 0)) 89 [(1, .int 0), (0, .ref (r 0))] []
  refine g_aload_n hk dX12_read_89 rfl ?_
  refine gM_i6 (v := 0) hk hin12 (by decide +kernel) dX12_read_90 rfl ?_
  refine g_if_ne (tgt := 111) (a := 0) hk dX12_read_93 (by decide) rfl (fun z9 => absurd z9 (show ¬ (0 ≠ 0) from by decide)) (fun _ => ?_)
  refine g_aload_n hk dX12_read_96 rfl ?_
  refine g_iconst (v := 0) hk dX12_read_97 (by decide) ?_
  refine g_callV hk (m124_X12_is l D zt g r) (SP.same _) (fun _ h => h) gX12_read_X12_is rfl rfl rfl (by decide +kernel) ⟨Nat.le_of_ble_eq_true rfl, Nat.le_of_ble_eq_true rfl⟩ 0 rfl rfl rfl rfl (Nat.le_of_ble_eq_true rfl) ⟨Nat.le_of_ble_eq_true rfl, Nat.le_of_ble_eq_true rfl⟩ dX12_read_98 (fun v ty' w' hp hk' => ?_)
  obtain ⟨rfl, rfl⟩ := hp
  show GW κ 2 0 0 (wM r g (upd (upd (upd iM1 3 1) 11 (-2)) 16 1) aM1 (up3L lM1 5 0 0)) 101 [(1, .int 0), (0, .ref (r 0))] [.int 1]
  refine g_if_ne (tgt := 111) (a := 1) hk dX12_read_101 (by decide) rfl (fun _ => ?_) (fun z9 => absurd (show 1 ≠ 0 from by decide) z9)
  refine g_aload_n hk dX12_read_111 rfl ?_
  refine g_aload_n hk dX12_read_112 rfl ?_
  refine gM_i6 (v := 0) hk hin12 (by decide +kernel) dX12_read_113 rfl ?_
  refine g_if_le (tgt := 126) (a := 0) hk dX12_read_116 (by decide) rfl (fun _ => ?_) (fun z9 => absurd (show 0 ≤ 0 from by decide) z9)
  refine g_aload_n hk dX12_read_126 rfl ?_
  refine gM_i8 (v := 0) hk hin12 (by decide +kernel) dX12_read_127 rfl ?_
  refine g_if_le (tgt := 140) (a := 0) hk dX12_read_130 (by decide) rfl (fun _ => ?_) (fun z9 => absurd (show 0 ≤ 0 from by decide) z9)
  refine g_iconst (v := (-1)) hk dX12_read_140 (by decide) ?_
  refine pM_i10 hk hin12 (by decide +kernel) dX12_read_141 ?_
  refine gM_sameI rfl ?_
  refine g_aload_n hk dX12_read_144 rfl ?_
  refine g_aload_n hk dX12_read_145 rfl ?_
  refine gM_i6 (v := 0) hk hin12 (by decide +kernel) dX12_read_146 rfl ?_
  refine g_if_le (tgt := 159) (a := 0) hk dX12_read_149 (by decide) rfl (fun _ => ?_) (fun z9 => absurd (show 0 ≤ 0 from by decide) z9)
  refine g_aload_n hk dX12_read_159 rfl ?_
  refine gM_i8 (v := 0) hk hin12 (by decide +kernel) dX12_read_160 rfl ?_
  refine g_if_le (tgt := 173) (a := 0) hk dX12_read_163 (by decide) rfl (fun _ => ?_) (fun z9 => absurd (show 0 ≤ 0 from by decide) z9)
  refine g_iconst (v := (-1)) hk dX12_read_173 (by decide) ?_
  refine pM_i14 hk hin12 (by decide +kernel) dX12_read_174 ?_
  refine gM_sameI rfl ?_
  refine g_aload_n hk dX12_read_177 rfl ?_
  refine gM_i6 (v := 0) hk hin12 (by decide +kernel) dX12_read_178 rfl ?_
  refine g_if_le (tgt := 189) (a := 0) hk dX12_read_181 (by decide) rfl (fun _ => ?_) (fun z9 => absurd (show 0 ≤ 0 from by decide) z9)
  refine g_aload_n hk dX12_read_189 rfl ?_
  refine gM_i8 (v := 0) hk hin12 (by decide +kernel) dX12_read_190 rfl ?_
  refine g_if_le (tgt := 201) (a := 0) hk dX12_read_193 (by decide) rfl (fun _ => ?_) (fun z9 => absurd (show 0 ≤ 0 from by decide) z9)
  refine g_aload_n hk dX12_read_201 rfl ?_
  refine g_aload_n hk dX12_read_202 rfl ?_
  refine gM_i16 (v := 1) hk hin12 (by decide +kernel) dX12_read_203 rfl ?_
  refine pM_i15 hk hin12 (by decide +kernel) dX12_read_206 ?_
  refine g_aload_n hk dX12_read_209 rfl ?_
  refine g_callV hk (m125_X12_begins l D zt g r) (SP.same _) (fun _ h => h) gX12_read_X12_begins rfl rfl rfl (by decide +kernel) ⟨Nat.le_of_ble_eq_true rfl, Nat.le_of_ble_eq_true rfl⟩ 0 rfl rfl rfl rfl (Nat.le_of_ble_eq_true rfl) ⟨Nat.le_of_ble_eq_true rfl, Nat.le_of_ble_eq_true rfl⟩ dX12_read_210 (fun v ty' w' hp hk' => ?_)
  obtain ⟨rfl, rfl⟩ := hp
  show GW κ 2 0 0 (wM r g (upd (upd (upd (upd iM1 3 1) 11 (-2)) 16 1) 15 1) (up3 (up3 (up2 aM1 18 (cp (fun _ => 0) (aM1 18) 165)) 18 161 2) 18 164 8) (up3L lM1 5 0 0)) 213 [(1, .int 0), (0, .ref (r 0))] []
  refine g_aload_n hk dX12_read_213 rfl ?_
  refine g_callV hk (m126_X12_keepsRow l D zt g r) (SP.same _) (fun _ h => h) gX12_read_X12_keepsRow rfl rfl rfl (by decide +kernel) ⟨Nat.le_of_ble_eq_true rfl, Nat.le_of_ble_eq_true rfl⟩ 0 rfl rfl rfl rfl (Nat.le_of_ble_eq_true rfl) ⟨Nat.le_of_ble_eq_true rfl, Nat.le_of_ble_eq_true rfl⟩ dX12_read_214 (fun v ty' w' hp hk' => ?_)
  obtain ⟨rfl, rfl⟩ := hp
  show GW κ 2 0 0 (wM r g (upd (upd (upd (upd iM1 3 1) 11 (-2)) 16 1) 15 1) (up2 (up3 (up3 (up2 aM1 18 (cp (fun _ => 0) (aM1 18) 165)) 18 161 2) 18 164 8) 17 (cp ((up3 (up3 (up2 aM1 18 (cp (fun _ => 0) (aM1 18) 165)) 18 161 2) 18 164 8) 18) ((up3 (up3 (up2 aM1 18 (cp (fun _ => 0) (aM1 18) 165)) 18 161 2) 18 164 8) 17) 165)) (up3L lM1 5 0 0)) 217 [(1, .int 0), (0, .ref (r 0))] []
  refine g_aload_n hk dX12_read_217 rfl ?_
  refine g_iconst (v := 0) hk dX12_read_218 (by decide) ?_
  refine pM_i22 hk hin12 (by decide +kernel) dX12_read_219 ?_
  refine gM_sameI rfl ?_
  refine g_iconst (v := 0) hk dX12_read_222 (by decide) ?_
  refine g_istore_n (lv' := [(1, .int 0), (0, .ref (r 0))]) hk dX12_read_223 (by decide) rfl ?_
  refine g_iload_n hk dX12_read_224 rfl ?_
  refine g_iconst (v := 3) hk dX12_read_225 (by decide) ?_
  refine g_icmp_ge (tgt := 242) (a := 0) (b := 3) hk dX12_read_226 (by decide) rfl rfl (fun z9 => absurd z9 (show ¬ (3 ≤ 0) from by decide)) (fun _ => ?_)
  refine g_aload_n hk dX12_read_229 rfl ?_
  refine gM_r0_53 hk hin12 (by decide +kernel) dX12_read_230 ?_
  refine g_iload_n hk dX12_read_233 rfl ?_
  refine g_iconst (v := 0) hk dX12_read_234 (by decide) ?_
  refine sM_27 (y := 0) (j := 0) hk (vp_in_iff.mpr ⟨by decide, by decide⟩) (by decide) rfl dX12_read_235 ?_
  refine gM_same rfl ?_
  refine g_iinc (v := 1) (lv' := [(1, .int 1), (0, .ref (r 0))]) hk 0 dX12_read_236 rfl (by decide) (by decide) rfl ?_
  refine g_goto (tgt := 224) hk dX12_read_239 (by decide) ?_
  refine g_iload_n hk dX12_read_224 rfl ?_
  refine g_iconst (v := 3) hk dX12_read_225 (by decide) ?_
  refine g_icmp_ge (tgt := 242) (a := 1) (b := 3) hk dX12_read_226 (by decide) rfl rfl (fun z9 => absurd z9 (show ¬ (3 ≤ 1) from by decide)) (fun _ => ?_)
  refine g_aload_n hk dX12_read_229 rfl ?_
  refine gM_r0_53 hk hin12 (by decide +kernel) dX12_read_230 ?_
  refine g_iload_n hk dX12_read_233 rfl ?_
  refine g_iconst (v := 0) hk dX12_read_234 (by decide) ?_
  refine sM_27 (y := 0) (j := 1) hk (vp_in_iff.mpr ⟨by decide, by decide⟩) (by decide) rfl dX12_read_235 ?_
  refine gM_same rfl ?_
  refine g_iinc (v := 2) (lv' := [(1, .int 2), (0, .ref (r 0))]) hk 0 dX12_read_236 rfl (by decide) (by decide) rfl ?_
  refine g_goto (tgt := 224) hk dX12_read_239 (by decide) ?_
  refine g_iload_n hk dX12_read_224 rfl ?_
  refine g_iconst (v := 3) hk dX12_read_225 (by decide) ?_
  refine g_icmp_ge (tgt := 242) (a := 2) (b := 3) hk dX12_read_226 (by decide) rfl rfl (fun z9 => absurd z9 (show ¬ (3 ≤ 2) from by decide)) (fun _ => ?_)
  refine g_aload_n hk dX12_read_229 rfl ?_
  refine gM_r0_53 hk hin12 (by decide +kernel) dX12_read_230 ?_
  refine g_iload_n hk dX12_read_233 rfl ?_
  refine g_iconst (v := 0) hk dX12_read_234 (by decide) ?_
  refine sM_27 (y := 0) (j := 2) hk (vp_in_iff.mpr ⟨by decide, by decide⟩) (by decide) rfl dX12_read_235 ?_
  refine gM_same rfl ?_
  refine g_iinc (v := 3) (lv' := [(1, .int 3), (0, .ref (r 0))]) hk 0 dX12_read_236 rfl (by decide) (by decide) rfl ?_
  refine g_goto (tgt := 224) hk dX12_read_239 (by decide) ?_
  refine g_iload_n hk dX12_read_224 rfl ?_
  refine g_iconst (v := 3) hk dX12_read_225 (by decide) ?_
  refine g_icmp_ge (tgt := 242) (a := 3) (b := 3) hk dX12_read_226 (by decide) rfl rfl (fun _ => ?_) (fun z9 => absurd (show 3 ≤ 3 from by decide) z9)
  refine g_iconst (v := 0) hk dX12_read_242 (by decide) ?_
  exact g_iret hk hR rfl ⟨rfl, rfl⟩ dX12_read_243
set_option maxHeartbeats 4000000 in
set_option maxRecDepth 100000 in
theorem m128_X12_place (l : Launch) (D : va_G) (zt : Nat × Nat × Nat) (g : Nat → ClassId) (r : Nat → Nat) : GM l D zt (tyM g) yX12_place wsX12_place ({ frames := 0, cells := 0, slots := 0, locals := 0 } : Room) [.ref (r 0)] (wM r g iM1 aM1 lM1) (fun v _ w' => v = some (.int (-1)) ∧ w' = wM r g iM1 aM1 lM1) 0 0 := by
  refine GM.of (cc := cX12_place) (maxL := 1) (ret := (some .int)) (own := RX12) (lv := [(0, .ref (r 0))]) (by decide) rfl rfl (Nat.le_of_ble_eq_true rfl) rfl (fun κ sz hk hR hN => ?_)
  have hin12 : ∀ w ∈ u_ws RX12 TX12 55, w ∈ wsX12_place := by decide +kernel
  refine g_aload_n hk dX12_place_0 rfl ?_
  refine gM_i10 (v := (-1)) hk hin12 (by decide +kernel) dX12_place_1 rfl ?_
  exact g_iret hk hR rfl ⟨rfl, rfl⟩ dX12_place_4
set_option maxHeartbeats 4000000 in
set_option maxRecDepth 100000 in
theorem m129_X12_cause (l : Launch) (D : va_G) (zt : Nat × Nat × Nat) (g : Nat → ClassId) (r : Nat → Nat) : GM l D zt (tyM g) yX12_cause wsX12_cause ({ frames := 0, cells := 0, slots := 0, locals := 0 } : Room) [.ref (r 0)] (wM r g iM1 aM1 lM1) (fun v _ w' => v = some (.int (-1)) ∧ w' = wM r g iM1 aM1 lM1) 0 0 := by
  refine GM.of (cc := cX12_cause) (maxL := 1) (ret := (some .int)) (own := RX12) (lv := [(0, .ref (r 0))]) (by decide) rfl rfl (Nat.le_of_ble_eq_true rfl) rfl (fun κ sz hk hR hN => ?_)
  have hin12 : ∀ w ∈ u_ws RX12 TX12 55, w ∈ wsX12_cause := by decide +kernel
  refine g_aload_n hk dX12_cause_0 rfl ?_
  refine gM_i14 (v := (-1)) hk hin12 (by decide +kernel) dX12_cause_1 rfl ?_
  exact g_iret hk hR rfl ⟨rfl, rfl⟩ dX12_cause_4
set_option maxHeartbeats 4000000 in
set_option maxRecDepth 100000 in
theorem m130_X12_in (l : Launch) (D : va_G) (zt : Nat × Nat × Nat) (g : Nat → ClassId) (r : Nat → Nat) (a0 : Int32) : GM l D zt (tyM g) yX12_in wsX12_in ({ frames := 0, cells := 0, slots := 0, locals := 0 } : Room) [.int a0, .int 0, .int (-1)] (wM r g iM1 aM1 lM1) (fun v _ w' => v = some (.int 0) ∧ w' = wM r g iM1 aM1 lM1) 0 0 := by
  refine GM.of (cc := cX12_in) (maxL := 3) (ret := (some .boolean)) (own := RX12) (lv := [(0, .int a0), (1, .int 0), (2, .int (-1))]) (by decide) rfl rfl (Nat.le_of_ble_eq_true rfl) rfl (fun κ sz hk hR hN => ?_)
  refine g_iload_n hk dX12_in_0 rfl ?_
  refine g_iload_n hk dX12_in_1 rfl ?_
  refine g_icmp_lt (tgt := 14) (a := a0.toInt) (b := 0) hk dX12_in_2 (by decide) rfl rfl (fun c335 => ?_) (fun c335 => ?_)
  · skip
    refine g_iconst (v := 0) hk dX12_in_14 (by decide) ?_
    exact g_iret hk hR rfl ⟨rfl, rfl⟩ dX12_in_15
  · skip
    refine g_iload_n hk dX12_in_5 rfl ?_
    refine g_iload_n hk dX12_in_6 rfl ?_
    refine g_icmp_gt (tgt := 14) (a := a0.toInt) (b := (-1)) hk dX12_in_7 (by decide) rfl rfl (fun _ => ?_) (fun z9 => absurd (show (-1) < a0.toInt from by omega) z9)
    refine g_iconst (v := 0) hk dX12_in_14 (by decide) ?_
    exact g_iret hk hR rfl ⟨rfl, rfl⟩ dX12_in_15
set_option maxHeartbeats 4000000 in
set_option maxRecDepth 100000 in
theorem m131_X12_isPlace (l : Launch) (D : va_G) (zt : Nat × Nat × Nat) (g : Nat → ClassId) (r : Nat → Nat) (a1 : Int32) : GM l D zt (tyM g) yX12_isPlace wsX12_isPlace ({ frames := 1, cells := 0, slots := 0, locals := 22 } : Room) [.ref (r 0), .int a1] (wM r g iM1 aM1 lM1) (fun v _ w' => v = some (.int 0) ∧ w' = wM r g iM1 aM1 lM1) 0 0 := by
  refine GM.of (cc := cX12_isPlace) (maxL := 2) (ret := (some .boolean)) (own := RX12) (lv := [(0, .ref (r 0)), (1, .int a1)]) (by decide) rfl rfl (Nat.le_of_ble_eq_true rfl) rfl (fun κ sz hk hR hN => ?_)
  have hin12 : ∀ w ∈ u_ws RX12 TX12 55, w ∈ wsX12_isPlace := by decide +kernel
  refine g_iload_n hk dX12_isPlace_0 rfl ?_
  refine g_iconst (v := 0) hk dX12_isPlace_1 (by decide) ?_
  refine g_aload_n hk dX12_isPlace_2 rfl ?_
  refine gM_r0_35 hk hin12 (by decide +kernel) dX12_isPlace_3 ?_
  refine g_iconst (v := 0) hk dX12_isPlace_6 (by decide) ?_
  refine lM_17 (v := 0) hk (vp_in_iff.mpr ⟨by decide, by decide⟩) rfl dX12_isPlace_7 ?_
  refine g_iconst (v := 1) hk dX12_isPlace_8 (by decide) ?_
  refine g_isub hk dX12_isPlace_9 ?_
  refine g_norm (v := (-1)) (by decide) ?_
  refine g_callS hk (m130_X12_in l D zt g r a1) (SP.same _) (fun _ h => h) gX12_isPlace_X12_in rfl rfl rfl (by decide +kernel) ⟨Nat.le_of_ble_eq_true rfl, Nat.le_of_ble_eq_true rfl⟩ rfl rfl (Nat.le_of_ble_eq_true rfl) ⟨Nat.le_of_ble_eq_true rfl, Nat.le_of_ble_eq_true rfl⟩ dX12_isPlace_10 (fun v ty' w' hp hk' => ?_)
  obtain ⟨rfl, rfl⟩ := hp
  show GW κ 2 0 0 (wM r g iM1 aM1 lM1) 13 [(0, .ref (r 0)), (1, .int a1)] [.int 0]
  exact g_iret hk hR rfl ⟨rfl, rfl⟩ dX12_isPlace_13
set_option maxHeartbeats 4000000 in
set_option maxRecDepth 100000 in
theorem m132_X12_isThere (l : Launch) (D : va_G) (zt : Nat × Nat × Nat) (g : Nat → ClassId) (r : Nat → Nat) (a1 : Int32) : GM l D zt (tyM g) yX12_isThere wsX12_isThere ({ frames := 2, cells := 0, slots := 0, locals := 43 } : Room) [.ref (r 0), .int a1] (wM r g iM1 aM1 lM1) (fun v _ w' => v = some (.int 0) ∧ w' = wM r g iM1 aM1 lM1) 0 0 := by
  refine GM.of (cc := cX12_isThere) (maxL := 2) (ret := (some .boolean)) (own := RX12) (lv := [(0, .ref (r 0)), (1, .int a1)]) (by decide) rfl rfl (Nat.le_of_ble_eq_true rfl) rfl (fun κ sz hk hR hN => ?_)
  refine g_aload_n hk dX12_isThere_0 rfl ?_
  refine g_iload_n hk dX12_isThere_1 rfl ?_
  refine g_callV hk (m131_X12_isPlace l D zt g r a1) (SP.same _) (fun _ h => h) gX12_isThere_X12_isPlace rfl rfl rfl (by decide +kernel) ⟨Nat.le_of_ble_eq_true rfl, Nat.le_of_ble_eq_true rfl⟩ 0 rfl rfl rfl rfl (Nat.le_of_ble_eq_true rfl) ⟨Nat.le_of_ble_eq_true rfl, Nat.le_of_ble_eq_true rfl⟩ dX12_isThere_2 (fun v ty' w' hp hk' => ?_)
  obtain ⟨rfl, rfl⟩ := hp
  show GW κ 2 0 0 (wM r g iM1 aM1 lM1) 5 [(0, .ref (r 0)), (1, .int a1)] [.int 0]
  refine g_if_eq (tgt := 25) (a := 0) hk dX12_isThere_5 (by decide) rfl (fun _ => ?_) (fun z9 => absurd (show 0 = 0 from by decide) z9)
  refine g_iconst (v := 0) hk dX12_isThere_25 (by decide) ?_
  exact g_iret hk hR rfl ⟨rfl, rfl⟩ dX12_isThere_26
set_option maxHeartbeats 4000000 in
set_option maxRecDepth 100000 in
theorem m133_X12_at (l : Launch) (D : va_G) (zt : Nat × Nat × Nat) (g : Nat → ClassId) (r : Nat → Nat) (a1 : Int32) : GM l D zt (tyM g) yX12_at wsX12_at ({ frames := 3, cells := 0, slots := 0, locals := 64 } : Room) [.ref (r 0), .int a1] (wM r g iM1 aM1 lM1) (fun v _ w' => v = some (.int (-1000)) ∧ w' = wM r g iM1 aM1 lM1) 0 0 := by
  refine GM.of (cc := cX12_at) (maxL := 2) (ret := (some .int)) (own := RX12) (lv := [(0, .ref (r 0)), (1, .int a1)]) (by decide) rfl rfl (Nat.le_of_ble_eq_true rfl) rfl (fun κ sz hk hR hN => ?_)
  refine g_aload_n hk dX12_at_0 rfl ?_
  refine g_iload_n hk dX12_at_1 rfl ?_
  refine g_callV hk (m132_X12_isThere l D zt g r a1) (SP.same _) (fun _ h => h) gX12_at_X12_isThere rfl rfl rfl (by decide +kernel) ⟨Nat.le_of_ble_eq_true rfl, Nat.le_of_ble_eq_true rfl⟩ 0 rfl rfl rfl rfl (Nat.le_of_ble_eq_true rfl) ⟨Nat.le_of_ble_eq_true rfl, Nat.le_of_ble_eq_true rfl⟩ dX12_at_2 (fun v ty' w' hp hk' => ?_)
  obtain ⟨rfl, rfl⟩ := hp
  show GW κ 2 0 0 (wM r g iM1 aM1 lM1) 5 [(0, .ref (r 0)), (1, .int a1)] [.int 0]
  refine g_if_eq (tgt := 19) (a := 0) hk dX12_at_5 (by decide) rfl (fun _ => ?_) (fun z9 => absurd (show 0 = 0 from by decide) z9)
  refine g_sipush (v := (-1000)) hk dX12_at_19 (by decide) ?_
  exact g_iret hk hR rfl ⟨rfl, rfl⟩ dX12_at_22
set_option maxHeartbeats 4000000 in
set_option maxRecDepth 100000 in
theorem m134_X12_isQuery (l : Launch) (D : va_G) (zt : Nat × Nat × Nat) (g : Nat → ClassId) (r : Nat → Nat) (a1 : Int32) : GM l D zt (tyM g) yX12_isQuery wsX12_isQuery ({ frames := 1, cells := 0, slots := 0, locals := 22 } : Room) [.ref (r 0), .int a1] (wM r g iM1 aM1 lM1) (fun v _ w' => v = some (.int 0) ∧ w' = wM r g iM1 aM1 lM1) 0 0 := by
  refine GM.of (cc := cX12_isQuery) (maxL := 2) (ret := (some .boolean)) (own := RX12) (lv := [(0, .ref (r 0)), (1, .int a1)]) (by decide) rfl rfl (Nat.le_of_ble_eq_true rfl) rfl (fun κ sz hk hR hN => ?_)
  have hin12 : ∀ w ∈ u_ws RX12 TX12 55, w ∈ wsX12_isQuery := by decide +kernel
  refine g_iload_n hk dX12_isQuery_0 rfl ?_
  refine g_iconst (v := 0) hk dX12_isQuery_1 (by decide) ?_
  refine g_aload_n hk dX12_isQuery_2 rfl ?_
  refine gM_r0_28 hk hin12 (by decide +kernel) dX12_isQuery_3 ?_
  refine g_aload_n hk dX12_isQuery_6 rfl ?_
  refine gM_i15 (v := 0) hk hin12 (by decide +kernel) dX12_isQuery_7 rfl ?_
  refine lM_10 (v := 0) hk (vp_in_iff.mpr ⟨by decide, by decide⟩) rfl dX12_isQuery_10 ?_
  refine g_iconst (v := 1) hk dX12_isQuery_11 (by decide) ?_
  refine g_isub hk dX12_isQuery_12 ?_
  refine g_norm (v := (-1)) (by decide) ?_
  refine g_callS hk (m130_X12_in l D zt g r a1) (SP.same _) (fun _ h => h) gX12_isQuery_X12_in rfl rfl rfl (by decide +kernel) ⟨Nat.le_of_ble_eq_true rfl, Nat.le_of_ble_eq_true rfl⟩ rfl rfl (Nat.le_of_ble_eq_true rfl) ⟨Nat.le_of_ble_eq_true rfl, Nat.le_of_ble_eq_true rfl⟩ dX12_isQuery_13 (fun v ty' w' hp hk' => ?_)
  obtain ⟨rfl, rfl⟩ := hp
  show GW κ 2 0 0 (wM r g iM1 aM1 lM1) 16 [(0, .ref (r 0)), (1, .int a1)] [.int 0]
  exact g_iret hk hR rfl ⟨rfl, rfl⟩ dX12_isQuery_16
set_option maxHeartbeats 4000000 in
set_option maxRecDepth 100000 in
theorem m135_X12_query (l : Launch) (D : va_G) (zt : Nat × Nat × Nat) (g : Nat → ClassId) (r : Nat → Nat) (a1 : Int32) (a2 : Int32) : GM l D zt (tyM g) yX12_query wsX12_query ({ frames := 2, cells := 0, slots := 0, locals := 43 } : Room) [.ref (r 0), .int a1, .int a2] (wM r g iM1 aM1 lM1) (fun v _ w' => v = some (.int (-1000)) ∧ w' = wM r g iM1 aM1 lM1) 0 0 := by
  refine GM.of (cc := cX12_query) (maxL := 3) (ret := (some .int)) (own := RX12) (lv := [(0, .ref (r 0)), (1, .int a1), (2, .int a2)]) (by decide) rfl rfl (Nat.le_of_ble_eq_true rfl) rfl (fun κ sz hk hR hN => ?_)
  refine g_aload_n hk dX12_query_0 rfl ?_
  refine g_iload_n hk dX12_query_1 rfl ?_
  refine g_callV hk (m134_X12_isQuery l D zt g r a1) (SP.same _) (fun _ h => h) gX12_query_X12_isQuery rfl rfl rfl (by decide +kernel) ⟨Nat.le_of_ble_eq_true rfl, Nat.le_of_ble_eq_true rfl⟩ 0 rfl rfl rfl rfl (Nat.le_of_ble_eq_true rfl) ⟨Nat.le_of_ble_eq_true rfl, Nat.le_of_ble_eq_true rfl⟩ dX12_query_2 (fun v ty' w' hp hk' => ?_)
  obtain ⟨rfl, rfl⟩ := hp
  show GW κ 3 0 0 (wM r g iM1 aM1 lM1) 5 [(0, .ref (r 0)), (1, .int a1), (2, .int a2)] [.int 0]
  refine g_if_eq (tgt := 44) (a := 0) hk dX12_query_5 (by decide) rfl (fun _ => ?_) (fun z9 => absurd (show 0 = 0 from by decide) z9)
  refine g_sipush (v := (-1000)) hk dX12_query_44 (by decide) ?_
  exact g_iret hk hR rfl ⟨rfl, rfl⟩ dX12_query_47
set_option maxHeartbeats 4000000 in
set_option maxRecDepth 100000 in
theorem m136_X12_in (l : Launch) (D : va_G) (zt : Nat × Nat × Nat) (g : Nat → ClassId) (r : Nat → Nat) (a0 : Int32) : GM l D zt (tyM g) yX12_in wsX12_in ({ frames := 0, cells := 0, slots := 0, locals := 0 } : Room) [.int a0, .int (-999), .int 999] (wM r g iM1 aM1 lM1) (fun v _ w' => ((a0.toInt < (-999)) ∧ v = some (.int 0) ∧ w' = wM r g iM1 aM1 lM1) ∨ ((¬ (a0.toInt < (-999))) ∧ (999 < a0.toInt) ∧ v = some (.int 0) ∧ w' = wM r g iM1 aM1 lM1) ∨ ((¬ (a0.toInt < (-999))) ∧ (¬ (999 < a0.toInt)) ∧ v = some (.int 1) ∧ w' = wM r g iM1 aM1 lM1)) 0 0 := by
  refine GM.of (cc := cX12_in) (maxL := 3) (ret := (some .boolean)) (own := RX12) (lv := [(0, .int a0), (1, .int (-999)), (2, .int 999)]) (by decide) rfl rfl (Nat.le_of_ble_eq_true rfl) rfl (fun κ sz hk hR hN => ?_)
  refine g_iload_n hk dX12_in_0 rfl ?_
  refine g_iload_n hk dX12_in_1 rfl ?_
  refine g_icmp_lt (tgt := 14) (a := a0.toInt) (b := (-999)) hk dX12_in_2 (by decide) rfl rfl (fun c336 => ?_) (fun c336 => ?_)
  · skip
    refine g_iconst (v := 0) hk dX12_in_14 (by decide) ?_
    exact g_iret hk hR rfl (Or.inl ⟨c336, rfl, rfl⟩) dX12_in_15
  · skip
    refine g_iload_n hk dX12_in_5 rfl ?_
    refine g_iload_n hk dX12_in_6 rfl ?_
    refine g_icmp_gt (tgt := 14) (a := a0.toInt) (b := 999) hk dX12_in_7 (by decide) rfl rfl (fun c337 => ?_) (fun c337 => ?_)
    · skip
      refine g_iconst (v := 0) hk dX12_in_14 (by decide) ?_
      exact g_iret hk hR rfl (Or.inr (Or.inl ⟨c336, c337, rfl, rfl⟩)) dX12_in_15
    · skip
      refine g_iconst (v := 1) hk dX12_in_10 (by decide) ?_
      refine g_goto (tgt := 15) hk dX12_in_11 (by decide) ?_
      exact g_iret hk hR rfl (Or.inr (Or.inr (⟨c336, c337, rfl, rfl⟩))) dX12_in_15
set_option maxHeartbeats 4000000 in
set_option maxRecDepth 100000 in
theorem m137_X12_copies (l : Launch) (D : va_G) (zt : Nat × Nat × Nat) (g : Nat → ClassId) (r : Nat → Nat) : GM l D zt (tyM g) yX12_copies wsX12_copies ({ frames := 0, cells := 0, slots := 0, locals := 0 } : Room) [.ref (r 0)] (wM r g iM1 aM1 lM1) (fun v _ w' => v = none ∧ w' = wM r g iM1 (up2 aM1 18 (cp (aM1 17) (aM1 18) 165)) lM1) 0 0 := by
  refine GM.of (cc := cX12_copies) (maxL := 2) (ret := none) (own := RX12) (lv := [(0, .ref (r 0))]) (by decide) rfl rfl (Nat.le_of_ble_eq_true rfl) rfl (fun κ sz hk hR hN => ?_)
  refine g_iconst (v := 0) hk dX12_copies_0 (by decide) ?_
  refine g_istore_n (lv' := [(1, .int 0), (0, .ref (r 0))]) hk dX12_copies_1 (by decide) rfl ?_
  have lp343 : ∀ (n345 k344 : Nat), k344 + n345 = 165 → GW κ 2 0 0 (wM r g iM1 (up2 aM1 18 (cp (aM1 17) (aM1 18) k344)) lM1) 2 [(1, .int (nI k344)), (0, .ref (r 0))] [] := by
    intro n345
    induction n345 with
    | zero =>
      intro k344 hk344
      obtain rfl : k344 = 165 := by omega
      show GW κ 2 0 0 (wM r g iM1 (up2 aM1 18 (cp (aM1 17) (aM1 18) 165)) lM1) 2 [(1, .int 165), (0, .ref (r 0))] []
      refine g_iload_n hk dX12_copies_2 rfl ?_
      refine g_sipush (v := 165) hk dX12_copies_3 (by decide) ?_
      refine g_icmp_ge (tgt := 27) (a := 165) (b := 165) hk dX12_copies_6 (by decide) rfl rfl (fun _ => ?_) (fun z9 => absurd (show 165 ≤ 165 from by decide) z9)
      exact g_vret hk hR ⟨rfl, rfl⟩ dX12_copies_27
    | succ n345 ih =>
      intro k344 hk344
      obtain ⟨x346, ex346⟩ : ∃ x : Int32, x = nI k344 := ⟨_, rfl⟩
      have hx346 : x346.toInt = (k344 : Int) := by rw [ex346]; exact nI_toInt (by omega)
      rw [← ex346]
      rw [ex346]
      have eW : wM r g iM1 (up2 aM1 18 (cp (aM1 17) (aM1 18) k344)) lM1 = wM r g iM1 (up2 aM1 18 (cp (aM1 17) (aM1 18) (k344))) lM1 := by rw [← cp_s (aM1 17) (aM1 18) (k344)]; rfl
      rw [eW]
      exact g_lv (List.forall_mem_cons.mpr ⟨List.mem_of_getElem? (i := 0) rfl, (List.forall_mem_cons.mpr ⟨List.mem_of_getElem? (i := 1) rfl, (fun _ h => absurd h List.not_mem_nil)⟩)⟩) (ih (k344) (by omega))
  exact lp343 165 0 (by omega)
set_option maxHeartbeats 4000000 in
set_option maxRecDepth 100000 in
theorem m138_X12_keepsRow (l : Launch) (D : va_G) (zt : Nat × Nat × Nat) (F351 : Nat → Int32) (g : Nat → ClassId) (r : Nat → Nat) : GM l D zt (tyM g) yX12_keepsRow wsX12_keepsRow ({ frames := 0, cells := 0, slots := 0, locals := 0 } : Room) [.ref (r 0)] (wM r g (upd iM1 22 1) (up2 (up3 (up3 (up2 aM1 18 (cp (aM1 17) (aM1 18) 165)) 18 1 a1) 18 0 1) 22 F351) lM1) (fun v _ w' => v = none ∧ w' = wM r g (upd iM1 22 1) (up2 (up2 (up3 (up3 (up2 aM1 18 (cp (aM1 17) (aM1 18) 165)) 18 1 a1) 18 0 1) 22 F351) 17 (cp ((up2 (up3 (up3 (up2 aM1 18 (cp (aM1 17) (aM1 18) 165)) 18 1 a1) 18 0 1) 22 F351) 18) ((up2 (up3 (up3 (up2 aM1 18 (cp (aM1 17) (aM1 18) 165)) 18 1 a1) 18 0 1) 22 F351) 17) 165)) lM1) 0 0 := by
  refine GM.of (cc := cX12_keepsRow) (maxL := 2) (ret := none) (own := RX12) (lv := [(0, .ref (r 0))]) (by decide) rfl rfl (Nat.le_of_ble_eq_true rfl) rfl (fun κ sz hk hR hN => ?_)
  refine g_iconst (v := 0) hk dX12_keepsRow_0 (by decide) ?_
  refine g_istore_n (lv' := [(1, .int 0), (0, .ref (r 0))]) hk dX12_keepsRow_1 (by decide) rfl ?_
  have lp352 : ∀ (n354 k353 : Nat), k353 + n354 = 165 → GW κ 2 0 0 (wM r g (upd iM1 22 1) (up2 (up2 (up3 (up3 (up2 aM1 18 (cp (aM1 17) (aM1 18) 165)) 18 1 a1) 18 0 1) 22 F351) 17 (cp ((up2 (up3 (up3 (up2 aM1 18 (cp (aM1 17) (aM1 18) 165)) 18 1 a1) 18 0 1) 22 F351) 18) ((up2 (up3 (up3 (up2 aM1 18 (cp (aM1 17) (aM1 18) 165)) 18 1 a1) 18 0 1) 22 F351) 17) k353)) lM1) 2 [(1, .int (nI k353)), (0, .ref (r 0))] [] := by
    intro n354
    induction n354 with
    | zero =>
      intro k353 hk353
      obtain rfl : k353 = 165 := by omega
      show GW κ 2 0 0 (wM r g (upd iM1 22 1) (up2 (up2 (up3 (up3 (up2 aM1 18 (cp (aM1 17) (aM1 18) 165)) 18 1 a1) 18 0 1) 22 F351) 17 (cp ((up2 (up3 (up3 (up2 aM1 18 (cp (aM1 17) (aM1 18) 165)) 18 1 a1) 18 0 1) 22 F351) 18) ((up2 (up3 (up3 (up2 aM1 18 (cp (aM1 17) (aM1 18) 165)) 18 1 a1) 18 0 1) 22 F351) 17) 165)) lM1) 2 [(1, .int 165), (0, .ref (r 0))] []
      refine g_iload_n hk dX12_keepsRow_2 rfl ?_
      refine g_sipush (v := 165) hk dX12_keepsRow_3 (by decide) ?_
      refine g_icmp_ge (tgt := 27) (a := 165) (b := 165) hk dX12_keepsRow_6 (by decide) rfl rfl (fun _ => ?_) (fun z9 => absurd (show 165 ≤ 165 from by decide) z9)
      exact g_vret hk hR ⟨rfl, rfl⟩ dX12_keepsRow_27
    | succ n354 ih =>
      intro k353 hk353
      obtain ⟨x355, ex355⟩ : ∃ x : Int32, x = nI k353 := ⟨_, rfl⟩
      have hx355 : x355.toInt = (k353 : Int) := by rw [ex355]; exact nI_toInt (by omega)
      rw [← ex355]
      rw [ex355]
      have eW : wM r g (upd iM1 22 1) (up2 (up2 (up3 (up3 (up2 aM1 18 (cp (aM1 17) (aM1 18) 165)) 18 1 a1) 18 0 1) 22 F351) 17 (cp ((up2 (up3 (up3 (up2 aM1 18 (cp (aM1 17) (aM1 18) 165)) 18 1 a1) 18 0 1) 22 F351) 18) ((up2 (up3 (up3 (up2 aM1 18 (cp (aM1 17) (aM1 18) 165)) 18 1 a1) 18 0 1) 22 F351) 17) k353)) lM1 = wM r g (upd iM1 22 1) (up2 (up2 (up3 (up3 (up2 aM1 18 (cp (aM1 17) (aM1 18) 165)) 18 1 a1) 18 0 1) 22 F351) 17 (cp ((up2 (up3 (up3 (up2 aM1 18 (cp (aM1 17) (aM1 18) 165)) 18 1 a1) 18 0 1) 22 F351) 18) ((up2 (up3 (up3 (up2 aM1 18 (cp (aM1 17) (aM1 18) 165)) 18 1 a1) 18 0 1) 22 F351) 17) (k353))) lM1 := by rw [← cp_s ((up2 (up3 (up3 (up2 aM1 18 (cp (aM1 17) (aM1 18) 165)) 18 1 a1) 18 0 1) 22 F351) 18) ((up2 (up3 (up3 (up2 aM1 18 (cp (aM1 17) (aM1 18) 165)) 18 1 a1) 18 0 1) 22 F351) 17) (k353)]; rfl
      rw [eW]
      exact g_lv (List.forall_mem_cons.mpr ⟨List.mem_of_getElem? (i := 0) rfl, (List.forall_mem_cons.mpr ⟨List.mem_of_getElem? (i := 1) rfl, (fun _ h => absurd h List.not_mem_nil)⟩)⟩) (ih (k353) (by omega))
  exact lp352 165 0 (by omega)
set_option maxHeartbeats 4000000 in
set_option maxRecDepth 100000 in
theorem m139_X12_records (l : Launch) (D : va_G) (zt : Nat × Nat × Nat) (g : Nat → ClassId) (r : Nat → Nat) : GM l D zt (tyM g) yX12_records wsX12_records ({ frames := 1, cells := 0, slots := 0, locals := 21 } : Room) [.ref (r 0)] (wM r g iM1 (up3 (up3 (up2 aM1 18 (cp (aM1 17) (aM1 18) 165)) 18 1 a1) 18 0 1) lM1) (fun v _ w' => ∃ (F351 : Nat → Int32), v = none ∧ w' = wM r g (upd iM1 22 1) (up2 (up2 (up3 (up3 (up2 aM1 18 (cp (aM1 17) (aM1 18) 165)) 18 1 a1) 18 0 1) 22 F351) 17 (cp ((up2 (up3 (up3 (up2 aM1 18 (cp (aM1 17) (aM1 18) 165)) 18 1 a1) 18 0 1) 22 F351) 18) ((up2 (up3 (up3 (up2 aM1 18 (cp (aM1 17) (aM1 18) 165)) 18 1 a1) 18 0 1) 22 F351) 17) 165)) lM1) 0 0 := by
  refine GM.of (cc := cX12_records) (maxL := 2) (ret := none) (own := RX12) (lv := [(0, .ref (r 0))]) (by decide) rfl rfl (Nat.le_of_ble_eq_true rfl) rfl (fun κ sz hk hR hN => ?_)
  have hin12 : ∀ w ∈ u_ws RX12 TX12 55, w ∈ wsX12_records := by decide +kernel
  refine g_aload_n hk dX12_records_0 rfl ?_
  refine gM_i22 (v := 0) hk hin12 (by decide +kernel) dX12_records_1 rfl ?_
  refine g_bipush (v := 40) hk dX12_records_4 (by decide) ?_
  refine g_icmp_ne (tgt := 50) (a := 0) (b := 40) hk dX12_records_6 (by decide) rfl rfl (fun _ => ?_) (fun z9 => absurd (show 0 ≠ 40 from by decide) z9)
  refine g_iconst (v := 0) hk dX12_records_50 (by decide) ?_
  refine g_istore_n (lv' := [(1, .int 0), (0, .ref (r 0))]) hk dX12_records_51 (by decide) rfl ?_
  have lp347 : ∀ (n349 k348 : Nat) (F351 : Nat → Int32), k348 + n349 = 165 → GW κ 2 0 0 (wM r g iM1 (up2 (up3 (up3 (up2 aM1 18 (cp (aM1 17) (aM1 18) 165)) 18 1 a1) 18 0 1) 22 F351) lM1) 52 [(1, .int (nI k348)), (0, .ref (r 0))] [] := by
    intro n349
    induction n349 with
    | zero =>
      intro k348 F351 hk348
      obtain rfl : k348 = 165 := by omega
      show GW κ 2 0 0 (wM r g iM1 (up2 (up3 (up3 (up2 aM1 18 (cp (aM1 17) (aM1 18) 165)) 18 1 a1) 18 0 1) 22 F351) lM1) 52 [(1, .int 165), (0, .ref (r 0))] []
      refine g_iload_n hk dX12_records_52 rfl ?_
      refine g_sipush (v := 165) hk dX12_records_53 (by decide) ?_
      refine g_icmp_ge (tgt := 86) (a := 165) (b := 165) hk dX12_records_56 (by decide) rfl rfl (fun _ => ?_) (fun z9 => absurd (show 165 ≤ 165 from by decide) z9)
      refine g_aload_n hk dX12_records_86 rfl ?_
      refine g_dup hk dX12_records_87 rfl ?_
      refine gM_i22 (v := 0) hk hin12 (by decide +kernel) dX12_records_88 rfl ?_
      refine g_iconst (v := 1) hk dX12_records_91 (by decide) ?_
      refine g_iadd hk dX12_records_92 ?_
      refine g_norm (v := 1) (by decide) ?_
      refine pM_i22 hk hin12 (by decide +kernel) dX12_records_93 ?_
      refine g_aload_n hk dX12_records_96 rfl ?_
      refine g_callV hk (m138_X12_keepsRow l D zt F351 g r) (SP.same _) (fun _ h => h) gX12_records_X12_keepsRow rfl rfl rfl (by decide +kernel) ⟨Nat.le_of_ble_eq_true rfl, Nat.le_of_ble_eq_true rfl⟩ 0 rfl rfl rfl rfl (Nat.le_of_ble_eq_true rfl) ⟨Nat.le_of_ble_eq_true rfl, Nat.le_of_ble_eq_true rfl⟩ dX12_records_97 (fun v ty' w' hp hk' => ?_)
      obtain ⟨rfl, rfl⟩ := hp
      show GW κ 2 0 0 (wM r g (upd iM1 22 1) (up2 (up2 (up3 (up3 (up2 aM1 18 (cp (aM1 17) (aM1 18) 165)) 18 1 a1) 18 0 1) 22 F351) 17 (cp ((up2 (up3 (up3 (up2 aM1 18 (cp (aM1 17) (aM1 18) 165)) 18 1 a1) 18 0 1) 22 F351) 18) ((up2 (up3 (up3 (up2 aM1 18 (cp (aM1 17) (aM1 18) 165)) 18 1 a1) 18 0 1) 22 F351) 17) 165)) lM1) 100 [(1, .int 165), (0, .ref (r 0))] []
      exact g_vret hk hR ⟨F351, rfl, rfl⟩ dX12_records_100
    | succ n349 ih =>
      intro k348 F351 hk348
      obtain ⟨x350, ex350⟩ : ∃ x : Int32, x = nI k348 := ⟨_, rfl⟩
      have hx350 : x350.toInt = (k348 : Int) := by rw [ex350]; exact nI_toInt (by omega)
      rw [← ex350]
      rw [ex350]
      exact g_lv (List.forall_mem_cons.mpr ⟨List.mem_of_getElem? (i := 0) rfl, (List.forall_mem_cons.mpr ⟨List.mem_of_getElem? (i := 1) rfl, (fun _ h => absurd h List.not_mem_nil)⟩)⟩) (ih (k348) (None) (by omega))
  exact lp347 165 0 ((up3 (up3 (up2 aM1 18 (cp (aM1 17) (aM1 18) 165)) 18 1 a1) 18 0 1) 22) (by omega)
set_option maxHeartbeats 4000000 in
set_option maxRecDepth 100000 in
theorem m140_X12_comes (l : Launch) (D : va_G) (zt : Nat × Nat × Nat) (g : Nat → ClassId) (r : Nat → Nat) (a1 : Int32) (h0 : (-999) ≤ a1.toInt) (h1 : a1.toInt ≤ 999) : GM l D zt (tyM g) yX12_comes wsX12_comes ({ frames := 2, cells := 0, slots := 0, locals := 42 } : Room) [.ref (r 0), .int a1] (wM r g iM1 aM1 lM1) (fun v _ w' => ∃ (y356 : Nat → Int32), v = some (.int 1) ∧ w' = wM r g (upd iM1 22 1) (up2 (up2 (up3 (up3 (up2 aM1 18 (cp (aM1 17) (aM1 18) 165)) 18 1 a1) 18 0 1) 22 y356) 17 (cp ((up2 (up3 (up3 (up2 aM1 18 (cp (aM1 17) (aM1 18) 165)) 18 1 a1) 18 0 1) 22 y356) 18) ((up2 (up3 (up3 (up2 aM1 18 (cp (aM1 17) (aM1 18) 165)) 18 1 a1) 18 0 1) 22 y356) 17) 165)) lM1) 0 0 := by
  refine GM.of (cc := cX12_comes) (maxL := 2) (ret := (some .int)) (own := RX12) (lv := [(0, .ref (r 0)), (1, .int a1)]) (by decide) rfl rfl (Nat.le_of_ble_eq_true rfl) rfl (fun κ sz hk hR hN => ?_)
  have hin12 : ∀ w ∈ u_ws RX12 TX12 55, w ∈ wsX12_comes := by decide +kernel
  refine g_aload_n hk dX12_comes_0 rfl ?_
  refine gM_r0_35 hk hin12 (by decide +kernel) dX12_comes_1 ?_
  refine g_iconst (v := 0) hk dX12_comes_4 (by decide) ?_
  refine lM_17 (v := 0) hk (vp_in_iff.mpr ⟨by decide, by decide⟩) rfl dX12_comes_5 ?_
  refine g_sipush (v := 160) hk dX12_comes_6 (by decide) ?_
  refine g_icmp_ne (tgt := 14) (a := 0) (b := 160) hk dX12_comes_9 (by decide) rfl rfl (fun _ => ?_) (fun z9 => absurd (show 0 ≠ 160 from by decide) z9)
  refine g_aload_n hk dX12_comes_14 rfl ?_
  refine g_callV hk (m137_X12_copies l D zt g r) (SP.same _) (fun _ h => h) gX12_comes_X12_copies rfl rfl rfl (by decide +kernel) ⟨Nat.le_of_ble_eq_true rfl, Nat.le_of_ble_eq_true rfl⟩ 0 rfl rfl rfl rfl (Nat.le_of_ble_eq_true rfl) ⟨Nat.le_of_ble_eq_true rfl, Nat.le_of_ble_eq_true rfl⟩ dX12_comes_15 (fun v ty' w' hp hk' => ?_)
  obtain ⟨rfl, rfl⟩ := hp
  show GW κ 2 0 0 (wM r g iM1 (up2 aM1 18 (cp (aM1 17) (aM1 18) 165)) lM1) 18 [(0, .ref (r 0)), (1, .int a1)] []
  refine g_aload_n hk dX12_comes_18 rfl ?_
  refine gM_r0_36 hk hin12 (by decide +kernel) dX12_comes_19 ?_
  refine g_iconst (v := 1) hk dX12_comes_22 (by decide) ?_
  refine g_aload_n hk dX12_comes_23 rfl ?_
  refine gM_r0_36 hk hin12 (by decide +kernel) dX12_comes_24 ?_
  refine g_iconst (v := 0) hk dX12_comes_27 (by decide) ?_
  refine lM_18 (v := 0) hk (vp_in_iff.mpr ⟨by decide, by decide⟩) rfl dX12_comes_28 ?_
  refine g_iadd hk dX12_comes_29 ?_
  refine g_norm (v := 1) (by decide) ?_
  refine g_iload_n hk dX12_comes_30 rfl ?_
  refine sM_18 (j := 1) hk (vp_in_iff.mpr ⟨by decide, by decide⟩) (by decide) dX12_comes_31 ?_
  refine g_aload_n hk dX12_comes_32 rfl ?_
  refine gM_r0_36 hk hin12 (by decide +kernel) dX12_comes_33 ?_
  refine g_iconst (v := 0) hk dX12_comes_36 (by decide) ?_
  refine g_dup2 hk dX12_comes_37 rfl rfl ?_
  refine lM_18 (v := 0) hk (vp_in_iff.mpr ⟨by decide, by decide⟩) rfl dX12_comes_38 ?_
  refine g_iconst (v := 1) hk dX12_comes_39 (by decide) ?_
  refine g_iadd hk dX12_comes_40 ?_
  refine g_norm (v := 1) (by decide) ?_
  refine sM_18 (j := 0) hk (vp_in_iff.mpr ⟨by decide, by decide⟩) (by decide) dX12_comes_41 ?_
  refine g_aload_n hk dX12_comes_42 rfl ?_
  refine g_callV hk (m139_X12_records l D zt g r) (SP.same _) (fun _ h => h) gX12_comes_X12_records rfl rfl rfl (by decide +kernel) ⟨Nat.le_of_ble_eq_true rfl, Nat.le_of_ble_eq_true rfl⟩ 0 rfl rfl rfl rfl (Nat.le_of_ble_eq_true rfl) ⟨Nat.le_of_ble_eq_true rfl, Nat.le_of_ble_eq_true rfl⟩ dX12_comes_43 (fun v ty' w' hp hk' => ?_)
  obtain ⟨y356, rfl, rfl⟩ := hp
  show GW κ 2 0 0 (wM r g (upd iM1 22 1) (up2 (up2 (up3 (up3 (up2 aM1 18 (cp (aM1 17) (aM1 18) 165)) 18 1 a1) 18 0 1) 22 y356) 17 (cp ((up2 (up3 (up3 (up2 aM1 18 (cp (aM1 17) (aM1 18) 165)) 18 1 a1) 18 0 1) 22 y356) 18) ((up2 (up3 (up3 (up2 aM1 18 (cp (aM1 17) (aM1 18) 165)) 18 1 a1) 18 0 1) 22 y356) 17) 165)) lM1) 46 [(0, .ref (r 0)), (1, .int a1)] []
  refine g_aload_n hk dX12_comes_46 rfl ?_
  refine gM_r0_35 hk hin12 (by decide +kernel) dX12_comes_47 ?_
  refine g_iconst (v := 0) hk dX12_comes_50 (by decide) ?_
  refine lM_17 (v := 1) hk (vp_in_iff.mpr ⟨by decide, by decide⟩) rfl dX12_comes_51 ?_
  exact g_iret hk hR rfl ⟨y356, rfl, rfl⟩ dX12_comes_52
set_option maxHeartbeats 4000000 in
set_option maxRecDepth 100000 in
theorem m141_X12_push (l : Launch) (D : va_G) (zt : Nat × Nat × Nat) (g : Nat → ClassId) (r : Nat → Nat) (a1 : Int32) : GM l D zt (tyM g) yX12_push wsX12_push ({ frames := 3, cells := 0, slots := 0, locals := 63 } : Room) [.ref (r 0), .int a1] (wM r g iM1 aM1 lM1) (fun v _ w' => ((a1.toInt < (-999)) ∧ v = some (.int (-1)) ∧ w' = wM r g iM1 aM1 lM1) ∨ ((¬ (a1.toInt < (-999))) ∧ (999 < a1.toInt) ∧ v = some (.int (-1)) ∧ w' = wM r g iM1 aM1 lM1) ∨ (∃ (y357 : Nat → Int32), (¬ (a1.toInt < (-999))) ∧ (¬ (999 < a1.toInt)) ∧ v = some (.int 1) ∧ w' = wM r g (upd iM1 22 1) (up2 (up2 (up3 (up3 (up2 aM1 18 (cp (aM1 17) (aM1 18) 165)) 18 1 a1) 18 0 1) 22 y357) 17 (cp ((up2 (up3 (up3 (up2 aM1 18 (cp (aM1 17) (aM1 18) 165)) 18 1 a1) 18 0 1) 22 y357) 18) ((up2 (up3 (up3 (up2 aM1 18 (cp (aM1 17) (aM1 18) 165)) 18 1 a1) 18 0 1) 22 y357) 17) 165)) lM1)) 0 0 := by
  refine GM.of (cc := cX12_push) (maxL := 2) (ret := (some .int)) (own := RX12) (lv := [(0, .ref (r 0)), (1, .int a1)]) (by decide) rfl rfl (Nat.le_of_ble_eq_true rfl) rfl (fun κ sz hk hR hN => ?_)
  refine g_iload_n hk dX12_push_0 rfl ?_
  refine g_sipush (v := (-999)) hk dX12_push_1 (by decide) ?_
  refine g_sipush (v := 999) hk dX12_push_4 (by decide) ?_
  refine g_callS hk (m136_X12_in l D zt g r a1) (SP.same _) (fun _ h => h) gX12_push_X12_in rfl rfl rfl (by decide +kernel) ⟨Nat.le_of_ble_eq_true rfl, Nat.le_of_ble_eq_true rfl⟩ rfl rfl (Nat.le_of_ble_eq_true rfl) ⟨Nat.le_of_ble_eq_true rfl, Nat.le_of_ble_eq_true rfl⟩ dX12_push_7 (fun v ty' w' hp hk' => ?_)
  rcases hp with ⟨c338, rfl, rfl⟩ | ⟨c339, c340, rfl, rfl⟩ | ⟨c341, c342, rfl, rfl⟩
  · show GW κ 2 0 0 (wM r g iM1 aM1 lM1) 10 [(0, .ref (r 0)), (1, .int a1)] [.int 0]
    refine g_if_eq (tgt := 21) (a := 0) hk dX12_push_10 (by decide) rfl (fun _ => ?_) (fun z9 => absurd (show 0 = 0 from by decide) z9)
    refine g_iconst (v := (-1)) hk dX12_push_21 (by decide) ?_
    exact g_iret hk hR rfl (Or.inl ⟨c338, rfl, rfl⟩) dX12_push_22
  · show GW κ 2 0 0 (wM r g iM1 aM1 lM1) 10 [(0, .ref (r 0)), (1, .int a1)] [.int 0]
    refine g_if_eq (tgt := 21) (a := 0) hk dX12_push_10 (by decide) rfl (fun _ => ?_) (fun z9 => absurd (show 0 = 0 from by decide) z9)
    refine g_iconst (v := (-1)) hk dX12_push_21 (by decide) ?_
    exact g_iret hk hR rfl (Or.inr (Or.inl ⟨c339, c340, rfl, rfl⟩)) dX12_push_22
  · show GW κ 2 0 0 (wM r g iM1 aM1 lM1) 10 [(0, .ref (r 0)), (1, .int a1)] [.int 1]
    refine g_if_eq (tgt := 21) (a := 1) hk dX12_push_10 (by decide) rfl (fun z9 => absurd z9 (show ¬ (1 = 0) from by decide)) (fun _ => ?_)
    refine g_aload_n hk dX12_push_13 rfl ?_
    refine g_iload_n hk dX12_push_14 rfl ?_
    refine g_callV hk (m140_X12_comes l D zt g r a1 (by omega) (by omega)) (SP.same _) (fun _ h => h) gX12_push_X12_comes rfl rfl rfl (by decide +kernel) ⟨Nat.le_of_ble_eq_true rfl, Nat.le_of_ble_eq_true rfl⟩ 0 rfl rfl rfl rfl (Nat.le_of_ble_eq_true rfl) ⟨Nat.le_of_ble_eq_true rfl, Nat.le_of_ble_eq_true rfl⟩ dX12_push_15 (fun v ty' w' hp hk' => ?_)
    obtain ⟨y357, rfl, rfl⟩ := hp
    show GW κ 2 0 0 (wM r g (upd iM1 22 1) (up2 (up2 (up3 (up3 (up2 aM1 18 (cp (aM1 17) (aM1 18) 165)) 18 1 a1) 18 0 1) 22 y357) 17 (cp ((up2 (up3 (up3 (up2 aM1 18 (cp (aM1 17) (aM1 18) 165)) 18 1 a1) 18 0 1) 22 y357) 18) ((up2 (up3 (up3 (up2 aM1 18 (cp (aM1 17) (aM1 18) 165)) 18 1 a1) 18 0 1) 22 y357) 17) 165)) lM1) 18 [(0, .ref (r 0)), (1, .int a1)] [.int 1]
    refine g_goto (tgt := 22) hk dX12_push_18 (by decide) ?_
    exact g_iret hk hR rfl (Or.inr (Or.inr (⟨y357, c341, c342, rfl, rfl⟩))) dX12_push_22
set_option maxHeartbeats 4000000 in
set_option maxRecDepth 100000 in
theorem m142_X12_keepsRow (l : Launch) (D : va_G) (zt : Nat × Nat × Nat) (F362 : Nat → Int32) (g : Nat → ClassId) (r : Nat → Nat) : GM l D zt (tyM g) yX12_keepsRow wsX12_keepsRow ({ frames := 0, cells := 0, slots := 0, locals := 0 } : Room) [.ref (r 0)] (wM r g (upd iM1 22 1) (up2 (up3 (up3 (up2 aM1 18 (cp (aM1 17) (aM1 18) 165)) 18 1 100000) 18 0 1) 22 F362) lM1) (fun v _ w' => v = none ∧ w' = wM r g (upd iM1 22 1) (up2 (up2 (up3 (up3 (up2 aM1 18 (cp (aM1 17) (aM1 18) 165)) 18 1 100000) 18 0 1) 22 F362) 17 (cp ((up2 (up3 (up3 (up2 aM1 18 (cp (aM1 17) (aM1 18) 165)) 18 1 100000) 18 0 1) 22 F362) 18) ((up2 (up3 (up3 (up2 aM1 18 (cp (aM1 17) (aM1 18) 165)) 18 1 100000) 18 0 1) 22 F362) 17) 165)) lM1) 0 0 := by
  refine GM.of (cc := cX12_keepsRow) (maxL := 2) (ret := none) (own := RX12) (lv := [(0, .ref (r 0))]) (by decide) rfl rfl (Nat.le_of_ble_eq_true rfl) rfl (fun κ sz hk hR hN => ?_)
  refine g_iconst (v := 0) hk dX12_keepsRow_0 (by decide) ?_
  refine g_istore_n (lv' := [(1, .int 0), (0, .ref (r 0))]) hk dX12_keepsRow_1 (by decide) rfl ?_
  have lp363 : ∀ (n365 k364 : Nat), k364 + n365 = 165 → GW κ 2 0 0 (wM r g (upd iM1 22 1) (up2 (up2 (up3 (up3 (up2 aM1 18 (cp (aM1 17) (aM1 18) 165)) 18 1 100000) 18 0 1) 22 F362) 17 (cp ((up2 (up3 (up3 (up2 aM1 18 (cp (aM1 17) (aM1 18) 165)) 18 1 100000) 18 0 1) 22 F362) 18) ((up2 (up3 (up3 (up2 aM1 18 (cp (aM1 17) (aM1 18) 165)) 18 1 100000) 18 0 1) 22 F362) 17) k364)) lM1) 2 [(1, .int (nI k364)), (0, .ref (r 0))] [] := by
    intro n365
    induction n365 with
    | zero =>
      intro k364 hk364
      obtain rfl : k364 = 165 := by omega
      show GW κ 2 0 0 (wM r g (upd iM1 22 1) (up2 (up2 (up3 (up3 (up2 aM1 18 (cp (aM1 17) (aM1 18) 165)) 18 1 100000) 18 0 1) 22 F362) 17 (cp ((up2 (up3 (up3 (up2 aM1 18 (cp (aM1 17) (aM1 18) 165)) 18 1 100000) 18 0 1) 22 F362) 18) ((up2 (up3 (up3 (up2 aM1 18 (cp (aM1 17) (aM1 18) 165)) 18 1 100000) 18 0 1) 22 F362) 17) 165)) lM1) 2 [(1, .int 165), (0, .ref (r 0))] []
      refine g_iload_n hk dX12_keepsRow_2 rfl ?_
      refine g_sipush (v := 165) hk dX12_keepsRow_3 (by decide) ?_
      refine g_icmp_ge (tgt := 27) (a := 165) (b := 165) hk dX12_keepsRow_6 (by decide) rfl rfl (fun _ => ?_) (fun z9 => absurd (show 165 ≤ 165 from by decide) z9)
      exact g_vret hk hR ⟨rfl, rfl⟩ dX12_keepsRow_27
    | succ n365 ih =>
      intro k364 hk364
      obtain ⟨x366, ex366⟩ : ∃ x : Int32, x = nI k364 := ⟨_, rfl⟩
      have hx366 : x366.toInt = (k364 : Int) := by rw [ex366]; exact nI_toInt (by omega)
      rw [← ex366]
      rw [ex366]
      have eW : wM r g (upd iM1 22 1) (up2 (up2 (up3 (up3 (up2 aM1 18 (cp (aM1 17) (aM1 18) 165)) 18 1 100000) 18 0 1) 22 F362) 17 (cp ((up2 (up3 (up3 (up2 aM1 18 (cp (aM1 17) (aM1 18) 165)) 18 1 100000) 18 0 1) 22 F362) 18) ((up2 (up3 (up3 (up2 aM1 18 (cp (aM1 17) (aM1 18) 165)) 18 1 100000) 18 0 1) 22 F362) 17) k364)) lM1 = wM r g (upd iM1 22 1) (up2 (up2 (up3 (up3 (up2 aM1 18 (cp (aM1 17) (aM1 18) 165)) 18 1 100000) 18 0 1) 22 F362) 17 (cp ((up2 (up3 (up3 (up2 aM1 18 (cp (aM1 17) (aM1 18) 165)) 18 1 100000) 18 0 1) 22 F362) 18) ((up2 (up3 (up3 (up2 aM1 18 (cp (aM1 17) (aM1 18) 165)) 18 1 100000) 18 0 1) 22 F362) 17) (k364))) lM1 := by rw [← cp_s ((up2 (up3 (up3 (up2 aM1 18 (cp (aM1 17) (aM1 18) 165)) 18 1 100000) 18 0 1) 22 F362) 18) ((up2 (up3 (up3 (up2 aM1 18 (cp (aM1 17) (aM1 18) 165)) 18 1 100000) 18 0 1) 22 F362) 17) (k364)]; rfl
      rw [eW]
      exact g_lv (List.forall_mem_cons.mpr ⟨List.mem_of_getElem? (i := 0) rfl, (List.forall_mem_cons.mpr ⟨List.mem_of_getElem? (i := 1) rfl, (fun _ h => absurd h List.not_mem_nil)⟩)⟩) (ih (k364) (by omega))
  exact lp363 165 0 (by omega)
set_option maxHeartbeats 4000000 in
set_option maxRecDepth 100000 in
theorem m143_X12_records (l : Launch) (D : va_G) (zt : Nat × Nat × Nat) (g : Nat → ClassId) (r : Nat → Nat) : GM l D zt (tyM g) yX12_records wsX12_records ({ frames := 1, cells := 0, slots := 0, locals := 21 } : Room) [.ref (r 0)] (wM r g iM1 (up3 (up3 (up2 aM1 18 (cp (aM1 17) (aM1 18) 165)) 18 1 100000) 18 0 1) lM1) (fun v _ w' => ∃ (F362 : Nat → Int32), v = none ∧ w' = wM r g (upd iM1 22 1) (up2 (up2 (up3 (up3 (up2 aM1 18 (cp (aM1 17) (aM1 18) 165)) 18 1 100000) 18 0 1) 22 F362) 17 (cp ((up2 (up3 (up3 (up2 aM1 18 (cp (aM1 17) (aM1 18) 165)) 18 1 100000) 18 0 1) 22 F362) 18) ((up2 (up3 (up3 (up2 aM1 18 (cp (aM1 17) (aM1 18) 165)) 18 1 100000) 18 0 1) 22 F362) 17) 165)) lM1) 0 0 := by
  refine GM.of (cc := cX12_records) (maxL := 2) (ret := none) (own := RX12) (lv := [(0, .ref (r 0))]) (by decide) rfl rfl (Nat.le_of_ble_eq_true rfl) rfl (fun κ sz hk hR hN => ?_)
  have hin12 : ∀ w ∈ u_ws RX12 TX12 55, w ∈ wsX12_records := by decide +kernel
  refine g_aload_n hk dX12_records_0 rfl ?_
  refine gM_i22 (v := 0) hk hin12 (by decide +kernel) dX12_records_1 rfl ?_
  refine g_bipush (v := 40) hk dX12_records_4 (by decide) ?_
  refine g_icmp_ne (tgt := 50) (a := 0) (b := 40) hk dX12_records_6 (by decide) rfl rfl (fun _ => ?_) (fun z9 => absurd (show 0 ≠ 40 from by decide) z9)
  refine g_iconst (v := 0) hk dX12_records_50 (by decide) ?_
  refine g_istore_n (lv' := [(1, .int 0), (0, .ref (r 0))]) hk dX12_records_51 (by decide) rfl ?_
  have lp358 : ∀ (n360 k359 : Nat) (F362 : Nat → Int32), k359 + n360 = 165 → GW κ 2 0 0 (wM r g iM1 (up2 (up3 (up3 (up2 aM1 18 (cp (aM1 17) (aM1 18) 165)) 18 1 100000) 18 0 1) 22 F362) lM1) 52 [(1, .int (nI k359)), (0, .ref (r 0))] [] := by
    intro n360
    induction n360 with
    | zero =>
      intro k359 F362 hk359
      obtain rfl : k359 = 165 := by omega
      show GW κ 2 0 0 (wM r g iM1 (up2 (up3 (up3 (up2 aM1 18 (cp (aM1 17) (aM1 18) 165)) 18 1 100000) 18 0 1) 22 F362) lM1) 52 [(1, .int 165), (0, .ref (r 0))] []
      refine g_iload_n hk dX12_records_52 rfl ?_
      refine g_sipush (v := 165) hk dX12_records_53 (by decide) ?_
      refine g_icmp_ge (tgt := 86) (a := 165) (b := 165) hk dX12_records_56 (by decide) rfl rfl (fun _ => ?_) (fun z9 => absurd (show 165 ≤ 165 from by decide) z9)
      refine g_aload_n hk dX12_records_86 rfl ?_
      refine g_dup hk dX12_records_87 rfl ?_
      refine gM_i22 (v := 0) hk hin12 (by decide +kernel) dX12_records_88 rfl ?_
      refine g_iconst (v := 1) hk dX12_records_91 (by decide) ?_
      refine g_iadd hk dX12_records_92 ?_
      refine g_norm (v := 1) (by decide) ?_
      refine pM_i22 hk hin12 (by decide +kernel) dX12_records_93 ?_
      refine g_aload_n hk dX12_records_96 rfl ?_
      refine g_callV hk (m142_X12_keepsRow l D zt F362 g r) (SP.same _) (fun _ h => h) gX12_records_X12_keepsRow rfl rfl rfl (by decide +kernel) ⟨Nat.le_of_ble_eq_true rfl, Nat.le_of_ble_eq_true rfl⟩ 0 rfl rfl rfl rfl (Nat.le_of_ble_eq_true rfl) ⟨Nat.le_of_ble_eq_true rfl, Nat.le_of_ble_eq_true rfl⟩ dX12_records_97 (fun v ty' w' hp hk' => ?_)
      obtain ⟨rfl, rfl⟩ := hp
      show GW κ 2 0 0 (wM r g (upd iM1 22 1) (up2 (up2 (up3 (up3 (up2 aM1 18 (cp (aM1 17) (aM1 18) 165)) 18 1 100000) 18 0 1) 22 F362) 17 (cp ((up2 (up3 (up3 (up2 aM1 18 (cp (aM1 17) (aM1 18) 165)) 18 1 100000) 18 0 1) 22 F362) 18) ((up2 (up3 (up3 (up2 aM1 18 (cp (aM1 17) (aM1 18) 165)) 18 1 100000) 18 0 1) 22 F362) 17) 165)) lM1) 100 [(1, .int 165), (0, .ref (r 0))] []
      exact g_vret hk hR ⟨F362, rfl, rfl⟩ dX12_records_100
    | succ n360 ih =>
      intro k359 F362 hk359
      obtain ⟨x361, ex361⟩ : ∃ x : Int32, x = nI k359 := ⟨_, rfl⟩
      have hx361 : x361.toInt = (k359 : Int) := by rw [ex361]; exact nI_toInt (by omega)
      rw [← ex361]
      rw [ex361]
      exact g_lv (List.forall_mem_cons.mpr ⟨List.mem_of_getElem? (i := 0) rfl, (List.forall_mem_cons.mpr ⟨List.mem_of_getElem? (i := 1) rfl, (fun _ h => absurd h List.not_mem_nil)⟩)⟩) (ih (k359) (None) (by omega))
  exact lp358 165 0 ((up3 (up3 (up2 aM1 18 (cp (aM1 17) (aM1 18) 165)) 18 1 100000) 18 0 1) 22) (by omega)
set_option maxHeartbeats 4000000 in
set_option maxRecDepth 100000 in
theorem m144_X12_comes (l : Launch) (D : va_G) (zt : Nat × Nat × Nat) (g : Nat → ClassId) (r : Nat → Nat) : GM l D zt (tyM g) yX12_comes wsX12_comes ({ frames := 2, cells := 0, slots := 0, locals := 42 } : Room) [.ref (r 0), .int 100000] (wM r g iM1 aM1 lM1) (fun v _ w' => ∃ (y367 : Nat → Int32), v = some (.int 1) ∧ w' = wM r g (upd iM1 22 1) (up2 (up2 (up3 (up3 (up2 aM1 18 (cp (aM1 17) (aM1 18) 165)) 18 1 100000) 18 0 1) 22 y367) 17 (cp ((up2 (up3 (up3 (up2 aM1 18 (cp (aM1 17) (aM1 18) 165)) 18 1 100000) 18 0 1) 22 y367) 18) ((up2 (up3 (up3 (up2 aM1 18 (cp (aM1 17) (aM1 18) 165)) 18 1 100000) 18 0 1) 22 y367) 17) 165)) lM1) 0 0 := by
  refine GM.of (cc := cX12_comes) (maxL := 2) (ret := (some .int)) (own := RX12) (lv := [(0, .ref (r 0)), (1, .int 100000)]) (by decide) rfl rfl (Nat.le_of_ble_eq_true rfl) rfl (fun κ sz hk hR hN => ?_)
  have hin12 : ∀ w ∈ u_ws RX12 TX12 55, w ∈ wsX12_comes := by decide +kernel
  refine g_aload_n hk dX12_comes_0 rfl ?_
  refine gM_r0_35 hk hin12 (by decide +kernel) dX12_comes_1 ?_
  refine g_iconst (v := 0) hk dX12_comes_4 (by decide) ?_
  refine lM_17 (v := 0) hk (vp_in_iff.mpr ⟨by decide, by decide⟩) rfl dX12_comes_5 ?_
  refine g_sipush (v := 160) hk dX12_comes_6 (by decide) ?_
  refine g_icmp_ne (tgt := 14) (a := 0) (b := 160) hk dX12_comes_9 (by decide) rfl rfl (fun _ => ?_) (fun z9 => absurd (show 0 ≠ 160 from by decide) z9)
  refine g_aload_n hk dX12_comes_14 rfl ?_
  refine g_callV hk (m137_X12_copies l D zt g r) (SP.same _) (fun _ h => h) gX12_comes_X12_copies rfl rfl rfl (by decide +kernel) ⟨Nat.le_of_ble_eq_true rfl, Nat.le_of_ble_eq_true rfl⟩ 0 rfl rfl rfl rfl (Nat.le_of_ble_eq_true rfl) ⟨Nat.le_of_ble_eq_true rfl, Nat.le_of_ble_eq_true rfl⟩ dX12_comes_15 (fun v ty' w' hp hk' => ?_)
  obtain ⟨rfl, rfl⟩ := hp
  show GW κ 2 0 0 (wM r g iM1 (up2 aM1 18 (cp (aM1 17) (aM1 18) 165)) lM1) 18 [(0, .ref (r 0)), (1, .int 100000)] []
  refine g_aload_n hk dX12_comes_18 rfl ?_
  refine gM_r0_36 hk hin12 (by decide +kernel) dX12_comes_19 ?_
  refine g_iconst (v := 1) hk dX12_comes_22 (by decide) ?_
  refine g_aload_n hk dX12_comes_23 rfl ?_
  refine gM_r0_36 hk hin12 (by decide +kernel) dX12_comes_24 ?_
  refine g_iconst (v := 0) hk dX12_comes_27 (by decide) ?_
  refine lM_18 (v := 0) hk (vp_in_iff.mpr ⟨by decide, by decide⟩) rfl dX12_comes_28 ?_
  refine g_iadd hk dX12_comes_29 ?_
  refine g_norm (v := 1) (by decide) ?_
  refine g_iload_n hk dX12_comes_30 rfl ?_
  refine sM_18 (j := 1) hk (vp_in_iff.mpr ⟨by decide, by decide⟩) (by decide) dX12_comes_31 ?_
  refine g_aload_n hk dX12_comes_32 rfl ?_
  refine gM_r0_36 hk hin12 (by decide +kernel) dX12_comes_33 ?_
  refine g_iconst (v := 0) hk dX12_comes_36 (by decide) ?_
  refine g_dup2 hk dX12_comes_37 rfl rfl ?_
  refine lM_18 (v := 0) hk (vp_in_iff.mpr ⟨by decide, by decide⟩) rfl dX12_comes_38 ?_
  refine g_iconst (v := 1) hk dX12_comes_39 (by decide) ?_
  refine g_iadd hk dX12_comes_40 ?_
  refine g_norm (v := 1) (by decide) ?_
  refine sM_18 (j := 0) hk (vp_in_iff.mpr ⟨by decide, by decide⟩) (by decide) dX12_comes_41 ?_
  refine g_aload_n hk dX12_comes_42 rfl ?_
  refine g_callV hk (m143_X12_records l D zt g r) (SP.same _) (fun _ h => h) gX12_comes_X12_records rfl rfl rfl (by decide +kernel) ⟨Nat.le_of_ble_eq_true rfl, Nat.le_of_ble_eq_true rfl⟩ 0 rfl rfl rfl rfl (Nat.le_of_ble_eq_true rfl) ⟨Nat.le_of_ble_eq_true rfl, Nat.le_of_ble_eq_true rfl⟩ dX12_comes_43 (fun v ty' w' hp hk' => ?_)
  obtain ⟨y367, rfl, rfl⟩ := hp
  show GW κ 2 0 0 (wM r g (upd iM1 22 1) (up2 (up2 (up3 (up3 (up2 aM1 18 (cp (aM1 17) (aM1 18) 165)) 18 1 100000) 18 0 1) 22 y367) 17 (cp ((up2 (up3 (up3 (up2 aM1 18 (cp (aM1 17) (aM1 18) 165)) 18 1 100000) 18 0 1) 22 y367) 18) ((up2 (up3 (up3 (up2 aM1 18 (cp (aM1 17) (aM1 18) 165)) 18 1 100000) 18 0 1) 22 y367) 17) 165)) lM1) 46 [(0, .ref (r 0)), (1, .int 100000)] []
  refine g_aload_n hk dX12_comes_46 rfl ?_
  refine gM_r0_35 hk hin12 (by decide +kernel) dX12_comes_47 ?_
  refine g_iconst (v := 0) hk dX12_comes_50 (by decide) ?_
  refine lM_17 (v := 1) hk (vp_in_iff.mpr ⟨by decide, by decide⟩) rfl dX12_comes_51 ?_
  exact g_iret hk hR rfl ⟨y367, rfl, rfl⟩ dX12_comes_52
set_option maxHeartbeats 4000000 in
set_option maxRecDepth 100000 in
theorem m145_X12_gap (l : Launch) (D : va_G) (zt : Nat × Nat × Nat) (g : Nat → ClassId) (r : Nat → Nat) : GM l D zt (tyM g) yX12_gap wsX12_gap ({ frames := 3, cells := 0, slots := 0, locals := 63 } : Room) [.ref (r 0)] (wM r g iM1 aM1 lM1) (fun v _ w' => ∃ (y368 : Nat → Int32), v = some (.int 1) ∧ w' = wM r g (upd iM1 22 1) (up2 (up2 (up3 (up3 (up2 aM1 18 (cp (aM1 17) (aM1 18) 165)) 18 1 100000) 18 0 1) 22 y368) 17 (cp ((up2 (up3 (up3 (up2 aM1 18 (cp (aM1 17) (aM1 18) 165)) 18 1 100000) 18 0 1) 22 y368) 18) ((up2 (up3 (up3 (up2 aM1 18 (cp (aM1 17) (aM1 18) 165)) 18 1 100000) 18 0 1) 22 y368) 17) 165)) lM1) 0 0 := by
  refine GM.of (cc := cX12_gap) (maxL := 1) (ret := (some .int)) (own := RX12) (lv := [(0, .ref (r 0))]) (by decide) rfl rfl (Nat.le_of_ble_eq_true rfl) rfl (fun κ sz hk hR hN => ?_)
  refine g_aload_n hk dX12_gap_0 rfl ?_
  refine g_ldc (v := 100000) hk (by decide +kernel) dX12_gap_1 ?_
  refine g_callV hk (m144_X12_comes l D zt g r) (SP.same _) (fun _ h => h) gX12_gap_X12_comes rfl rfl rfl (by decide +kernel) ⟨Nat.le_of_ble_eq_true rfl, Nat.le_of_ble_eq_true rfl⟩ 0 rfl rfl rfl rfl (Nat.le_of_ble_eq_true rfl) ⟨Nat.le_of_ble_eq_true rfl, Nat.le_of_ble_eq_true rfl⟩ dX12_gap_3 (fun v ty' w' hp hk' => ?_)
  obtain ⟨y368, rfl, rfl⟩ := hp
  show GW κ 1 0 0 (wM r g (upd iM1 22 1) (up2 (up2 (up3 (up3 (up2 aM1 18 (cp (aM1 17) (aM1 18) 165)) 18 1 100000) 18 0 1) 22 y368) 17 (cp ((up2 (up3 (up3 (up2 aM1 18 (cp (aM1 17) (aM1 18) 165)) 18 1 100000) 18 0 1) 22 y368) 18) ((up2 (up3 (up3 (up2 aM1 18 (cp (aM1 17) (aM1 18) 165)) 18 1 100000) 18 0 1) 22 y368) 17) 165)) lM1) 6 [(0, .ref (r 0))] [.int 1]
  exact g_iret hk hR rfl ⟨y368, rfl, rfl⟩ dX12_gap_6
set_option maxHeartbeats 4000000 in
set_option maxRecDepth 100000 in
theorem m146_X12_mend (l : Launch) (D : va_G) (zt : Nat × Nat × Nat) (g : Nat → ClassId) (r : Nat → Nat) (a1 : Int32) : GM l D zt (tyM g) yX12_mend wsX12_mend ({ frames := 2, cells := 0, slots := 0, locals := 43 } : Room) [.ref (r 0), .int a1] (wM r g iM1 aM1 lM1) (fun v _ w' => v = some (.int (-1000)) ∧ w' = wM r g iM1 aM1 lM1) 0 0 := by
  refine GM.of (cc := cX12_mend) (maxL := 2) (ret := (some .int)) (own := RX12) (lv := [(0, .ref (r 0)), (1, .int a1)]) (by decide) rfl rfl (Nat.le_of_ble_eq_true rfl) rfl (fun κ sz hk hR hN => ?_)
  refine g_aload_n hk dX12_mend_0 rfl ?_
  refine g_iload_n hk dX12_mend_1 rfl ?_
  refine g_callV hk (m131_X12_isPlace l D zt g r a1) (SP.same _) (fun _ h => h) gX12_mend_X12_isPlace rfl rfl rfl (by decide +kernel) ⟨Nat.le_of_ble_eq_true rfl, Nat.le_of_ble_eq_true rfl⟩ 0 rfl rfl rfl rfl (Nat.le_of_ble_eq_true rfl) ⟨Nat.le_of_ble_eq_true rfl, Nat.le_of_ble_eq_true rfl⟩ dX12_mend_2 (fun v ty' w' hp hk' => ?_)
  obtain ⟨rfl, rfl⟩ := hp
  show GW κ 2 0 0 (wM r g iM1 aM1 lM1) 5 [(0, .ref (r 0)), (1, .int a1)] [.int 0]
  refine g_if_eq (tgt := 36) (a := 0) hk dX12_mend_5 (by decide) rfl (fun _ => ?_) (fun z9 => absurd (show 0 = 0 from by decide) z9)
  refine g_sipush (v := (-1000)) hk dX12_mend_36 (by decide) ?_
  exact g_iret hk hR rfl ⟨rfl, rfl⟩ dX12_mend_39
set_option maxHeartbeats 4000000 in
set_option maxRecDepth 100000 in
theorem m147_X12_in (l : Launch) (D : va_G) (zt : Nat × Nat × Nat) (g : Nat → ClassId) (r : Nat → Nat) (a0 : Int32) : GM l D zt (tyM g) yX12_in wsX12_in ({ frames := 0, cells := 0, slots := 0, locals := 0 } : Room) [.int a0, .int 1, .int 0] (wM r g iM1 aM1 lM1) (fun v _ w' => v = some (.int 0) ∧ w' = wM r g iM1 aM1 lM1) 0 0 := by
  refine GM.of (cc := cX12_in) (maxL := 3) (ret := (some .boolean)) (own := RX12) (lv := [(0, .int a0), (1, .int 1), (2, .int 0)]) (by decide) rfl rfl (Nat.le_of_ble_eq_true rfl) rfl (fun κ sz hk hR hN => ?_)
  refine g_iload_n hk dX12_in_0 rfl ?_
  refine g_iload_n hk dX12_in_1 rfl ?_
  refine g_icmp_lt (tgt := 14) (a := a0.toInt) (b := 1) hk dX12_in_2 (by decide) rfl rfl (fun c369 => ?_) (fun c369 => ?_)
  · skip
    refine g_iconst (v := 0) hk dX12_in_14 (by decide) ?_
    exact g_iret hk hR rfl ⟨rfl, rfl⟩ dX12_in_15
  · skip
    refine g_iload_n hk dX12_in_5 rfl ?_
    refine g_iload_n hk dX12_in_6 rfl ?_
    refine g_icmp_gt (tgt := 14) (a := a0.toInt) (b := 0) hk dX12_in_7 (by decide) rfl rfl (fun _ => ?_) (fun z9 => absurd (show 0 < a0.toInt from by omega) z9)
    refine g_iconst (v := 0) hk dX12_in_14 (by decide) ?_
    exact g_iret hk hR rfl ⟨rfl, rfl⟩ dX12_in_15
set_option maxHeartbeats 4000000 in
set_option maxRecDepth 100000 in
theorem m148_X12_drop (l : Launch) (D : va_G) (zt : Nat × Nat × Nat) (g : Nat → ClassId) (r : Nat → Nat) (a1 : Int32) : GM l D zt (tyM g) yX12_drop wsX12_drop ({ frames := 1, cells := 0, slots := 0, locals := 22 } : Room) [.ref (r 0), .int a1] (wM r g iM1 aM1 lM1) (fun v _ w' => v = some (.int 0) ∧ w' = wM r g iM1 aM1 lM1) 0 0 := by
  refine GM.of (cc := cX12_drop) (maxL := 3) (ret := (some .boolean)) (own := RX12) (lv := [(0, .ref (r 0)), (1, .int a1)]) (by decide) rfl rfl (Nat.le_of_ble_eq_true rfl) rfl (fun κ sz hk hR hN => ?_)
  have hin12 : ∀ w ∈ u_ws RX12 TX12 55, w ∈ wsX12_drop := by decide +kernel
  refine g_iload_n hk dX12_drop_0 rfl ?_
  refine g_iconst (v := 1) hk dX12_drop_1 (by decide) ?_
  refine g_aload_n hk dX12_drop_2 rfl ?_
  refine gM_r0_35 hk hin12 (by decide +kernel) dX12_drop_3 ?_
  refine g_iconst (v := 0) hk dX12_drop_6 (by decide) ?_
  refine lM_17 (v := 0) hk (vp_in_iff.mpr ⟨by decide, by decide⟩) rfl dX12_drop_7 ?_
  refine g_callS hk (m147_X12_in l D zt g r a1) (SP.same _) (fun _ h => h) gX12_drop_X12_in rfl rfl rfl (by decide +kernel) ⟨Nat.le_of_ble_eq_true rfl, Nat.le_of_ble_eq_true rfl⟩ rfl rfl (Nat.le_of_ble_eq_true rfl) ⟨Nat.le_of_ble_eq_true rfl, Nat.le_of_ble_eq_true rfl⟩ dX12_drop_8 (fun v ty' w' hp hk' => ?_)
  obtain ⟨rfl, rfl⟩ := hp
  show GW κ 3 0 0 (wM r g iM1 aM1 lM1) 11 [(0, .ref (r 0)), (1, .int a1)] [.int 0]
  refine g_if_ne (tgt := 16) (a := 0) hk dX12_drop_11 (by decide) rfl (fun z9 => absurd z9 (show ¬ (0 ≠ 0) from by decide)) (fun _ => ?_)
  refine g_iconst (v := 0) hk dX12_drop_14 (by decide) ?_
  exact g_iret hk hR rfl ⟨rfl, rfl⟩ dX12_drop_15
set_option maxHeartbeats 4000000 in
set_option maxRecDepth 100000 in
theorem m149_X12_in (l : Launch) (D : va_G) (zt : Nat × Nat × Nat) (g : Nat → ClassId) (r : Nat → Nat) (a0 : Int32) : GM l D zt (tyM g) yX12_in wsX12_in ({ frames := 0, cells := 0, slots := 0, locals := 0 } : Room) [.int a0, .int 0, .int 3] (wM r g iM1 aM1 lM1) (fun v _ w' => ((a0.toInt < 0) ∧ v = some (.int 0) ∧ w' = wM r g iM1 aM1 lM1) ∨ ((¬ (a0.toInt < 0)) ∧ (3 < a0.toInt) ∧ v = some (.int 0) ∧ w' = wM r g iM1 aM1 lM1) ∨ ((¬ (a0.toInt < 0)) ∧ (¬ (3 < a0.toInt)) ∧ v = some (.int 1) ∧ w' = wM r g iM1 aM1 lM1)) 0 0 := by
  refine GM.of (cc := cX12_in) (maxL := 3) (ret := (some .boolean)) (own := RX12) (lv := [(0, .int a0), (1, .int 0), (2, .int 3)]) (by decide) rfl rfl (Nat.le_of_ble_eq_true rfl) rfl (fun κ sz hk hR hN => ?_)
  refine g_iload_n hk dX12_in_0 rfl ?_
  refine g_iload_n hk dX12_in_1 rfl ?_
  refine g_icmp_lt (tgt := 14) (a := a0.toInt) (b := 0) hk dX12_in_2 (by decide) rfl rfl (fun c370 => ?_) (fun c370 => ?_)
  · skip
    refine g_iconst (v := 0) hk dX12_in_14 (by decide) ?_
    exact g_iret hk hR rfl (Or.inl ⟨c370, rfl, rfl⟩) dX12_in_15
  · skip
    refine g_iload_n hk dX12_in_5 rfl ?_
    refine g_iload_n hk dX12_in_6 rfl ?_
    refine g_icmp_gt (tgt := 14) (a := a0.toInt) (b := 3) hk dX12_in_7 (by decide) rfl rfl (fun c371 => ?_) (fun c371 => ?_)
    · skip
      refine g_iconst (v := 0) hk dX12_in_14 (by decide) ?_
      exact g_iret hk hR rfl (Or.inr (Or.inl ⟨c370, c371, rfl, rfl⟩)) dX12_in_15
    · skip
      refine g_iconst (v := 1) hk dX12_in_10 (by decide) ?_
      refine g_goto (tgt := 15) hk dX12_in_11 (by decide) ?_
      exact g_iret hk hR rfl (Or.inr (Or.inr (⟨c370, c371, rfl, rfl⟩))) dX12_in_15
set_option maxHeartbeats 4000000 in
set_option maxRecDepth 100000 in
theorem m150_X12_in (l : Launch) (D : va_G) (zt : Nat × Nat × Nat) (g : Nat → ClassId) (r : Nat → Nat) (a0 : Int32) : GM l D zt (tyM g) yX12_in wsX12_in ({ frames := 0, cells := 0, slots := 0, locals := 0 } : Room) [.int a0, .int 0, .int 15] (wM r g iM1 aM1 lM1) (fun v _ w' => ((a0.toInt < 0) ∧ v = some (.int 0) ∧ w' = wM r g iM1 aM1 lM1) ∨ ((¬ (a0.toInt < 0)) ∧ (15 < a0.toInt) ∧ v = some (.int 0) ∧ w' = wM r g iM1 aM1 lM1) ∨ ((¬ (a0.toInt < 0)) ∧ (¬ (15 < a0.toInt)) ∧ v = some (.int 1) ∧ w' = wM r g iM1 aM1 lM1)) 0 0 := by
  refine GM.of (cc := cX12_in) (maxL := 3) (ret := (some .boolean)) (own := RX12) (lv := [(0, .int a0), (1, .int 0), (2, .int 15)]) (by decide) rfl rfl (Nat.le_of_ble_eq_true rfl) rfl (fun κ sz hk hR hN => ?_)
  refine g_iload_n hk dX12_in_0 rfl ?_
  refine g_iload_n hk dX12_in_1 rfl ?_
  refine g_icmp_lt (tgt := 14) (a := a0.toInt) (b := 0) hk dX12_in_2 (by decide) rfl rfl (fun c379 => ?_) (fun c379 => ?_)
  · skip
    refine g_iconst (v := 0) hk dX12_in_14 (by decide) ?_
    exact g_iret hk hR rfl (Or.inl ⟨c379, rfl, rfl⟩) dX12_in_15
  · skip
    refine g_iload_n hk dX12_in_5 rfl ?_
    refine g_iload_n hk dX12_in_6 rfl ?_
    refine g_icmp_gt (tgt := 14) (a := a0.toInt) (b := 15) hk dX12_in_7 (by decide) rfl rfl (fun c380 => ?_) (fun c380 => ?_)
    · skip
      refine g_iconst (v := 0) hk dX12_in_14 (by decide) ?_
      exact g_iret hk hR rfl (Or.inr (Or.inl ⟨c379, c380, rfl, rfl⟩)) dX12_in_15
    · skip
      refine g_iconst (v := 1) hk dX12_in_10 (by decide) ?_
      refine g_goto (tgt := 15) hk dX12_in_11 (by decide) ?_
      exact g_iret hk hR rfl (Or.inr (Or.inr (⟨c379, c380, rfl, rfl⟩))) dX12_in_15
set_option maxHeartbeats 4000000 in
set_option maxRecDepth 100000 in
theorem m151_X12_keepsRow (l : Launch) (D : va_G) (zt : Nat × Nat × Nat) (F390 : Nat → Int32) (g : Nat → ClassId) (r : Nat → Nat) : GM l D zt (tyM g) yX12_keepsRow wsX12_keepsRow ({ frames := 0, cells := 0, slots := 0, locals := 0 } : Room) [.ref (r 0)] (wM r g (upd iM1 22 1) (up2 (up3 (up2 aM1 18 (cp (aM1 17) (aM1 18) 165)) 18 161 a2) 22 F390) lM1) (fun v _ w' => v = none ∧ w' = wM r g (upd iM1 22 1) (up2 (up2 (up3 (up2 aM1 18 (cp (aM1 17) (aM1 18) 165)) 18 161 a2) 22 F390) 17 (cp ((up2 (up3 (up2 aM1 18 (cp (aM1 17) (aM1 18) 165)) 18 161 a2) 22 F390) 18) ((up2 (up3 (up2 aM1 18 (cp (aM1 17) (aM1 18) 165)) 18 161 a2) 22 F390) 17) 165)) lM1) 0 0 := by
  refine GM.of (cc := cX12_keepsRow) (maxL := 2) (ret := none) (own := RX12) (lv := [(0, .ref (r 0))]) (by decide) rfl rfl (Nat.le_of_ble_eq_true rfl) rfl (fun κ sz hk hR hN => ?_)
  refine g_iconst (v := 0) hk dX12_keepsRow_0 (by decide) ?_
  refine g_istore_n (lv' := [(1, .int 0), (0, .ref (r 0))]) hk dX12_keepsRow_1 (by decide) rfl ?_
  have lp391 : ∀ (n393 k392 : Nat), k392 + n393 = 165 → GW κ 2 0 0 (wM r g (upd iM1 22 1) (up2 (up2 (up3 (up2 aM1 18 (cp (aM1 17) (aM1 18) 165)) 18 161 a2) 22 F390) 17 (cp ((up2 (up3 (up2 aM1 18 (cp (aM1 17) (aM1 18) 165)) 18 161 a2) 22 F390) 18) ((up2 (up3 (up2 aM1 18 (cp (aM1 17) (aM1 18) 165)) 18 161 a2) 22 F390) 17) k392)) lM1) 2 [(1, .int (nI k392)), (0, .ref (r 0))] [] := by
    intro n393
    induction n393 with
    | zero =>
      intro k392 hk392
      obtain rfl : k392 = 165 := by omega
      show GW κ 2 0 0 (wM r g (upd iM1 22 1) (up2 (up2 (up3 (up2 aM1 18 (cp (aM1 17) (aM1 18) 165)) 18 161 a2) 22 F390) 17 (cp ((up2 (up3 (up2 aM1 18 (cp (aM1 17) (aM1 18) 165)) 18 161 a2) 22 F390) 18) ((up2 (up3 (up2 aM1 18 (cp (aM1 17) (aM1 18) 165)) 18 161 a2) 22 F390) 17) 165)) lM1) 2 [(1, .int 165), (0, .ref (r 0))] []
      refine g_iload_n hk dX12_keepsRow_2 rfl ?_
      refine g_sipush (v := 165) hk dX12_keepsRow_3 (by decide) ?_
      refine g_icmp_ge (tgt := 27) (a := 165) (b := 165) hk dX12_keepsRow_6 (by decide) rfl rfl (fun _ => ?_) (fun z9 => absurd (show 165 ≤ 165 from by decide) z9)
      exact g_vret hk hR ⟨rfl, rfl⟩ dX12_keepsRow_27
    | succ n393 ih =>
      intro k392 hk392
      obtain ⟨x394, ex394⟩ : ∃ x : Int32, x = nI k392 := ⟨_, rfl⟩
      have hx394 : x394.toInt = (k392 : Int) := by rw [ex394]; exact nI_toInt (by omega)
      rw [← ex394]
      rw [ex394]
      have eW : wM r g (upd iM1 22 1) (up2 (up2 (up3 (up2 aM1 18 (cp (aM1 17) (aM1 18) 165)) 18 161 a2) 22 F390) 17 (cp ((up2 (up3 (up2 aM1 18 (cp (aM1 17) (aM1 18) 165)) 18 161 a2) 22 F390) 18) ((up2 (up3 (up2 aM1 18 (cp (aM1 17) (aM1 18) 165)) 18 161 a2) 22 F390) 17) k392)) lM1 = wM r g (upd iM1 22 1) (up2 (up2 (up3 (up2 aM1 18 (cp (aM1 17) (aM1 18) 165)) 18 161 a2) 22 F390) 17 (cp ((up2 (up3 (up2 aM1 18 (cp (aM1 17) (aM1 18) 165)) 18 161 a2) 22 F390) 18) ((up2 (up3 (up2 aM1 18 (cp (aM1 17) (aM1 18) 165)) 18 161 a2) 22 F390) 17) (k392))) lM1 := by rw [← cp_s ((up2 (up3 (up2 aM1 18 (cp (aM1 17) (aM1 18) 165)) 18 161 a2) 22 F390) 18) ((up2 (up3 (up2 aM1 18 (cp (aM1 17) (aM1 18) 165)) 18 161 a2) 22 F390) 17) (k392)]; rfl
      rw [eW]
      exact g_lv (List.forall_mem_cons.mpr ⟨List.mem_of_getElem? (i := 0) rfl, (List.forall_mem_cons.mpr ⟨List.mem_of_getElem? (i := 1) rfl, (fun _ h => absurd h List.not_mem_nil)⟩)⟩) (ih (k392) (by omega))
  exact lp391 165 0 (by omega)
set_option maxHeartbeats 4000000 in
set_option maxRecDepth 100000 in
theorem m152_X12_records (l : Launch) (D : va_G) (zt : Nat × Nat × Nat) (g : Nat → ClassId) (r : Nat → Nat) : GM l D zt (tyM g) yX12_records wsX12_records ({ frames := 1, cells := 0, slots := 0, locals := 21 } : Room) [.ref (r 0)] (wM r g iM1 (up3 (up2 aM1 18 (cp (aM1 17) (aM1 18) 165)) 18 161 a2) lM1) (fun v _ w' => ∃ (F390 : Nat → Int32), v = none ∧ w' = wM r g (upd iM1 22 1) (up2 (up2 (up3 (up2 aM1 18 (cp (aM1 17) (aM1 18) 165)) 18 161 a2) 22 F390) 17 (cp ((up2 (up3 (up2 aM1 18 (cp (aM1 17) (aM1 18) 165)) 18 161 a2) 22 F390) 18) ((up2 (up3 (up2 aM1 18 (cp (aM1 17) (aM1 18) 165)) 18 161 a2) 22 F390) 17) 165)) lM1) 0 0 := by
  refine GM.of (cc := cX12_records) (maxL := 2) (ret := none) (own := RX12) (lv := [(0, .ref (r 0))]) (by decide) rfl rfl (Nat.le_of_ble_eq_true rfl) rfl (fun κ sz hk hR hN => ?_)
  have hin12 : ∀ w ∈ u_ws RX12 TX12 55, w ∈ wsX12_records := by decide +kernel
  refine g_aload_n hk dX12_records_0 rfl ?_
  refine gM_i22 (v := 0) hk hin12 (by decide +kernel) dX12_records_1 rfl ?_
  refine g_bipush (v := 40) hk dX12_records_4 (by decide) ?_
  refine g_icmp_ne (tgt := 50) (a := 0) (b := 40) hk dX12_records_6 (by decide) rfl rfl (fun _ => ?_) (fun z9 => absurd (show 0 ≠ 40 from by decide) z9)
  refine g_iconst (v := 0) hk dX12_records_50 (by decide) ?_
  refine g_istore_n (lv' := [(1, .int 0), (0, .ref (r 0))]) hk dX12_records_51 (by decide) rfl ?_
  have lp386 : ∀ (n388 k387 : Nat) (F390 : Nat → Int32), k387 + n388 = 165 → GW κ 2 0 0 (wM r g iM1 (up2 (up3 (up2 aM1 18 (cp (aM1 17) (aM1 18) 165)) 18 161 a2) 22 F390) lM1) 52 [(1, .int (nI k387)), (0, .ref (r 0))] [] := by
    intro n388
    induction n388 with
    | zero =>
      intro k387 F390 hk387
      obtain rfl : k387 = 165 := by omega
      show GW κ 2 0 0 (wM r g iM1 (up2 (up3 (up2 aM1 18 (cp (aM1 17) (aM1 18) 165)) 18 161 a2) 22 F390) lM1) 52 [(1, .int 165), (0, .ref (r 0))] []
      refine g_iload_n hk dX12_records_52 rfl ?_
      refine g_sipush (v := 165) hk dX12_records_53 (by decide) ?_
      refine g_icmp_ge (tgt := 86) (a := 165) (b := 165) hk dX12_records_56 (by decide) rfl rfl (fun _ => ?_) (fun z9 => absurd (show 165 ≤ 165 from by decide) z9)
      refine g_aload_n hk dX12_records_86 rfl ?_
      refine g_dup hk dX12_records_87 rfl ?_
      refine gM_i22 (v := 0) hk hin12 (by decide +kernel) dX12_records_88 rfl ?_
      refine g_iconst (v := 1) hk dX12_records_91 (by decide) ?_
      refine g_iadd hk dX12_records_92 ?_
      refine g_norm (v := 1) (by decide) ?_
      refine pM_i22 hk hin12 (by decide +kernel) dX12_records_93 ?_
      refine g_aload_n hk dX12_records_96 rfl ?_
      refine g_callV hk (m151_X12_keepsRow l D zt F390 g r) (SP.same _) (fun _ h => h) gX12_records_X12_keepsRow rfl rfl rfl (by decide +kernel) ⟨Nat.le_of_ble_eq_true rfl, Nat.le_of_ble_eq_true rfl⟩ 0 rfl rfl rfl rfl (Nat.le_of_ble_eq_true rfl) ⟨Nat.le_of_ble_eq_true rfl, Nat.le_of_ble_eq_true rfl⟩ dX12_records_97 (fun v ty' w' hp hk' => ?_)
      obtain ⟨rfl, rfl⟩ := hp
      show GW κ 2 0 0 (wM r g (upd iM1 22 1) (up2 (up2 (up3 (up2 aM1 18 (cp (aM1 17) (aM1 18) 165)) 18 161 a2) 22 F390) 17 (cp ((up2 (up3 (up2 aM1 18 (cp (aM1 17) (aM1 18) 165)) 18 161 a2) 22 F390) 18) ((up2 (up3 (up2 aM1 18 (cp (aM1 17) (aM1 18) 165)) 18 161 a2) 22 F390) 17) 165)) lM1) 100 [(1, .int 165), (0, .ref (r 0))] []
      exact g_vret hk hR ⟨F390, rfl, rfl⟩ dX12_records_100
    | succ n388 ih =>
      intro k387 F390 hk387
      obtain ⟨x389, ex389⟩ : ∃ x : Int32, x = nI k387 := ⟨_, rfl⟩
      have hx389 : x389.toInt = (k387 : Int) := by rw [ex389]; exact nI_toInt (by omega)
      rw [← ex389]
      rw [ex389]
      exact g_lv (List.forall_mem_cons.mpr ⟨List.mem_of_getElem? (i := 0) rfl, (List.forall_mem_cons.mpr ⟨List.mem_of_getElem? (i := 1) rfl, (fun _ h => absurd h List.not_mem_nil)⟩)⟩) (ih (k387) (None) (by omega))
  exact lp386 165 0 ((up3 (up2 aM1 18 (cp (aM1 17) (aM1 18) 165)) 18 161 a2) 22) (by omega)
set_option maxHeartbeats 4000000 in
set_option maxRecDepth 100000 in
theorem m153_X12_keepsRow (l : Launch) (D : va_G) (zt : Nat × Nat × Nat) (F407 : Nat → Int32) (g : Nat → ClassId) (r : Nat → Nat) : GM l D zt (tyM g) yX12_keepsRow wsX12_keepsRow ({ frames := 0, cells := 0, slots := 0, locals := 0 } : Room) [.ref (r 0)] (wM r g (upd iM1 22 1) (up2 (up3 (up2 aM1 18 (cp (aM1 17) (aM1 18) 165)) 18 162 a2) 22 F407) lM1) (fun v _ w' => v = none ∧ w' = wM r g (upd iM1 22 1) (up2 (up2 (up3 (up2 aM1 18 (cp (aM1 17) (aM1 18) 165)) 18 162 a2) 22 F407) 17 (cp ((up2 (up3 (up2 aM1 18 (cp (aM1 17) (aM1 18) 165)) 18 162 a2) 22 F407) 18) ((up2 (up3 (up2 aM1 18 (cp (aM1 17) (aM1 18) 165)) 18 162 a2) 22 F407) 17) 165)) lM1) 0 0 := by
  refine GM.of (cc := cX12_keepsRow) (maxL := 2) (ret := none) (own := RX12) (lv := [(0, .ref (r 0))]) (by decide) rfl rfl (Nat.le_of_ble_eq_true rfl) rfl (fun κ sz hk hR hN => ?_)
  refine g_iconst (v := 0) hk dX12_keepsRow_0 (by decide) ?_
  refine g_istore_n (lv' := [(1, .int 0), (0, .ref (r 0))]) hk dX12_keepsRow_1 (by decide) rfl ?_
  have lp408 : ∀ (n410 k409 : Nat), k409 + n410 = 165 → GW κ 2 0 0 (wM r g (upd iM1 22 1) (up2 (up2 (up3 (up2 aM1 18 (cp (aM1 17) (aM1 18) 165)) 18 162 a2) 22 F407) 17 (cp ((up2 (up3 (up2 aM1 18 (cp (aM1 17) (aM1 18) 165)) 18 162 a2) 22 F407) 18) ((up2 (up3 (up2 aM1 18 (cp (aM1 17) (aM1 18) 165)) 18 162 a2) 22 F407) 17) k409)) lM1) 2 [(1, .int (nI k409)), (0, .ref (r 0))] [] := by
    intro n410
    induction n410 with
    | zero =>
      intro k409 hk409
      obtain rfl : k409 = 165 := by omega
      show GW κ 2 0 0 (wM r g (upd iM1 22 1) (up2 (up2 (up3 (up2 aM1 18 (cp (aM1 17) (aM1 18) 165)) 18 162 a2) 22 F407) 17 (cp ((up2 (up3 (up2 aM1 18 (cp (aM1 17) (aM1 18) 165)) 18 162 a2) 22 F407) 18) ((up2 (up3 (up2 aM1 18 (cp (aM1 17) (aM1 18) 165)) 18 162 a2) 22 F407) 17) 165)) lM1) 2 [(1, .int 165), (0, .ref (r 0))] []
      refine g_iload_n hk dX12_keepsRow_2 rfl ?_
      refine g_sipush (v := 165) hk dX12_keepsRow_3 (by decide) ?_
      refine g_icmp_ge (tgt := 27) (a := 165) (b := 165) hk dX12_keepsRow_6 (by decide) rfl rfl (fun _ => ?_) (fun z9 => absurd (show 165 ≤ 165 from by decide) z9)
      exact g_vret hk hR ⟨rfl, rfl⟩ dX12_keepsRow_27
    | succ n410 ih =>
      intro k409 hk409
      obtain ⟨x411, ex411⟩ : ∃ x : Int32, x = nI k409 := ⟨_, rfl⟩
      have hx411 : x411.toInt = (k409 : Int) := by rw [ex411]; exact nI_toInt (by omega)
      rw [← ex411]
      rw [ex411]
      have eW : wM r g (upd iM1 22 1) (up2 (up2 (up3 (up2 aM1 18 (cp (aM1 17) (aM1 18) 165)) 18 162 a2) 22 F407) 17 (cp ((up2 (up3 (up2 aM1 18 (cp (aM1 17) (aM1 18) 165)) 18 162 a2) 22 F407) 18) ((up2 (up3 (up2 aM1 18 (cp (aM1 17) (aM1 18) 165)) 18 162 a2) 22 F407) 17) k409)) lM1 = wM r g (upd iM1 22 1) (up2 (up2 (up3 (up2 aM1 18 (cp (aM1 17) (aM1 18) 165)) 18 162 a2) 22 F407) 17 (cp ((up2 (up3 (up2 aM1 18 (cp (aM1 17) (aM1 18) 165)) 18 162 a2) 22 F407) 18) ((up2 (up3 (up2 aM1 18 (cp (aM1 17) (aM1 18) 165)) 18 162 a2) 22 F407) 17) (k409))) lM1 := by rw [← cp_s ((up2 (up3 (up2 aM1 18 (cp (aM1 17) (aM1 18) 165)) 18 162 a2) 22 F407) 18) ((up2 (up3 (up2 aM1 18 (cp (aM1 17) (aM1 18) 165)) 18 162 a2) 22 F407) 17) (k409)]; rfl
      rw [eW]
      exact g_lv (List.forall_mem_cons.mpr ⟨List.mem_of_getElem? (i := 0) rfl, (List.forall_mem_cons.mpr ⟨List.mem_of_getElem? (i := 1) rfl, (fun _ h => absurd h List.not_mem_nil)⟩)⟩) (ih (k409) (by omega))
  exact lp408 165 0 (by omega)
set_option maxHeartbeats 4000000 in
set_option maxRecDepth 100000 in
theorem m154_X12_records (l : Launch) (D : va_G) (zt : Nat × Nat × Nat) (g : Nat → ClassId) (r : Nat → Nat) : GM l D zt (tyM g) yX12_records wsX12_records ({ frames := 1, cells := 0, slots := 0, locals := 21 } : Room) [.ref (r 0)] (wM r g iM1 (up3 (up2 aM1 18 (cp (aM1 17) (aM1 18) 165)) 18 162 a2) lM1) (fun v _ w' => ∃ (F407 : Nat → Int32), v = none ∧ w' = wM r g (upd iM1 22 1) (up2 (up2 (up3 (up2 aM1 18 (cp (aM1 17) (aM1 18) 165)) 18 162 a2) 22 F407) 17 (cp ((up2 (up3 (up2 aM1 18 (cp (aM1 17) (aM1 18) 165)) 18 162 a2) 22 F407) 18) ((up2 (up3 (up2 aM1 18 (cp (aM1 17) (aM1 18) 165)) 18 162 a2) 22 F407) 17) 165)) lM1) 0 0 := by
  refine GM.of (cc := cX12_records) (maxL := 2) (ret := none) (own := RX12) (lv := [(0, .ref (r 0))]) (by decide) rfl rfl (Nat.le_of_ble_eq_true rfl) rfl (fun κ sz hk hR hN => ?_)
  have hin12 : ∀ w ∈ u_ws RX12 TX12 55, w ∈ wsX12_records := by decide +kernel
  refine g_aload_n hk dX12_records_0 rfl ?_
  refine gM_i22 (v := 0) hk hin12 (by decide +kernel) dX12_records_1 rfl ?_
  refine g_bipush (v := 40) hk dX12_records_4 (by decide) ?_
  refine g_icmp_ne (tgt := 50) (a := 0) (b := 40) hk dX12_records_6 (by decide) rfl rfl (fun _ => ?_) (fun z9 => absurd (show 0 ≠ 40 from by decide) z9)
  refine g_iconst (v := 0) hk dX12_records_50 (by decide) ?_
  refine g_istore_n (lv' := [(1, .int 0), (0, .ref (r 0))]) hk dX12_records_51 (by decide) rfl ?_
  have lp403 : ∀ (n405 k404 : Nat) (F407 : Nat → Int32), k404 + n405 = 165 → GW κ 2 0 0 (wM r g iM1 (up2 (up3 (up2 aM1 18 (cp (aM1 17) (aM1 18) 165)) 18 162 a2) 22 F407) lM1) 52 [(1, .int (nI k404)), (0, .ref (r 0))] [] := by
    intro n405
    induction n405 with
    | zero =>
      intro k404 F407 hk404
      obtain rfl : k404 = 165 := by omega
      show GW κ 2 0 0 (wM r g iM1 (up2 (up3 (up2 aM1 18 (cp (aM1 17) (aM1 18) 165)) 18 162 a2) 22 F407) lM1) 52 [(1, .int 165), (0, .ref (r 0))] []
      refine g_iload_n hk dX12_records_52 rfl ?_
      refine g_sipush (v := 165) hk dX12_records_53 (by decide) ?_
      refine g_icmp_ge (tgt := 86) (a := 165) (b := 165) hk dX12_records_56 (by decide) rfl rfl (fun _ => ?_) (fun z9 => absurd (show 165 ≤ 165 from by decide) z9)
      refine g_aload_n hk dX12_records_86 rfl ?_
      refine g_dup hk dX12_records_87 rfl ?_
      refine gM_i22 (v := 0) hk hin12 (by decide +kernel) dX12_records_88 rfl ?_
      refine g_iconst (v := 1) hk dX12_records_91 (by decide) ?_
      refine g_iadd hk dX12_records_92 ?_
      refine g_norm (v := 1) (by decide) ?_
      refine pM_i22 hk hin12 (by decide +kernel) dX12_records_93 ?_
      refine g_aload_n hk dX12_records_96 rfl ?_
      refine g_callV hk (m153_X12_keepsRow l D zt F407 g r) (SP.same _) (fun _ h => h) gX12_records_X12_keepsRow rfl rfl rfl (by decide +kernel) ⟨Nat.le_of_ble_eq_true rfl, Nat.le_of_ble_eq_true rfl⟩ 0 rfl rfl rfl rfl (Nat.le_of_ble_eq_true rfl) ⟨Nat.le_of_ble_eq_true rfl, Nat.le_of_ble_eq_true rfl⟩ dX12_records_97 (fun v ty' w' hp hk' => ?_)
      obtain ⟨rfl, rfl⟩ := hp
      show GW κ 2 0 0 (wM r g (upd iM1 22 1) (up2 (up2 (up3 (up2 aM1 18 (cp (aM1 17) (aM1 18) 165)) 18 162 a2) 22 F407) 17 (cp ((up2 (up3 (up2 aM1 18 (cp (aM1 17) (aM1 18) 165)) 18 162 a2) 22 F407) 18) ((up2 (up3 (up2 aM1 18 (cp (aM1 17) (aM1 18) 165)) 18 162 a2) 22 F407) 17) 165)) lM1) 100 [(1, .int 165), (0, .ref (r 0))] []
      exact g_vret hk hR ⟨F407, rfl, rfl⟩ dX12_records_100
    | succ n405 ih =>
      intro k404 F407 hk404
      obtain ⟨x406, ex406⟩ : ∃ x : Int32, x = nI k404 := ⟨_, rfl⟩
      have hx406 : x406.toInt = (k404 : Int) := by rw [ex406]; exact nI_toInt (by omega)
      rw [← ex406]
      rw [ex406]
      exact g_lv (List.forall_mem_cons.mpr ⟨List.mem_of_getElem? (i := 0) rfl, (List.forall_mem_cons.mpr ⟨List.mem_of_getElem? (i := 1) rfl, (fun _ h => absurd h List.not_mem_nil)⟩)⟩) (ih (k404) (None) (by omega))
  exact lp403 165 0 ((up3 (up2 aM1 18 (cp (aM1 17) (aM1 18) 165)) 18 162 a2) 22) (by omega)
set_option maxHeartbeats 4000000 in
set_option maxRecDepth 100000 in
theorem m155_X12_in (l : Launch) (D : va_G) (zt : Nat × Nat × Nat) (g : Nat → ClassId) (r : Nat → Nat) (a0 : Int32) : GM l D zt (tyM g) yX12_in wsX12_in ({ frames := 0, cells := 0, slots := 0, locals := 0 } : Room) [.int a0, .int 0, .int 1] (wM r g iM1 aM1 lM1) (fun v _ w' => ((a0.toInt < 0) ∧ v = some (.int 0) ∧ w' = wM r g iM1 aM1 lM1) ∨ ((¬ (a0.toInt < 0)) ∧ (1 < a0.toInt) ∧ v = some (.int 0) ∧ w' = wM r g iM1 aM1 lM1) ∨ ((¬ (a0.toInt < 0)) ∧ (¬ (1 < a0.toInt)) ∧ v = some (.int 1) ∧ w' = wM r g iM1 aM1 lM1)) 0 0 := by
  refine GM.of (cc := cX12_in) (maxL := 3) (ret := (some .boolean)) (own := RX12) (lv := [(0, .int a0), (1, .int 0), (2, .int 1)]) (by decide) rfl rfl (Nat.le_of_ble_eq_true rfl) rfl (fun κ sz hk hR hN => ?_)
  refine g_iload_n hk dX12_in_0 rfl ?_
  refine g_iload_n hk dX12_in_1 rfl ?_
  refine g_icmp_lt (tgt := 14) (a := a0.toInt) (b := 0) hk dX12_in_2 (by decide) rfl rfl (fun c415 => ?_) (fun c415 => ?_)
  · skip
    refine g_iconst (v := 0) hk dX12_in_14 (by decide) ?_
    exact g_iret hk hR rfl (Or.inl ⟨c415, rfl, rfl⟩) dX12_in_15
  · skip
    refine g_iload_n hk dX12_in_5 rfl ?_
    refine g_iload_n hk dX12_in_6 rfl ?_
    refine g_icmp_gt (tgt := 14) (a := a0.toInt) (b := 1) hk dX12_in_7 (by decide) rfl rfl (fun c416 => ?_) (fun c416 => ?_)
    · skip
      refine g_iconst (v := 0) hk dX12_in_14 (by decide) ?_
      exact g_iret hk hR rfl (Or.inr (Or.inl ⟨c415, c416, rfl, rfl⟩)) dX12_in_15
    · skip
      refine g_iconst (v := 1) hk dX12_in_10 (by decide) ?_
      refine g_goto (tgt := 15) hk dX12_in_11 (by decide) ?_
      exact g_iret hk hR rfl (Or.inr (Or.inr (⟨c415, c416, rfl, rfl⟩))) dX12_in_15
set_option maxHeartbeats 4000000 in
set_option maxRecDepth 100000 in
theorem m156_X12_keepsRow (l : Launch) (D : va_G) (zt : Nat × Nat × Nat) (F426 : Nat → Int32) (g : Nat → ClassId) (r : Nat → Nat) : GM l D zt (tyM g) yX12_keepsRow wsX12_keepsRow ({ frames := 0, cells := 0, slots := 0, locals := 0 } : Room) [.ref (r 0)] (wM r g (upd iM1 22 1) (up2 (up3 (up2 aM1 18 (cp (aM1 17) (aM1 18) 165)) 18 163 a2) 22 F426) lM1) (fun v _ w' => v = none ∧ w' = wM r g (upd iM1 22 1) (up2 (up2 (up3 (up2 aM1 18 (cp (aM1 17) (aM1 18) 165)) 18 163 a2) 22 F426) 17 (cp ((up2 (up3 (up2 aM1 18 (cp (aM1 17) (aM1 18) 165)) 18 163 a2) 22 F426) 18) ((up2 (up3 (up2 aM1 18 (cp (aM1 17) (aM1 18) 165)) 18 163 a2) 22 F426) 17) 165)) lM1) 0 0 := by
  refine GM.of (cc := cX12_keepsRow) (maxL := 2) (ret := none) (own := RX12) (lv := [(0, .ref (r 0))]) (by decide) rfl rfl (Nat.le_of_ble_eq_true rfl) rfl (fun κ sz hk hR hN => ?_)
  refine g_iconst (v := 0) hk dX12_keepsRow_0 (by decide) ?_
  refine g_istore_n (lv' := [(1, .int 0), (0, .ref (r 0))]) hk dX12_keepsRow_1 (by decide) rfl ?_
  have lp427 : ∀ (n429 k428 : Nat), k428 + n429 = 165 → GW κ 2 0 0 (wM r g (upd iM1 22 1) (up2 (up2 (up3 (up2 aM1 18 (cp (aM1 17) (aM1 18) 165)) 18 163 a2) 22 F426) 17 (cp ((up2 (up3 (up2 aM1 18 (cp (aM1 17) (aM1 18) 165)) 18 163 a2) 22 F426) 18) ((up2 (up3 (up2 aM1 18 (cp (aM1 17) (aM1 18) 165)) 18 163 a2) 22 F426) 17) k428)) lM1) 2 [(1, .int (nI k428)), (0, .ref (r 0))] [] := by
    intro n429
    induction n429 with
    | zero =>
      intro k428 hk428
      obtain rfl : k428 = 165 := by omega
      show GW κ 2 0 0 (wM r g (upd iM1 22 1) (up2 (up2 (up3 (up2 aM1 18 (cp (aM1 17) (aM1 18) 165)) 18 163 a2) 22 F426) 17 (cp ((up2 (up3 (up2 aM1 18 (cp (aM1 17) (aM1 18) 165)) 18 163 a2) 22 F426) 18) ((up2 (up3 (up2 aM1 18 (cp (aM1 17) (aM1 18) 165)) 18 163 a2) 22 F426) 17) 165)) lM1) 2 [(1, .int 165), (0, .ref (r 0))] []
      refine g_iload_n hk dX12_keepsRow_2 rfl ?_
      refine g_sipush (v := 165) hk dX12_keepsRow_3 (by decide) ?_
      refine g_icmp_ge (tgt := 27) (a := 165) (b := 165) hk dX12_keepsRow_6 (by decide) rfl rfl (fun _ => ?_) (fun z9 => absurd (show 165 ≤ 165 from by decide) z9)
      exact g_vret hk hR ⟨rfl, rfl⟩ dX12_keepsRow_27
    | succ n429 ih =>
      intro k428 hk428
      obtain ⟨x430, ex430⟩ : ∃ x : Int32, x = nI k428 := ⟨_, rfl⟩
      have hx430 : x430.toInt = (k428 : Int) := by rw [ex430]; exact nI_toInt (by omega)
      rw [← ex430]
      rw [ex430]
      have eW : wM r g (upd iM1 22 1) (up2 (up2 (up3 (up2 aM1 18 (cp (aM1 17) (aM1 18) 165)) 18 163 a2) 22 F426) 17 (cp ((up2 (up3 (up2 aM1 18 (cp (aM1 17) (aM1 18) 165)) 18 163 a2) 22 F426) 18) ((up2 (up3 (up2 aM1 18 (cp (aM1 17) (aM1 18) 165)) 18 163 a2) 22 F426) 17) k428)) lM1 = wM r g (upd iM1 22 1) (up2 (up2 (up3 (up2 aM1 18 (cp (aM1 17) (aM1 18) 165)) 18 163 a2) 22 F426) 17 (cp ((up2 (up3 (up2 aM1 18 (cp (aM1 17) (aM1 18) 165)) 18 163 a2) 22 F426) 18) ((up2 (up3 (up2 aM1 18 (cp (aM1 17) (aM1 18) 165)) 18 163 a2) 22 F426) 17) (k428))) lM1 := by rw [← cp_s ((up2 (up3 (up2 aM1 18 (cp (aM1 17) (aM1 18) 165)) 18 163 a2) 22 F426) 18) ((up2 (up3 (up2 aM1 18 (cp (aM1 17) (aM1 18) 165)) 18 163 a2) 22 F426) 17) (k428)]; rfl
      rw [eW]
      exact g_lv (List.forall_mem_cons.mpr ⟨List.mem_of_getElem? (i := 0) rfl, (List.forall_mem_cons.mpr ⟨List.mem_of_getElem? (i := 1) rfl, (fun _ h => absurd h List.not_mem_nil)⟩)⟩) (ih (k428) (by omega))
  exact lp427 165 0 (by omega)
set_option maxHeartbeats 4000000 in
set_option maxRecDepth 100000 in
theorem m157_X12_records (l : Launch) (D : va_G) (zt : Nat × Nat × Nat) (g : Nat → ClassId) (r : Nat → Nat) : GM l D zt (tyM g) yX12_records wsX12_records ({ frames := 1, cells := 0, slots := 0, locals := 21 } : Room) [.ref (r 0)] (wM r g iM1 (up3 (up2 aM1 18 (cp (aM1 17) (aM1 18) 165)) 18 163 a2) lM1) (fun v _ w' => ∃ (F426 : Nat → Int32), v = none ∧ w' = wM r g (upd iM1 22 1) (up2 (up2 (up3 (up2 aM1 18 (cp (aM1 17) (aM1 18) 165)) 18 163 a2) 22 F426) 17 (cp ((up2 (up3 (up2 aM1 18 (cp (aM1 17) (aM1 18) 165)) 18 163 a2) 22 F426) 18) ((up2 (up3 (up2 aM1 18 (cp (aM1 17) (aM1 18) 165)) 18 163 a2) 22 F426) 17) 165)) lM1) 0 0 := by
  refine GM.of (cc := cX12_records) (maxL := 2) (ret := none) (own := RX12) (lv := [(0, .ref (r 0))]) (by decide) rfl rfl (Nat.le_of_ble_eq_true rfl) rfl (fun κ sz hk hR hN => ?_)
  have hin12 : ∀ w ∈ u_ws RX12 TX12 55, w ∈ wsX12_records := by decide +kernel
  refine g_aload_n hk dX12_records_0 rfl ?_
  refine gM_i22 (v := 0) hk hin12 (by decide +kernel) dX12_records_1 rfl ?_
  refine g_bipush (v := 40) hk dX12_records_4 (by decide) ?_
  refine g_icmp_ne (tgt := 50) (a := 0) (b := 40) hk dX12_records_6 (by decide) rfl rfl (fun _ => ?_) (fun z9 => absurd (show 0 ≠ 40 from by decide) z9)
  refine g_iconst (v := 0) hk dX12_records_50 (by decide) ?_
  refine g_istore_n (lv' := [(1, .int 0), (0, .ref (r 0))]) hk dX12_records_51 (by decide) rfl ?_
  have lp422 : ∀ (n424 k423 : Nat) (F426 : Nat → Int32), k423 + n424 = 165 → GW κ 2 0 0 (wM r g iM1 (up2 (up3 (up2 aM1 18 (cp (aM1 17) (aM1 18) 165)) 18 163 a2) 22 F426) lM1) 52 [(1, .int (nI k423)), (0, .ref (r 0))] [] := by
    intro n424
    induction n424 with
    | zero =>
      intro k423 F426 hk423
      obtain rfl : k423 = 165 := by omega
      show GW κ 2 0 0 (wM r g iM1 (up2 (up3 (up2 aM1 18 (cp (aM1 17) (aM1 18) 165)) 18 163 a2) 22 F426) lM1) 52 [(1, .int 165), (0, .ref (r 0))] []
      refine g_iload_n hk dX12_records_52 rfl ?_
      refine g_sipush (v := 165) hk dX12_records_53 (by decide) ?_
      refine g_icmp_ge (tgt := 86) (a := 165) (b := 165) hk dX12_records_56 (by decide) rfl rfl (fun _ => ?_) (fun z9 => absurd (show 165 ≤ 165 from by decide) z9)
      refine g_aload_n hk dX12_records_86 rfl ?_
      refine g_dup hk dX12_records_87 rfl ?_
      refine gM_i22 (v := 0) hk hin12 (by decide +kernel) dX12_records_88 rfl ?_
      refine g_iconst (v := 1) hk dX12_records_91 (by decide) ?_
      refine g_iadd hk dX12_records_92 ?_
      refine g_norm (v := 1) (by decide) ?_
      refine pM_i22 hk hin12 (by decide +kernel) dX12_records_93 ?_
      refine g_aload_n hk dX12_records_96 rfl ?_
      refine g_callV hk (m156_X12_keepsRow l D zt F426 g r) (SP.same _) (fun _ h => h) gX12_records_X12_keepsRow rfl rfl rfl (by decide +kernel) ⟨Nat.le_of_ble_eq_true rfl, Nat.le_of_ble_eq_true rfl⟩ 0 rfl rfl rfl rfl (Nat.le_of_ble_eq_true rfl) ⟨Nat.le_of_ble_eq_true rfl, Nat.le_of_ble_eq_true rfl⟩ dX12_records_97 (fun v ty' w' hp hk' => ?_)
      obtain ⟨rfl, rfl⟩ := hp
      show GW κ 2 0 0 (wM r g (upd iM1 22 1) (up2 (up2 (up3 (up2 aM1 18 (cp (aM1 17) (aM1 18) 165)) 18 163 a2) 22 F426) 17 (cp ((up2 (up3 (up2 aM1 18 (cp (aM1 17) (aM1 18) 165)) 18 163 a2) 22 F426) 18) ((up2 (up3 (up2 aM1 18 (cp (aM1 17) (aM1 18) 165)) 18 163 a2) 22 F426) 17) 165)) lM1) 100 [(1, .int 165), (0, .ref (r 0))] []
      exact g_vret hk hR ⟨F426, rfl, rfl⟩ dX12_records_100
    | succ n424 ih =>
      intro k423 F426 hk423
      obtain ⟨x425, ex425⟩ : ∃ x : Int32, x = nI k423 := ⟨_, rfl⟩
      have hx425 : x425.toInt = (k423 : Int) := by rw [ex425]; exact nI_toInt (by omega)
      rw [← ex425]
      rw [ex425]
      exact g_lv (List.forall_mem_cons.mpr ⟨List.mem_of_getElem? (i := 0) rfl, (List.forall_mem_cons.mpr ⟨List.mem_of_getElem? (i := 1) rfl, (fun _ h => absurd h List.not_mem_nil)⟩)⟩) (ih (k423) (None) (by omega))
  exact lp422 165 0 ((up3 (up2 aM1 18 (cp (aM1 17) (aM1 18) 165)) 18 163 a2) 22) (by omega)
set_option maxHeartbeats 4000000 in
set_option maxRecDepth 100000 in
theorem m158_X12_in (l : Launch) (D : va_G) (zt : Nat × Nat × Nat) (g : Nat → ClassId) (r : Nat → Nat) (a0 : Int32) : GM l D zt (tyM g) yX12_in wsX12_in ({ frames := 0, cells := 0, slots := 0, locals := 0 } : Room) [.int a0, .int 1, .int 99] (wM r g iM1 aM1 lM1) (fun v _ w' => ((a0.toInt < 1) ∧ v = some (.int 0) ∧ w' = wM r g iM1 aM1 lM1) ∨ ((¬ (a0.toInt < 1)) ∧ (99 < a0.toInt) ∧ v = some (.int 0) ∧ w' = wM r g iM1 aM1 lM1) ∨ ((¬ (a0.toInt < 1)) ∧ (¬ (99 < a0.toInt)) ∧ v = some (.int 1) ∧ w' = wM r g iM1 aM1 lM1)) 0 0 := by
  refine GM.of (cc := cX12_in) (maxL := 3) (ret := (some .boolean)) (own := RX12) (lv := [(0, .int a0), (1, .int 1), (2, .int 99)]) (by decide) rfl rfl (Nat.le_of_ble_eq_true rfl) rfl (fun κ sz hk hR hN => ?_)
  refine g_iload_n hk dX12_in_0 rfl ?_
  refine g_iload_n hk dX12_in_1 rfl ?_
  refine g_icmp_lt (tgt := 14) (a := a0.toInt) (b := 1) hk dX12_in_2 (by decide) rfl rfl (fun c434 => ?_) (fun c434 => ?_)
  · skip
    refine g_iconst (v := 0) hk dX12_in_14 (by decide) ?_
    exact g_iret hk hR rfl (Or.inl ⟨c434, rfl, rfl⟩) dX12_in_15
  · skip
    refine g_iload_n hk dX12_in_5 rfl ?_
    refine g_iload_n hk dX12_in_6 rfl ?_
    refine g_icmp_gt (tgt := 14) (a := a0.toInt) (b := 99) hk dX12_in_7 (by decide) rfl rfl (fun c435 => ?_) (fun c435 => ?_)
    · skip
      refine g_iconst (v := 0) hk dX12_in_14 (by decide) ?_
      exact g_iret hk hR rfl (Or.inr (Or.inl ⟨c434, c435, rfl, rfl⟩)) dX12_in_15
    · skip
      refine g_iconst (v := 1) hk dX12_in_10 (by decide) ?_
      refine g_goto (tgt := 15) hk dX12_in_11 (by decide) ?_
      exact g_iret hk hR rfl (Or.inr (Or.inr (⟨c434, c435, rfl, rfl⟩))) dX12_in_15
set_option maxHeartbeats 4000000 in
set_option maxRecDepth 100000 in
theorem m159_X12_keepsRow (l : Launch) (D : va_G) (zt : Nat × Nat × Nat) (F445 : Nat → Int32) (g : Nat → ClassId) (r : Nat → Nat) : GM l D zt (tyM g) yX12_keepsRow wsX12_keepsRow ({ frames := 0, cells := 0, slots := 0, locals := 0 } : Room) [.ref (r 0)] (wM r g (upd iM1 22 1) (up2 (up3 (up2 aM1 18 (cp (aM1 17) (aM1 18) 165)) 18 164 a2) 22 F445) lM1) (fun v _ w' => v = none ∧ w' = wM r g (upd iM1 22 1) (up2 (up2 (up3 (up2 aM1 18 (cp (aM1 17) (aM1 18) 165)) 18 164 a2) 22 F445) 17 (cp ((up2 (up3 (up2 aM1 18 (cp (aM1 17) (aM1 18) 165)) 18 164 a2) 22 F445) 18) ((up2 (up3 (up2 aM1 18 (cp (aM1 17) (aM1 18) 165)) 18 164 a2) 22 F445) 17) 165)) lM1) 0 0 := by
  refine GM.of (cc := cX12_keepsRow) (maxL := 2) (ret := none) (own := RX12) (lv := [(0, .ref (r 0))]) (by decide) rfl rfl (Nat.le_of_ble_eq_true rfl) rfl (fun κ sz hk hR hN => ?_)
  refine g_iconst (v := 0) hk dX12_keepsRow_0 (by decide) ?_
  refine g_istore_n (lv' := [(1, .int 0), (0, .ref (r 0))]) hk dX12_keepsRow_1 (by decide) rfl ?_
  have lp446 : ∀ (n448 k447 : Nat), k447 + n448 = 165 → GW κ 2 0 0 (wM r g (upd iM1 22 1) (up2 (up2 (up3 (up2 aM1 18 (cp (aM1 17) (aM1 18) 165)) 18 164 a2) 22 F445) 17 (cp ((up2 (up3 (up2 aM1 18 (cp (aM1 17) (aM1 18) 165)) 18 164 a2) 22 F445) 18) ((up2 (up3 (up2 aM1 18 (cp (aM1 17) (aM1 18) 165)) 18 164 a2) 22 F445) 17) k447)) lM1) 2 [(1, .int (nI k447)), (0, .ref (r 0))] [] := by
    intro n448
    induction n448 with
    | zero =>
      intro k447 hk447
      obtain rfl : k447 = 165 := by omega
      show GW κ 2 0 0 (wM r g (upd iM1 22 1) (up2 (up2 (up3 (up2 aM1 18 (cp (aM1 17) (aM1 18) 165)) 18 164 a2) 22 F445) 17 (cp ((up2 (up3 (up2 aM1 18 (cp (aM1 17) (aM1 18) 165)) 18 164 a2) 22 F445) 18) ((up2 (up3 (up2 aM1 18 (cp (aM1 17) (aM1 18) 165)) 18 164 a2) 22 F445) 17) 165)) lM1) 2 [(1, .int 165), (0, .ref (r 0))] []
      refine g_iload_n hk dX12_keepsRow_2 rfl ?_
      refine g_sipush (v := 165) hk dX12_keepsRow_3 (by decide) ?_
      refine g_icmp_ge (tgt := 27) (a := 165) (b := 165) hk dX12_keepsRow_6 (by decide) rfl rfl (fun _ => ?_) (fun z9 => absurd (show 165 ≤ 165 from by decide) z9)
      exact g_vret hk hR ⟨rfl, rfl⟩ dX12_keepsRow_27
    | succ n448 ih =>
      intro k447 hk447
      obtain ⟨x449, ex449⟩ : ∃ x : Int32, x = nI k447 := ⟨_, rfl⟩
      have hx449 : x449.toInt = (k447 : Int) := by rw [ex449]; exact nI_toInt (by omega)
      rw [← ex449]
      rw [ex449]
      have eW : wM r g (upd iM1 22 1) (up2 (up2 (up3 (up2 aM1 18 (cp (aM1 17) (aM1 18) 165)) 18 164 a2) 22 F445) 17 (cp ((up2 (up3 (up2 aM1 18 (cp (aM1 17) (aM1 18) 165)) 18 164 a2) 22 F445) 18) ((up2 (up3 (up2 aM1 18 (cp (aM1 17) (aM1 18) 165)) 18 164 a2) 22 F445) 17) k447)) lM1 = wM r g (upd iM1 22 1) (up2 (up2 (up3 (up2 aM1 18 (cp (aM1 17) (aM1 18) 165)) 18 164 a2) 22 F445) 17 (cp ((up2 (up3 (up2 aM1 18 (cp (aM1 17) (aM1 18) 165)) 18 164 a2) 22 F445) 18) ((up2 (up3 (up2 aM1 18 (cp (aM1 17) (aM1 18) 165)) 18 164 a2) 22 F445) 17) (k447))) lM1 := by rw [← cp_s ((up2 (up3 (up2 aM1 18 (cp (aM1 17) (aM1 18) 165)) 18 164 a2) 22 F445) 18) ((up2 (up3 (up2 aM1 18 (cp (aM1 17) (aM1 18) 165)) 18 164 a2) 22 F445) 17) (k447)]; rfl
      rw [eW]
      exact g_lv (List.forall_mem_cons.mpr ⟨List.mem_of_getElem? (i := 0) rfl, (List.forall_mem_cons.mpr ⟨List.mem_of_getElem? (i := 1) rfl, (fun _ h => absurd h List.not_mem_nil)⟩)⟩) (ih (k447) (by omega))
  exact lp446 165 0 (by omega)
set_option maxHeartbeats 4000000 in
set_option maxRecDepth 100000 in
theorem m160_X12_records (l : Launch) (D : va_G) (zt : Nat × Nat × Nat) (g : Nat → ClassId) (r : Nat → Nat) : GM l D zt (tyM g) yX12_records wsX12_records ({ frames := 1, cells := 0, slots := 0, locals := 21 } : Room) [.ref (r 0)] (wM r g iM1 (up3 (up2 aM1 18 (cp (aM1 17) (aM1 18) 165)) 18 164 a2) lM1) (fun v _ w' => ∃ (F445 : Nat → Int32), v = none ∧ w' = wM r g (upd iM1 22 1) (up2 (up2 (up3 (up2 aM1 18 (cp (aM1 17) (aM1 18) 165)) 18 164 a2) 22 F445) 17 (cp ((up2 (up3 (up2 aM1 18 (cp (aM1 17) (aM1 18) 165)) 18 164 a2) 22 F445) 18) ((up2 (up3 (up2 aM1 18 (cp (aM1 17) (aM1 18) 165)) 18 164 a2) 22 F445) 17) 165)) lM1) 0 0 := by
  refine GM.of (cc := cX12_records) (maxL := 2) (ret := none) (own := RX12) (lv := [(0, .ref (r 0))]) (by decide) rfl rfl (Nat.le_of_ble_eq_true rfl) rfl (fun κ sz hk hR hN => ?_)
  have hin12 : ∀ w ∈ u_ws RX12 TX12 55, w ∈ wsX12_records := by decide +kernel
  refine g_aload_n hk dX12_records_0 rfl ?_
  refine gM_i22 (v := 0) hk hin12 (by decide +kernel) dX12_records_1 rfl ?_
  refine g_bipush (v := 40) hk dX12_records_4 (by decide) ?_
  refine g_icmp_ne (tgt := 50) (a := 0) (b := 40) hk dX12_records_6 (by decide) rfl rfl (fun _ => ?_) (fun z9 => absurd (show 0 ≠ 40 from by decide) z9)
  refine g_iconst (v := 0) hk dX12_records_50 (by decide) ?_
  refine g_istore_n (lv' := [(1, .int 0), (0, .ref (r 0))]) hk dX12_records_51 (by decide) rfl ?_
  have lp441 : ∀ (n443 k442 : Nat) (F445 : Nat → Int32), k442 + n443 = 165 → GW κ 2 0 0 (wM r g iM1 (up2 (up3 (up2 aM1 18 (cp (aM1 17) (aM1 18) 165)) 18 164 a2) 22 F445) lM1) 52 [(1, .int (nI k442)), (0, .ref (r 0))] [] := by
    intro n443
    induction n443 with
    | zero =>
      intro k442 F445 hk442
      obtain rfl : k442 = 165 := by omega
      show GW κ 2 0 0 (wM r g iM1 (up2 (up3 (up2 aM1 18 (cp (aM1 17) (aM1 18) 165)) 18 164 a2) 22 F445) lM1) 52 [(1, .int 165), (0, .ref (r 0))] []
      refine g_iload_n hk dX12_records_52 rfl ?_
      refine g_sipush (v := 165) hk dX12_records_53 (by decide) ?_
      refine g_icmp_ge (tgt := 86) (a := 165) (b := 165) hk dX12_records_56 (by decide) rfl rfl (fun _ => ?_) (fun z9 => absurd (show 165 ≤ 165 from by decide) z9)
      refine g_aload_n hk dX12_records_86 rfl ?_
      refine g_dup hk dX12_records_87 rfl ?_
      refine gM_i22 (v := 0) hk hin12 (by decide +kernel) dX12_records_88 rfl ?_
      refine g_iconst (v := 1) hk dX12_records_91 (by decide) ?_
      refine g_iadd hk dX12_records_92 ?_
      refine g_norm (v := 1) (by decide) ?_
      refine pM_i22 hk hin12 (by decide +kernel) dX12_records_93 ?_
      refine g_aload_n hk dX12_records_96 rfl ?_
      refine g_callV hk (m159_X12_keepsRow l D zt F445 g r) (SP.same _) (fun _ h => h) gX12_records_X12_keepsRow rfl rfl rfl (by decide +kernel) ⟨Nat.le_of_ble_eq_true rfl, Nat.le_of_ble_eq_true rfl⟩ 0 rfl rfl rfl rfl (Nat.le_of_ble_eq_true rfl) ⟨Nat.le_of_ble_eq_true rfl, Nat.le_of_ble_eq_true rfl⟩ dX12_records_97 (fun v ty' w' hp hk' => ?_)
      obtain ⟨rfl, rfl⟩ := hp
      show GW κ 2 0 0 (wM r g (upd iM1 22 1) (up2 (up2 (up3 (up2 aM1 18 (cp (aM1 17) (aM1 18) 165)) 18 164 a2) 22 F445) 17 (cp ((up2 (up3 (up2 aM1 18 (cp (aM1 17) (aM1 18) 165)) 18 164 a2) 22 F445) 18) ((up2 (up3 (up2 aM1 18 (cp (aM1 17) (aM1 18) 165)) 18 164 a2) 22 F445) 17) 165)) lM1) 100 [(1, .int 165), (0, .ref (r 0))] []
      exact g_vret hk hR ⟨F445, rfl, rfl⟩ dX12_records_100
    | succ n443 ih =>
      intro k442 F445 hk442
      obtain ⟨x444, ex444⟩ : ∃ x : Int32, x = nI k442 := ⟨_, rfl⟩
      have hx444 : x444.toInt = (k442 : Int) := by rw [ex444]; exact nI_toInt (by omega)
      rw [← ex444]
      rw [ex444]
      exact g_lv (List.forall_mem_cons.mpr ⟨List.mem_of_getElem? (i := 0) rfl, (List.forall_mem_cons.mpr ⟨List.mem_of_getElem? (i := 1) rfl, (fun _ h => absurd h List.not_mem_nil)⟩)⟩) (ih (k442) (None) (by omega))
  exact lp441 165 0 ((up3 (up2 aM1 18 (cp (aM1 17) (aM1 18) 165)) 18 164 a2) 22) (by omega)
set_option maxHeartbeats 4000000 in
set_option maxRecDepth 100000 in
theorem m161_X12_set (l : Launch) (D : va_G) (zt : Nat × Nat × Nat) (g : Nat → ClassId) (r : Nat → Nat) (a1 : Int32) (a2 : Int32) : GM l D zt (tyM g) yX12_set wsX12_set ({ frames := 2, cells := 0, slots := 0, locals := 42 } : Room) [.ref (r 0), .int a1, .int a2] (wM r g iM1 aM1 lM1) (fun v _ w' => ((a1.toInt < 0) ∧ v = some (.int 0) ∧ w' = wM r g iM1 aM1 lM1) ∨ ((¬ (a1.toInt < 0)) ∧ (3 < a1.toInt) ∧ v = some (.int 0) ∧ w' = wM r g iM1 aM1 lM1) ∨ ((¬ (a1.toInt < 0)) ∧ (¬ (3 < a1.toInt)) ∧ (a1.toInt = 0) ∧ (2 ≠ a2.toInt) ∧ (a2.toInt < 0) ∧ v = some (.int 0) ∧ w' = wM r g iM1 aM1 lM1) ∨ ((¬ (a1.toInt < 0)) ∧ (¬ (3 < a1.toInt)) ∧ (a1.toInt = 0) ∧ (2 ≠ a2.toInt) ∧ (¬ (a2.toInt < 0)) ∧ (15 < a2.toInt) ∧ v = some (.int 0) ∧ w' = wM r g iM1 aM1 lM1) ∨ (∃ (y395 : Nat → Int32), (¬ (a1.toInt < 0)) ∧ (¬ (3 < a1.toInt)) ∧ (a1.toInt = 0) ∧ (2 ≠ a2.toInt) ∧ (¬ (a2.toInt < 0)) ∧ (¬ (15 < a2.toInt)) ∧ v = some (.int 1) ∧ w' = wM r g (upd iM1 22 1) (up2 (up2 (up3 (up2 aM1 18 (cp (aM1 17) (aM1 18) 165)) 18 161 a2) 22 y395) 17 (cp ((up2 (up3 (up2 aM1 18 (cp (aM1 17) (aM1 18) 165)) 18 161 a2) 22 y395) 18) ((up2 (up3 (up2 aM1 18 (cp (aM1 17) (aM1 18) 165)) 18 161 a2) 22 y395) 17) 165)) lM1) ∨ ((¬ (a1.toInt < 0)) ∧ (¬ (3 < a1.toInt)) ∧ (a1.toInt = 0) ∧ (¬ (2 ≠ a2.toInt)) ∧ v = some (.int 0) ∧ w' = wM r g iM1 aM1 lM1) ∨ ((¬ (a1.toInt < 0)) ∧ (¬ (3 < a1.toInt)) ∧ (¬ (a1.toInt = 0)) ∧ (a1.toInt = 1) ∧ (0 ≠ a2.toInt) ∧ (a2.toInt < 0) ∧ v = some (.int 0) ∧ w' = wM r g iM1 aM1 lM1) ∨ ((¬ (a1.toInt < 0)) ∧ (¬ (3 < a1.toInt)) ∧ (¬ (a1.toInt = 0)) ∧ (a1.toInt = 1) ∧ (0 ≠ a2.toInt) ∧ (¬ (a2.toInt < 0)) ∧ (3 < a2.toInt) ∧ v = some (.int 0) ∧ w' = wM r g iM1 aM1 lM1) ∨ (∃ (y412 : Nat → Int32), (¬ (a1.toInt < 0)) ∧ (¬ (3 < a1.toInt)) ∧ (¬ (a1.toInt = 0)) ∧ (a1.toInt = 1) ∧ (0 ≠ a2.toInt) ∧ (¬ (a2.toInt < 0)) ∧ (¬ (3 < a2.toInt)) ∧ v = some (.int 1) ∧ w' = wM r g (upd iM1 22 1) (up2 (up2 (up3 (up2 aM1 18 (cp (aM1 17) (aM1 18) 165)) 18 162 a2) 22 y412) 17 (cp ((up2 (up3 (up2 aM1 18 (cp (aM1 17) (aM1 18) 165)) 18 162 a2) 22 y412) 18) ((up2 (up3 (up2 aM1 18 (cp (aM1 17) (aM1 18) 165)) 18 162 a2) 22 y412) 17) 165)) lM1) ∨ ((¬ (a1.toInt < 0)) ∧ (¬ (3 < a1.toInt)) ∧ (¬ (a1.toInt = 0)) ∧ (a1.toInt = 1) ∧ (¬ (0 ≠ a2.toInt)) ∧ v = some (.int 0) ∧ w' = wM r g iM1 aM1 lM1) ∨ ((¬ (a1.toInt < 0)) ∧ (¬ (3 < a1.toInt)) ∧ (¬ (a1.toInt = 0)) ∧ (¬ (a1.toInt = 1)) ∧ (a1.toInt = 2) ∧ (0 ≠ a2.toInt) ∧ (a2.toInt < 0) ∧ v = some (.int 0) ∧ w' = wM r g iM1 aM1 lM1) ∨ ((¬ (a1.toInt < 0)) ∧ (¬ (3 < a1.toInt)) ∧ (¬ (a1.toInt = 0)) ∧ (¬ (a1.toInt = 1)) ∧ (a1.toInt = 2) ∧ (0 ≠ a2.toInt) ∧ (¬ (a2.toInt < 0)) ∧ (1 < a2.toInt) ∧ v = some (.int 0) ∧ w' = wM r g iM1 aM1 lM1) ∨ (∃ (y431 : Nat → Int32), (¬ (a1.toInt < 0)) ∧ (¬ (3 < a1.toInt)) ∧ (¬ (a1.toInt = 0)) ∧ (¬ (a1.toInt = 1)) ∧ (a1.toInt = 2) ∧ (0 ≠ a2.toInt) ∧ (¬ (a2.toInt < 0)) ∧ (¬ (1 < a2.toInt)) ∧ v = some (.int 1) ∧ w' = wM r g (upd iM1 22 1) (up2 (up2 (up3 (up2 aM1 18 (cp (aM1 17) (aM1 18) 165)) 18 163 a2) 22 y431) 17 (cp ((up2 (up3 (up2 aM1 18 (cp (aM1 17) (aM1 18) 165)) 18 163 a2) 22 y431) 18) ((up2 (up3 (up2 aM1 18 (cp (aM1 17) (aM1 18) 165)) 18 163 a2) 22 y431) 17) 165)) lM1) ∨ ((¬ (a1.toInt < 0)) ∧ (¬ (3 < a1.toInt)) ∧ (¬ (a1.toInt = 0)) ∧ (¬ (a1.toInt = 1)) ∧ (a1.toInt = 2) ∧ (¬ (0 ≠ a2.toInt)) ∧ v = some (.int 0) ∧ w' = wM r g iM1 aM1 lM1) ∨ ((¬ (a1.toInt < 0)) ∧ (¬ (3 < a1.toInt)) ∧ (¬ (a1.toInt = 0)) ∧ (¬ (a1.toInt = 1)) ∧ (¬ (a1.toInt = 2)) ∧ (a1.toInt = 3) ∧ (8 ≠ a2.toInt) ∧ (a2.toInt < 1) ∧ v = some (.int 0) ∧ w' = wM r g iM1 aM1 lM1) ∨ ((¬ (a1.toInt < 0)) ∧ (¬ (3 < a1.toInt)) ∧ (¬ (a1.toInt = 0)) ∧ (¬ (a1.toInt = 1)) ∧ (¬ (a1.toInt = 2)) ∧ (a1.toInt = 3) ∧ (8 ≠ a2.toInt) ∧ (¬ (a2.toInt < 1)) ∧ (99 < a2.toInt) ∧ v = some (.int 0) ∧ w' = wM r g iM1 aM1 lM1) ∨ (∃ (y450 : Nat → Int32), (¬ (a1.toInt < 0)) ∧ (¬ (3 < a1.toInt)) ∧ (¬ (a1.toInt = 0)) ∧ (¬ (a1.toInt = 1)) ∧ (¬ (a1.toInt = 2)) ∧ (a1.toInt = 3) ∧ (8 ≠ a2.toInt) ∧ (¬ (a2.toInt < 1)) ∧ (¬ (99 < a2.toInt)) ∧ v = some (.int 1) ∧ w' = wM r g (upd iM1 22 1) (up2 (up2 (up3 (up2 aM1 18 (cp (aM1 17) (aM1 18) 165)) 18 164 a2) 22 y450) 17 (cp ((up2 (up3 (up2 aM1 18 (cp (aM1 17) (aM1 18) 165)) 18 164 a2) 22 y450) 18) ((up2 (up3 (up2 aM1 18 (cp (aM1 17) (aM1 18) 165)) 18 164 a2) 22 y450) 17) 165)) lM1) ∨ ((¬ (a1.toInt < 0)) ∧ (¬ (3 < a1.toInt)) ∧ (¬ (a1.toInt = 0)) ∧ (¬ (a1.toInt = 1)) ∧ (¬ (a1.toInt = 2)) ∧ (a1.toInt = 3) ∧ (¬ (8 ≠ a2.toInt)) ∧ v = some (.int 0) ∧ w' = wM r g iM1 aM1 lM1)) 0 0 := by
  refine GM.of (cc := cX12_set) (maxL := 5) (ret := (some .boolean)) (own := RX12) (lv := [(0, .ref (r 0)), (1, .int a1), (2, .int a2)]) (by decide) rfl rfl (Nat.le_of_ble_eq_true rfl) rfl (fun κ sz hk hR hN => ?_)
  have hin12 : ∀ w ∈ u_ws RX12 TX12 55, w ∈ wsX12_set := by decide +kernel
  refine g_iload_n hk dX12_set_0 rfl ?_
  refine g_iconst (v := 0) hk dX12_set_1 (by decide) ?_
  refine g_iconst (v := 3) hk dX12_set_2 (by decide) ?_
  refine g_callS hk (m149_X12_in l D zt g r a1) (SP.same _) (fun _ h => h) gX12_set_X12_in rfl rfl rfl (by decide +kernel) ⟨Nat.le_of_ble_eq_true rfl, Nat.le_of_ble_eq_true rfl⟩ rfl rfl (Nat.le_of_ble_eq_true rfl) ⟨Nat.le_of_ble_eq_true rfl, Nat.le_of_ble_eq_true rfl⟩ dX12_set_3 (fun v ty' w' hp hk' => ?_)
  rcases hp with ⟨c372, rfl, rfl⟩ | ⟨c373, c374, rfl, rfl⟩ | ⟨c375, c376, rfl, rfl⟩
  · show GW κ 5 0 0 (wM r g iM1 aM1 lM1) 6 [(0, .ref (r 0)), (1, .int a1), (2, .int a2)] [.int 0]
    refine g_if_eq (tgt := 23) (a := 0) hk dX12_set_6 (by decide) rfl (fun _ => ?_) (fun z9 => absurd (show 0 = 0 from by decide) z9)
    refine g_iconst (v := 0) hk dX12_set_23 (by decide) ?_
    exact g_iret hk hR rfl (Or.inl ⟨c372, rfl, rfl⟩) dX12_set_24
  · show GW κ 5 0 0 (wM r g iM1 aM1 lM1) 6 [(0, .ref (r 0)), (1, .int a1), (2, .int a2)] [.int 0]
    refine g_if_eq (tgt := 23) (a := 0) hk dX12_set_6 (by decide) rfl (fun _ => ?_) (fun z9 => absurd (show 0 = 0 from by decide) z9)
    refine g_iconst (v := 0) hk dX12_set_23 (by decide) ?_
    exact g_iret hk hR rfl (Or.inr (Or.inl ⟨c373, c374, rfl, rfl⟩)) dX12_set_24
  · show GW κ 5 0 0 (wM r g iM1 aM1 lM1) 6 [(0, .ref (r 0)), (1, .int a1), (2, .int a2)] [.int 1]
    refine g_if_eq (tgt := 23) (a := 1) hk dX12_set_6 (by decide) rfl (fun z9 => absurd z9 (show ¬ (1 = 0) from by decide)) (fun _ => ?_)
    refine g_aload_n hk dX12_set_9 rfl ?_
    refine gM_r0_35 hk hin12 (by decide +kernel) dX12_set_10 ?_
    refine g_sipush (v := 161) hk dX12_set_13 (by decide) ?_
    refine g_iload_n hk dX12_set_16 rfl ?_
    by_cases c377 : a1.toInt = 0
    · obtain rfl : a1 = 0 := Int32.toInt_inj.mp c377
      refine g_iadd hk dX12_set_17 ?_
      refine g_norm (v := 161) (by decide) ?_
      refine lM_17 (v := 2) hk (vp_in_iff.mpr ⟨by decide, by decide⟩) rfl dX12_set_18 ?_
      refine g_iload_n hk dX12_set_19 rfl ?_
      refine g_icmp_ne (tgt := 25) (a := 2) (b := a2.toInt) hk dX12_set_20 (by decide) rfl rfl (fun c378 => ?_) (fun c378 => ?_)
      · skip
        refine g_iload_n hk dX12_set_25 rfl ?_
        refine g_iconst (v := 3) hk dX12_set_26 (by decide) ?_
        refine g_icmp_ne (tgt := 34) (a := 0) (b := 3) hk dX12_set_27 (by decide) rfl rfl (fun _ => ?_) (fun z9 => absurd (show 0 ≠ 3 from by decide) z9)
        refine g_iconst (v := 0) hk dX12_set_34 (by decide) ?_
        refine g_istore_n (lv' := [(3, .int 0), (0, .ref (r 0)), (1, .int 0), (2, .int a2)]) hk dX12_set_35 (by decide) rfl ?_
        refine g_iload_n hk dX12_set_36 rfl ?_
        refine g_if_ne (tgt := 45) (a := 0) hk dX12_set_37 (by decide) rfl (fun z9 => absurd z9 (show ¬ (0 ≠ 0) from by decide)) (fun _ => ?_)
        refine g_bipush (v := 15) hk dX12_set_40 (by decide) ?_
        refine g_goto (tgt := 65) hk dX12_set_42 (by decide) ?_
        refine g_istore (lv' := [(4, .int 15), (3, .int 0), (0, .ref (r 0)), (1, .int 0), (2, .int a2)]) hk dX12_set_65 (by decide) rfl ?_
        refine g_iload_n hk dX12_set_67 rfl ?_
        refine g_iload_n hk dX12_set_68 rfl ?_
        refine g_iload hk dX12_set_69 rfl ?_
        refine g_callS hk (m150_X12_in l D zt g r a2) (SP.same _) (fun _ h => h) gX12_set_X12_in rfl rfl rfl (by decide +kernel) ⟨Nat.le_of_ble_eq_true rfl, Nat.le_of_ble_eq_true rfl⟩ rfl rfl (Nat.le_of_ble_eq_true rfl) ⟨Nat.le_of_ble_eq_true rfl, Nat.le_of_ble_eq_true rfl⟩ dX12_set_71 (fun v ty' w' hp hk' => ?_)
        rcases hp with ⟨c381, rfl, rfl⟩ | ⟨c382, c383, rfl, rfl⟩ | ⟨c384, c385, rfl, rfl⟩
        · show GW κ 5 0 0 (wM r g iM1 aM1 lM1) 74 [(4, .int 15), (3, .int 0), (0, .ref (r 0)), (1, .int 0), (2, .int a2)] [.int 0]
          refine g_if_ne (tgt := 79) (a := 0) hk dX12_set_74 (by decide) rfl (fun z9 => absurd z9 (show ¬ (0 ≠ 0) from by decide)) (fun _ => ?_)
          refine g_iconst (v := 0) hk dX12_set_77 (by decide) ?_
          exact g_iret hk hR rfl (Or.inr (Or.inr (Or.inl ⟨c375, c376, c377, c378, c381, rfl, rfl⟩))) dX12_set_78
        · show GW κ 5 0 0 (wM r g iM1 aM1 lM1) 74 [(4, .int 15), (3, .int 0), (0, .ref (r 0)), (1, .int 0), (2, .int a2)] [.int 0]
          refine g_if_ne (tgt := 79) (a := 0) hk dX12_set_74 (by decide) rfl (fun z9 => absurd z9 (show ¬ (0 ≠ 0) from by decide)) (fun _ => ?_)
          refine g_iconst (v := 0) hk dX12_set_77 (by decide) ?_
          exact g_iret hk hR rfl (Or.inr (Or.inr (Or.inr (Or.inl ⟨c375, c376, c377, c378, c382, c383, rfl, rfl⟩)))) dX12_set_78
        · show GW κ 5 0 0 (wM r g iM1 aM1 lM1) 74 [(4, .int 15), (3, .int 0), (0, .ref (r 0)), (1, .int 0), (2, .int a2)] [.int 1]
          refine g_if_ne (tgt := 79) (a := 1) hk dX12_set_74 (by decide) rfl (fun _ => ?_) (fun z9 => absurd (show 1 ≠ 0 from by decide) z9)
          refine g_aload_n hk dX12_set_79 rfl ?_
          refine g_callV hk (m137_X12_copies l D zt g r) (SP.same _) (fun _ h => h) gX12_set_X12_copies rfl rfl rfl (by decide +kernel) ⟨Nat.le_of_ble_eq_true rfl, Nat.le_of_ble_eq_true rfl⟩ 0 rfl rfl rfl rfl (Nat.le_of_ble_eq_true rfl) ⟨Nat.le_of_ble_eq_true rfl, Nat.le_of_ble_eq_true rfl⟩ dX12_set_80 (fun v ty' w' hp hk' => ?_)
          obtain ⟨rfl, rfl⟩ := hp
          show GW κ 5 0 0 (wM r g iM1 (up2 aM1 18 (cp (aM1 17) (aM1 18) 165)) lM1) 83 [(4, .int 15), (3, .int 0), (0, .ref (r 0)), (1, .int 0), (2, .int a2)] []
          refine g_aload_n hk dX12_set_83 rfl ?_
          refine gM_r0_36 hk hin12 (by decide +kernel) dX12_set_84 ?_
          refine g_sipush (v := 161) hk dX12_set_87 (by decide) ?_
          refine g_iload_n hk dX12_set_90 rfl ?_
          refine g_iadd hk dX12_set_91 ?_
          refine g_norm (v := 161) (by decide) ?_
          refine g_iload_n hk dX12_set_92 rfl ?_
          refine sM_18 (j := 161) hk (vp_in_iff.mpr ⟨by decide, by decide⟩) (by decide) dX12_set_93 ?_
          refine g_aload_n hk dX12_set_94 rfl ?_
          refine g_callV hk (m152_X12_records l D zt g r) (SP.same _) (fun _ h => h) gX12_set_X12_records rfl rfl rfl (by decide +kernel) ⟨Nat.le_of_ble_eq_true rfl, Nat.le_of_ble_eq_true rfl⟩ 0 rfl rfl rfl rfl (Nat.le_of_ble_eq_true rfl) ⟨Nat.le_of_ble_eq_true rfl, Nat.le_of_ble_eq_true rfl⟩ dX12_set_95 (fun v ty' w' hp hk' => ?_)
          obtain ⟨y395, rfl, rfl⟩ := hp
          show GW κ 5 0 0 (wM r g (upd iM1 22 1) (up2 (up2 (up3 (up2 aM1 18 (cp (aM1 17) (aM1 18) 165)) 18 161 a2) 22 y395) 17 (cp ((up2 (up3 (up2 aM1 18 (cp (aM1 17) (aM1 18) 165)) 18 161 a2) 22 y395) 18) ((up2 (up3 (up2 aM1 18 (cp (aM1 17) (aM1 18) 165)) 18 161 a2) 22 y395) 17) 165)) lM1) 98 [(4, .int 15), (3, .int 0), (0, .ref (r 0)), (1, .int 0), (2, .int a2)] []
          refine g_iconst (v := 1) hk dX12_set_98 (by decide) ?_
          exact g_iret hk hR rfl (Or.inr (Or.inr (Or.inr (Or.inr (Or.inl ⟨y395, c375, c376, c377, c378, c384, c385, rfl, rfl⟩))))) dX12_set_99
      · skip
        refine g_iconst (v := 0) hk dX12_set_23 (by decide) ?_
        exact g_iret hk hR rfl (Or.inr (Or.inr (Or.inr (Or.inr (Or.inr (Or.inl ⟨c375, c376, c377, c378, rfl, rfl⟩)))))) dX12_set_24
    by_cases c396 : a1.toInt = 1
    · obtain rfl : a1 = 1 := Int32.toInt_inj.mp c396
      refine g_iadd hk dX12_set_17 ?_
      refine g_norm (v := 162) (by decide) ?_
      refine lM_17 (v := 0) hk (vp_in_iff.mpr ⟨by decide, by decide⟩) rfl dX12_set_18 ?_
      refine g_iload_n hk dX12_set_19 rfl ?_
      refine g_icmp_ne (tgt := 25) (a := 0) (b := a2.toInt) hk dX12_set_20 (by decide) rfl rfl (fun c397 => ?_) (fun c397 => ?_)
      · skip
        refine g_iload_n hk dX12_set_25 rfl ?_
        refine g_iconst (v := 3) hk dX12_set_26 (by decide) ?_
        refine g_icmp_ne (tgt := 34) (a := 1) (b := 3) hk dX12_set_27 (by decide) rfl rfl (fun _ => ?_) (fun z9 => absurd (show 1 ≠ 3 from by decide) z9)
        refine g_iconst (v := 0) hk dX12_set_34 (by decide) ?_
        refine g_istore_n (lv' := [(3, .int 0), (0, .ref (r 0)), (1, .int 1), (2, .int a2)]) hk dX12_set_35 (by decide) rfl ?_
        refine g_iload_n hk dX12_set_36 rfl ?_
        refine g_if_ne (tgt := 45) (a := 1) hk dX12_set_37 (by decide) rfl (fun _ => ?_) (fun z9 => absurd (show 1 ≠ 0 from by decide) z9)
        refine g_iload_n hk dX12_set_45 rfl ?_
        refine g_iconst (v := 1) hk dX12_set_46 (by decide) ?_
        refine g_icmp_ne (tgt := 54) (a := 1) (b := 1) hk dX12_set_47 (by decide) rfl rfl (fun z9 => absurd z9 (show ¬ (1 ≠ 1) from by decide)) (fun _ => ?_)
        refine g_iconst (v := 3) hk dX12_set_50 (by decide) ?_
        refine g_goto (tgt := 65) hk dX12_set_51 (by decide) ?_
        refine g_istore (lv' := [(4, .int 3), (3, .int 0), (0, .ref (r 0)), (1, .int 1), (2, .int a2)]) hk dX12_set_65 (by decide) rfl ?_
        refine g_iload_n hk dX12_set_67 rfl ?_
        refine g_iload_n hk dX12_set_68 rfl ?_
        refine g_iload hk dX12_set_69 rfl ?_
        refine g_callS hk (m149_X12_in l D zt g r a2) (SP.same _) (fun _ h => h) gX12_set_X12_in rfl rfl rfl (by decide +kernel) ⟨Nat.le_of_ble_eq_true rfl, Nat.le_of_ble_eq_true rfl⟩ rfl rfl (Nat.le_of_ble_eq_true rfl) ⟨Nat.le_of_ble_eq_true rfl, Nat.le_of_ble_eq_true rfl⟩ dX12_set_71 (fun v ty' w' hp hk' => ?_)
        rcases hp with ⟨c398, rfl, rfl⟩ | ⟨c399, c400, rfl, rfl⟩ | ⟨c401, c402, rfl, rfl⟩
        · show GW κ 5 0 0 (wM r g iM1 aM1 lM1) 74 [(4, .int 3), (3, .int 0), (0, .ref (r 0)), (1, .int 1), (2, .int a2)] [.int 0]
          refine g_if_ne (tgt := 79) (a := 0) hk dX12_set_74 (by decide) rfl (fun z9 => absurd z9 (show ¬ (0 ≠ 0) from by decide)) (fun _ => ?_)
          refine g_iconst (v := 0) hk dX12_set_77 (by decide) ?_
          exact g_iret hk hR rfl (Or.inr (Or.inr (Or.inr (Or.inr (Or.inr (Or.inr (Or.inl ⟨c375, c376, c377, c396, c397, c398, rfl, rfl⟩))))))) dX12_set_78
        · show GW κ 5 0 0 (wM r g iM1 aM1 lM1) 74 [(4, .int 3), (3, .int 0), (0, .ref (r 0)), (1, .int 1), (2, .int a2)] [.int 0]
          refine g_if_ne (tgt := 79) (a := 0) hk dX12_set_74 (by decide) rfl (fun z9 => absurd z9 (show ¬ (0 ≠ 0) from by decide)) (fun _ => ?_)
          refine g_iconst (v := 0) hk dX12_set_77 (by decide) ?_
          exact g_iret hk hR rfl (Or.inr (Or.inr (Or.inr (Or.inr (Or.inr (Or.inr (Or.inr (Or.inl ⟨c375, c376, c377, c396, c397, c399, c400, rfl, rfl⟩)))))))) dX12_set_78
        · show GW κ 5 0 0 (wM r g iM1 aM1 lM1) 74 [(4, .int 3), (3, .int 0), (0, .ref (r 0)), (1, .int 1), (2, .int a2)] [.int 1]
          refine g_if_ne (tgt := 79) (a := 1) hk dX12_set_74 (by decide) rfl (fun _ => ?_) (fun z9 => absurd (show 1 ≠ 0 from by decide) z9)
          refine g_aload_n hk dX12_set_79 rfl ?_
          refine g_callV hk (m137_X12_copies l D zt g r) (SP.same _) (fun _ h => h) gX12_set_X12_copies rfl rfl rfl (by decide +kernel) ⟨Nat.le_of_ble_eq_true rfl, Nat.le_of_ble_eq_true rfl⟩ 0 rfl rfl rfl rfl (Nat.le_of_ble_eq_true rfl) ⟨Nat.le_of_ble_eq_true rfl, Nat.le_of_ble_eq_true rfl⟩ dX12_set_80 (fun v ty' w' hp hk' => ?_)
          obtain ⟨rfl, rfl⟩ := hp
          show GW κ 5 0 0 (wM r g iM1 (up2 aM1 18 (cp (aM1 17) (aM1 18) 165)) lM1) 83 [(4, .int 3), (3, .int 0), (0, .ref (r 0)), (1, .int 1), (2, .int a2)] []
          refine g_aload_n hk dX12_set_83 rfl ?_
          refine gM_r0_36 hk hin12 (by decide +kernel) dX12_set_84 ?_
          refine g_sipush (v := 161) hk dX12_set_87 (by decide) ?_
          refine g_iload_n hk dX12_set_90 rfl ?_
          refine g_iadd hk dX12_set_91 ?_
          refine g_norm (v := 162) (by decide) ?_
          refine g_iload_n hk dX12_set_92 rfl ?_
          refine sM_18 (j := 162) hk (vp_in_iff.mpr ⟨by decide, by decide⟩) (by decide) dX12_set_93 ?_
          refine g_aload_n hk dX12_set_94 rfl ?_
          refine g_callV hk (m154_X12_records l D zt g r) (SP.same _) (fun _ h => h) gX12_set_X12_records rfl rfl rfl (by decide +kernel) ⟨Nat.le_of_ble_eq_true rfl, Nat.le_of_ble_eq_true rfl⟩ 0 rfl rfl rfl rfl (Nat.le_of_ble_eq_true rfl) ⟨Nat.le_of_ble_eq_true rfl, Nat.le_of_ble_eq_true rfl⟩ dX12_set_95 (fun v ty' w' hp hk' => ?_)
          obtain ⟨y412, rfl, rfl⟩ := hp
          show GW κ 5 0 0 (wM r g (upd iM1 22 1) (up2 (up2 (up3 (up2 aM1 18 (cp (aM1 17) (aM1 18) 165)) 18 162 a2) 22 y412) 17 (cp ((up2 (up3 (up2 aM1 18 (cp (aM1 17) (aM1 18) 165)) 18 162 a2) 22 y412) 18) ((up2 (up3 (up2 aM1 18 (cp (aM1 17) (aM1 18) 165)) 18 162 a2) 22 y412) 17) 165)) lM1) 98 [(4, .int 3), (3, .int 0), (0, .ref (r 0)), (1, .int 1), (2, .int a2)] []
          refine g_iconst (v := 1) hk dX12_set_98 (by decide) ?_
          exact g_iret hk hR rfl (Or.inr (Or.inr (Or.inr (Or.inr (Or.inr (Or.inr (Or.inr (Or.inr (Or.inl ⟨y412, c375, c376, c377, c396, c397, c401, c402, rfl, rfl⟩))))))))) dX12_set_99
      · skip
        refine g_iconst (v := 0) hk dX12_set_23 (by decide) ?_
        exact g_iret hk hR rfl (Or.inr (Or.inr (Or.inr (Or.inr (Or.inr (Or.inr (Or.inr (Or.inr (Or.inr (Or.inl ⟨c375, c376, c377, c396, c397, rfl, rfl⟩)))))))))) dX12_set_24
    by_cases c413 : a1.toInt = 2
    · obtain rfl : a1 = 2 := Int32.toInt_inj.mp c413
      refine g_iadd hk dX12_set_17 ?_
      refine g_norm (v := 163) (by decide) ?_
      refine lM_17 (v := 0) hk (vp_in_iff.mpr ⟨by decide, by decide⟩) rfl dX12_set_18 ?_
      refine g_iload_n hk dX12_set_19 rfl ?_
      refine g_icmp_ne (tgt := 25) (a := 0) (b := a2.toInt) hk dX12_set_20 (by decide) rfl rfl (fun c414 => ?_) (fun c414 => ?_)
      · skip
        refine g_iload_n hk dX12_set_25 rfl ?_
        refine g_iconst (v := 3) hk dX12_set_26 (by decide) ?_
        refine g_icmp_ne (tgt := 34) (a := 2) (b := 3) hk dX12_set_27 (by decide) rfl rfl (fun _ => ?_) (fun z9 => absurd (show 2 ≠ 3 from by decide) z9)
        refine g_iconst (v := 0) hk dX12_set_34 (by decide) ?_
        refine g_istore_n (lv' := [(3, .int 0), (0, .ref (r 0)), (1, .int 2), (2, .int a2)]) hk dX12_set_35 (by decide) rfl ?_
        refine g_iload_n hk dX12_set_36 rfl ?_
        refine g_if_ne (tgt := 45) (a := 2) hk dX12_set_37 (by decide) rfl (fun _ => ?_) (fun z9 => absurd (show 2 ≠ 0 from by decide) z9)
        refine g_iload_n hk dX12_set_45 rfl ?_
        refine g_iconst (v := 1) hk dX12_set_46 (by decide) ?_
        refine g_icmp_ne (tgt := 54) (a := 2) (b := 1) hk dX12_set_47 (by decide) rfl rfl (fun _ => ?_) (fun z9 => absurd (show 2 ≠ 1 from by decide) z9)
        refine g_iload_n hk dX12_set_54 rfl ?_
        refine g_iconst (v := 2) hk dX12_set_55 (by decide) ?_
        refine g_icmp_ne (tgt := 63) (a := 2) (b := 2) hk dX12_set_56 (by decide) rfl rfl (fun z9 => absurd z9 (show ¬ (2 ≠ 2) from by decide)) (fun _ => ?_)
        refine g_iconst (v := 1) hk dX12_set_59 (by decide) ?_
        refine g_goto (tgt := 65) hk dX12_set_60 (by decide) ?_
        refine g_istore (lv' := [(4, .int 1), (3, .int 0), (0, .ref (r 0)), (1, .int 2), (2, .int a2)]) hk dX12_set_65 (by decide) rfl ?_
        refine g_iload_n hk dX12_set_67 rfl ?_
        refine g_iload_n hk dX12_set_68 rfl ?_
        refine g_iload hk dX12_set_69 rfl ?_
        refine g_callS hk (m155_X12_in l D zt g r a2) (SP.same _) (fun _ h => h) gX12_set_X12_in rfl rfl rfl (by decide +kernel) ⟨Nat.le_of_ble_eq_true rfl, Nat.le_of_ble_eq_true rfl⟩ rfl rfl (Nat.le_of_ble_eq_true rfl) ⟨Nat.le_of_ble_eq_true rfl, Nat.le_of_ble_eq_true rfl⟩ dX12_set_71 (fun v ty' w' hp hk' => ?_)
        rcases hp with ⟨c417, rfl, rfl⟩ | ⟨c418, c419, rfl, rfl⟩ | ⟨c420, c421, rfl, rfl⟩
        · show GW κ 5 0 0 (wM r g iM1 aM1 lM1) 74 [(4, .int 1), (3, .int 0), (0, .ref (r 0)), (1, .int 2), (2, .int a2)] [.int 0]
          refine g_if_ne (tgt := 79) (a := 0) hk dX12_set_74 (by decide) rfl (fun z9 => absurd z9 (show ¬ (0 ≠ 0) from by decide)) (fun _ => ?_)
          refine g_iconst (v := 0) hk dX12_set_77 (by decide) ?_
          exact g_iret hk hR rfl (Or.inr (Or.inr (Or.inr (Or.inr (Or.inr (Or.inr (Or.inr (Or.inr (Or.inr (Or.inr (Or.inl ⟨c375, c376, c377, c396, c413, c414, c417, rfl, rfl⟩))))))))))) dX12_set_78
        · show GW κ 5 0 0 (wM r g iM1 aM1 lM1) 74 [(4, .int 1), (3, .int 0), (0, .ref (r 0)), (1, .int 2), (2, .int a2)] [.int 0]
          refine g_if_ne (tgt := 79) (a := 0) hk dX12_set_74 (by decide) rfl (fun z9 => absurd z9 (show ¬ (0 ≠ 0) from by decide)) (fun _ => ?_)
          refine g_iconst (v := 0) hk dX12_set_77 (by decide) ?_
          exact g_iret hk hR rfl (Or.inr (Or.inr (Or.inr (Or.inr (Or.inr (Or.inr (Or.inr (Or.inr (Or.inr (Or.inr (Or.inr (Or.inl ⟨c375, c376, c377, c396, c413, c414, c418, c419, rfl, rfl⟩)))))))))))) dX12_set_78
        · show GW κ 5 0 0 (wM r g iM1 aM1 lM1) 74 [(4, .int 1), (3, .int 0), (0, .ref (r 0)), (1, .int 2), (2, .int a2)] [.int 1]
          refine g_if_ne (tgt := 79) (a := 1) hk dX12_set_74 (by decide) rfl (fun _ => ?_) (fun z9 => absurd (show 1 ≠ 0 from by decide) z9)
          refine g_aload_n hk dX12_set_79 rfl ?_
          refine g_callV hk (m137_X12_copies l D zt g r) (SP.same _) (fun _ h => h) gX12_set_X12_copies rfl rfl rfl (by decide +kernel) ⟨Nat.le_of_ble_eq_true rfl, Nat.le_of_ble_eq_true rfl⟩ 0 rfl rfl rfl rfl (Nat.le_of_ble_eq_true rfl) ⟨Nat.le_of_ble_eq_true rfl, Nat.le_of_ble_eq_true rfl⟩ dX12_set_80 (fun v ty' w' hp hk' => ?_)
          obtain ⟨rfl, rfl⟩ := hp
          show GW κ 5 0 0 (wM r g iM1 (up2 aM1 18 (cp (aM1 17) (aM1 18) 165)) lM1) 83 [(4, .int 1), (3, .int 0), (0, .ref (r 0)), (1, .int 2), (2, .int a2)] []
          refine g_aload_n hk dX12_set_83 rfl ?_
          refine gM_r0_36 hk hin12 (by decide +kernel) dX12_set_84 ?_
          refine g_sipush (v := 161) hk dX12_set_87 (by decide) ?_
          refine g_iload_n hk dX12_set_90 rfl ?_
          refine g_iadd hk dX12_set_91 ?_
          refine g_norm (v := 163) (by decide) ?_
          refine g_iload_n hk dX12_set_92 rfl ?_
          refine sM_18 (j := 163) hk (vp_in_iff.mpr ⟨by decide, by decide⟩) (by decide) dX12_set_93 ?_
          refine g_aload_n hk dX12_set_94 rfl ?_
          refine g_callV hk (m157_X12_records l D zt g r) (SP.same _) (fun _ h => h) gX12_set_X12_records rfl rfl rfl (by decide +kernel) ⟨Nat.le_of_ble_eq_true rfl, Nat.le_of_ble_eq_true rfl⟩ 0 rfl rfl rfl rfl (Nat.le_of_ble_eq_true rfl) ⟨Nat.le_of_ble_eq_true rfl, Nat.le_of_ble_eq_true rfl⟩ dX12_set_95 (fun v ty' w' hp hk' => ?_)
          obtain ⟨y431, rfl, rfl⟩ := hp
          show GW κ 5 0 0 (wM r g (upd iM1 22 1) (up2 (up2 (up3 (up2 aM1 18 (cp (aM1 17) (aM1 18) 165)) 18 163 a2) 22 y431) 17 (cp ((up2 (up3 (up2 aM1 18 (cp (aM1 17) (aM1 18) 165)) 18 163 a2) 22 y431) 18) ((up2 (up3 (up2 aM1 18 (cp (aM1 17) (aM1 18) 165)) 18 163 a2) 22 y431) 17) 165)) lM1) 98 [(4, .int 1), (3, .int 0), (0, .ref (r 0)), (1, .int 2), (2, .int a2)] []
          refine g_iconst (v := 1) hk dX12_set_98 (by decide) ?_
          exact g_iret hk hR rfl (Or.inr (Or.inr (Or.inr (Or.inr (Or.inr (Or.inr (Or.inr (Or.inr (Or.inr (Or.inr (Or.inr (Or.inr (Or.inl ⟨y431, c375, c376, c377, c396, c413, c414, c420, c421, rfl, rfl⟩))))))))))))) dX12_set_99
      · skip
        refine g_iconst (v := 0) hk dX12_set_23 (by decide) ?_
        exact g_iret hk hR rfl (Or.inr (Or.inr (Or.inr (Or.inr (Or.inr (Or.inr (Or.inr (Or.inr (Or.inr (Or.inr (Or.inr (Or.inr (Or.inr (Or.inl ⟨c375, c376, c377, c396, c413, c414, rfl, rfl⟩)))))))))))))) dX12_set_24
    by_cases c432 : a1.toInt = 3
    · obtain rfl : a1 = 3 := Int32.toInt_inj.mp c432
      refine g_iadd hk dX12_set_17 ?_
      refine g_norm (v := 164) (by decide) ?_
      refine lM_17 (v := 8) hk (vp_in_iff.mpr ⟨by decide, by decide⟩) rfl dX12_set_18 ?_
      refine g_iload_n hk dX12_set_19 rfl ?_
      refine g_icmp_ne (tgt := 25) (a := 8) (b := a2.toInt) hk dX12_set_20 (by decide) rfl rfl (fun c433 => ?_) (fun c433 => ?_)
      · skip
        refine g_iload_n hk dX12_set_25 rfl ?_
        refine g_iconst (v := 3) hk dX12_set_26 (by decide) ?_
        refine g_icmp_ne (tgt := 34) (a := 3) (b := 3) hk dX12_set_27 (by decide) rfl rfl (fun z9 => absurd z9 (show ¬ (3 ≠ 3) from by decide)) (fun _ => ?_)
        refine g_iconst (v := 1) hk dX12_set_30 (by decide) ?_
        refine g_goto (tgt := 35) hk dX12_set_31 (by decide) ?_
        refine g_istore_n (lv' := [(3, .int 1), (0, .ref (r 0)), (1, .int 3), (2, .int a2)]) hk dX12_set_35 (by decide) rfl ?_
        refine g_iload_n hk dX12_set_36 rfl ?_
        refine g_if_ne (tgt := 45) (a := 3) hk dX12_set_37 (by decide) rfl (fun _ => ?_) (fun z9 => absurd (show 3 ≠ 0 from by decide) z9)
        refine g_iload_n hk dX12_set_45 rfl ?_
        refine g_iconst (v := 1) hk dX12_set_46 (by decide) ?_
        refine g_icmp_ne (tgt := 54) (a := 3) (b := 1) hk dX12_set_47 (by decide) rfl rfl (fun _ => ?_) (fun z9 => absurd (show 3 ≠ 1 from by decide) z9)
        refine g_iload_n hk dX12_set_54 rfl ?_
        refine g_iconst (v := 2) hk dX12_set_55 (by decide) ?_
        refine g_icmp_ne (tgt := 63) (a := 3) (b := 2) hk dX12_set_56 (by decide) rfl rfl (fun _ => ?_) (fun z9 => absurd (show 3 ≠ 2 from by decide) z9)
        refine g_bipush (v := 99) hk dX12_set_63 (by decide) ?_
        refine g_istore (lv' := [(4, .int 99), (3, .int 1), (0, .ref (r 0)), (1, .int 3), (2, .int a2)]) hk dX12_set_65 (by decide) rfl ?_
        refine g_iload_n hk dX12_set_67 rfl ?_
        refine g_iload_n hk dX12_set_68 rfl ?_
        refine g_iload hk dX12_set_69 rfl ?_
        refine g_callS hk (m158_X12_in l D zt g r a2) (SP.same _) (fun _ h => h) gX12_set_X12_in rfl rfl rfl (by decide +kernel) ⟨Nat.le_of_ble_eq_true rfl, Nat.le_of_ble_eq_true rfl⟩ rfl rfl (Nat.le_of_ble_eq_true rfl) ⟨Nat.le_of_ble_eq_true rfl, Nat.le_of_ble_eq_true rfl⟩ dX12_set_71 (fun v ty' w' hp hk' => ?_)
        rcases hp with ⟨c436, rfl, rfl⟩ | ⟨c437, c438, rfl, rfl⟩ | ⟨c439, c440, rfl, rfl⟩
        · show GW κ 5 0 0 (wM r g iM1 aM1 lM1) 74 [(4, .int 99), (3, .int 1), (0, .ref (r 0)), (1, .int 3), (2, .int a2)] [.int 0]
          refine g_if_ne (tgt := 79) (a := 0) hk dX12_set_74 (by decide) rfl (fun z9 => absurd z9 (show ¬ (0 ≠ 0) from by decide)) (fun _ => ?_)
          refine g_iconst (v := 0) hk dX12_set_77 (by decide) ?_
          exact g_iret hk hR rfl (Or.inr (Or.inr (Or.inr (Or.inr (Or.inr (Or.inr (Or.inr (Or.inr (Or.inr (Or.inr (Or.inr (Or.inr (Or.inr (Or.inr (Or.inl ⟨c375, c376, c377, c396, c413, c432, c433, c436, rfl, rfl⟩))))))))))))))) dX12_set_78
        · show GW κ 5 0 0 (wM r g iM1 aM1 lM1) 74 [(4, .int 99), (3, .int 1), (0, .ref (r 0)), (1, .int 3), (2, .int a2)] [.int 0]
          refine g_if_ne (tgt := 79) (a := 0) hk dX12_set_74 (by decide) rfl (fun z9 => absurd z9 (show ¬ (0 ≠ 0) from by decide)) (fun _ => ?_)
          refine g_iconst (v := 0) hk dX12_set_77 (by decide) ?_
          exact g_iret hk hR rfl (Or.inr (Or.inr (Or.inr (Or.inr (Or.inr (Or.inr (Or.inr (Or.inr (Or.inr (Or.inr (Or.inr (Or.inr (Or.inr (Or.inr (Or.inr (Or.inl ⟨c375, c376, c377, c396, c413, c432, c433, c437, c438, rfl, rfl⟩)))))))))))))))) dX12_set_78
        · show GW κ 5 0 0 (wM r g iM1 aM1 lM1) 74 [(4, .int 99), (3, .int 1), (0, .ref (r 0)), (1, .int 3), (2, .int a2)] [.int 1]
          refine g_if_ne (tgt := 79) (a := 1) hk dX12_set_74 (by decide) rfl (fun _ => ?_) (fun z9 => absurd (show 1 ≠ 0 from by decide) z9)
          refine g_aload_n hk dX12_set_79 rfl ?_
          refine g_callV hk (m137_X12_copies l D zt g r) (SP.same _) (fun _ h => h) gX12_set_X12_copies rfl rfl rfl (by decide +kernel) ⟨Nat.le_of_ble_eq_true rfl, Nat.le_of_ble_eq_true rfl⟩ 0 rfl rfl rfl rfl (Nat.le_of_ble_eq_true rfl) ⟨Nat.le_of_ble_eq_true rfl, Nat.le_of_ble_eq_true rfl⟩ dX12_set_80 (fun v ty' w' hp hk' => ?_)
          obtain ⟨rfl, rfl⟩ := hp
          show GW κ 5 0 0 (wM r g iM1 (up2 aM1 18 (cp (aM1 17) (aM1 18) 165)) lM1) 83 [(4, .int 99), (3, .int 1), (0, .ref (r 0)), (1, .int 3), (2, .int a2)] []
          refine g_aload_n hk dX12_set_83 rfl ?_
          refine gM_r0_36 hk hin12 (by decide +kernel) dX12_set_84 ?_
          refine g_sipush (v := 161) hk dX12_set_87 (by decide) ?_
          refine g_iload_n hk dX12_set_90 rfl ?_
          refine g_iadd hk dX12_set_91 ?_
          refine g_norm (v := 164) (by decide) ?_
          refine g_iload_n hk dX12_set_92 rfl ?_
          refine sM_18 (j := 164) hk (vp_in_iff.mpr ⟨by decide, by decide⟩) (by decide) dX12_set_93 ?_
          refine g_aload_n hk dX12_set_94 rfl ?_
          refine g_callV hk (m160_X12_records l D zt g r) (SP.same _) (fun _ h => h) gX12_set_X12_records rfl rfl rfl (by decide +kernel) ⟨Nat.le_of_ble_eq_true rfl, Nat.le_of_ble_eq_true rfl⟩ 0 rfl rfl rfl rfl (Nat.le_of_ble_eq_true rfl) ⟨Nat.le_of_ble_eq_true rfl, Nat.le_of_ble_eq_true rfl⟩ dX12_set_95 (fun v ty' w' hp hk' => ?_)
          obtain ⟨y450, rfl, rfl⟩ := hp
          show GW κ 5 0 0 (wM r g (upd iM1 22 1) (up2 (up2 (up3 (up2 aM1 18 (cp (aM1 17) (aM1 18) 165)) 18 164 a2) 22 y450) 17 (cp ((up2 (up3 (up2 aM1 18 (cp (aM1 17) (aM1 18) 165)) 18 164 a2) 22 y450) 18) ((up2 (up3 (up2 aM1 18 (cp (aM1 17) (aM1 18) 165)) 18 164 a2) 22 y450) 17) 165)) lM1) 98 [(4, .int 99), (3, .int 1), (0, .ref (r 0)), (1, .int 3), (2, .int a2)] []
          refine g_iconst (v := 1) hk dX12_set_98 (by decide) ?_
          exact g_iret hk hR rfl (Or.inr (Or.inr (Or.inr (Or.inr (Or.inr (Or.inr (Or.inr (Or.inr (Or.inr (Or.inr (Or.inr (Or.inr (Or.inr (Or.inr (Or.inr (Or.inr (Or.inl ⟨y450, c375, c376, c377, c396, c413, c432, c433, c439, c440, rfl, rfl⟩))))))))))))))))) dX12_set_99
      · skip
        refine g_iconst (v := 0) hk dX12_set_23 (by decide) ?_
        exact g_iret hk hR rfl (Or.inr (Or.inr (Or.inr (Or.inr (Or.inr (Or.inr (Or.inr (Or.inr (Or.inr (Or.inr (Or.inr (Or.inr (Or.inr (Or.inr (Or.inr (Or.inr (Or.inr (⟨c375, c376, c377, c396, c413, c432, c433, rfl, rfl⟩)))))))))))))))))) dX12_set_24
    exfalso; omega
set_option maxHeartbeats 4000000 in
set_option maxRecDepth 100000 in
theorem m162_X12_undo (l : Launch) (D : va_G) (zt : Nat × Nat × Nat) (g : Nat → ClassId) (r : Nat → Nat) : GM l D zt (tyM g) yX12_undo wsX12_undo ({ frames := 0, cells := 0, slots := 0, locals := 0 } : Room) [.ref (r 0)] (wM r g iM1 aM1 lM1) (fun v _ w' => v = some (.int 0) ∧ w' = wM r g iM1 aM1 lM1) 0 0 := by
  refine GM.of (cc := cX12_undo) (maxL := 2) (ret := (some .boolean)) (own := RX12) (lv := [(0, .ref (r 0))]) (by decide) rfl rfl (Nat.le_of_ble_eq_true rfl) rfl (fun κ sz hk hR hN => ?_)
  have hin12 : ∀ w ∈ u_ws RX12 TX12 55, w ∈ wsX12_undo := by decide +kernel
  refine g_aload_n hk dX12_undo_0 rfl ?_
  refine gM_i22 (v := 0) hk hin12 (by decide +kernel) dX12_undo_1 rfl ?_
  refine g_if_ne (tgt := 9) (a := 0) hk dX12_undo_4 (by decide) rfl (fun z9 => absurd z9 (show ¬ (0 ≠ 0) from by decide)) (fun _ => ?_)
  refine g_iconst (v := 0) hk dX12_undo_7 (by decide) ?_
  exact g_iret hk hR rfl ⟨rfl, rfl⟩ dX12_undo_8
set_option maxHeartbeats 4000000 in
set_option maxRecDepth 100000 in
theorem m163_X12_isWindow (l : Launch) (D : va_G) (zt : Nat × Nat × Nat) (g : Nat → ClassId) (r : Nat → Nat) (a1 : Int32) (a2 : Int32) : GM l D zt (tyM g) yX12_isWindow wsX12_isWindow ({ frames := 0, cells := 0, slots := 0, locals := 0 } : Room) [.ref (r 0), .int a1, .int a2] (wM r g iM1 aM1 lM1) (fun v _ w' => v = some (.int 0) ∧ w' = wM r g iM1 aM1 lM1) 0 0 := by
  refine GM.of (cc := cX12_isWindow) (maxL := 4) (ret := (some .boolean)) (own := RX12) (lv := [(0, .ref (r 0)), (1, .int a1), (2, .int a2)]) (by decide) rfl rfl (Nat.le_of_ble_eq_true rfl) rfl (fun κ sz hk hR hN => ?_)
  have hin12 : ∀ w ∈ u_ws RX12 TX12 55, w ∈ wsX12_isWindow := by decide +kernel
  refine g_iload_n hk dX12_isWindow_0 rfl ?_
  refine g_if_lt (tgt := 21) (a := a1.toInt) hk dX12_isWindow_1 (by decide) rfl (fun c451 => ?_) (fun c451 => ?_)
  · skip
    refine g_iconst (v := 0) hk dX12_isWindow_21 (by decide) ?_
    exact g_iret hk hR rfl ⟨rfl, rfl⟩ dX12_isWindow_22
  · skip
    refine g_iload_n hk dX12_isWindow_4 rfl ?_
    refine g_iconst (v := 1) hk dX12_isWindow_5 (by decide) ?_
    refine g_icmp_lt (tgt := 21) (a := a2.toInt) (b := 1) hk dX12_isWindow_6 (by decide) rfl rfl (fun c452 => ?_) (fun c452 => ?_)
    · skip
      refine g_iconst (v := 0) hk dX12_isWindow_21 (by decide) ?_
      exact g_iret hk hR rfl ⟨rfl, rfl⟩ dX12_isWindow_22
    · skip
      refine g_iload_n hk dX12_isWindow_9 rfl ?_
      refine g_aload_n hk dX12_isWindow_10 rfl ?_
      refine gM_r0_35 hk hin12 (by decide +kernel) dX12_isWindow_11 ?_
      refine g_iconst (v := 0) hk dX12_isWindow_14 (by decide) ?_
      refine lM_17 (v := 0) hk (vp_in_iff.mpr ⟨by decide, by decide⟩) rfl dX12_isWindow_15 ?_
      refine g_iload_n hk dX12_isWindow_16 rfl ?_
      refine g_isub hk dX12_isWindow_17 ?_
      refine g_topi (fun y453 ey453 => ?_)
      have hy453 : y453.toInt = 0 - a2.toInt := i32_sub ey453 rfl rfl (by omega) (by omega)
      refine g_icmp_le (tgt := 23) (a := a1.toInt) (b := y453.toInt) hk dX12_isWindow_18 (by decide) rfl rfl (fun z9 => absurd z9 (show ¬ (a1.toInt ≤ y453.toInt) from by omega)) (fun _ => ?_)
      refine g_iconst (v := 0) hk dX12_isWindow_21 (by decide) ?_
      exact g_iret hk hR rfl ⟨rfl, rfl⟩ dX12_isWindow_22
set_option maxHeartbeats 4000000 in
set_option maxRecDepth 100000 in
theorem m164_X12_window (l : Launch) (D : va_G) (zt : Nat × Nat × Nat) (g : Nat → ClassId) (r : Nat → Nat) (a1 : Int32) (a2 : Int32) (a3 : Int32) : GM l D zt (tyM g) yX12_window wsX12_window ({ frames := 1, cells := 0, slots := 0, locals := 23 } : Room) [.ref (r 0), .int a1, .int a2, .int a3] (wM r g iM1 aM1 lM1) (fun v _ w' => v = some (.int (-1000000)) ∧ w' = wM r g iM1 aM1 lM1) 0 0 := by
  refine GM.of (cc := cX12_window) (maxL := 4) (ret := (some .int)) (own := RX12) (lv := [(0, .ref (r 0)), (1, .int a1), (2, .int a2), (3, .int a3)]) (by decide) rfl rfl (Nat.le_of_ble_eq_true rfl) rfl (fun κ sz hk hR hN => ?_)
  refine g_aload_n hk dX12_window_0 rfl ?_
  refine g_iload_n hk dX12_window_1 rfl ?_
  refine g_iload_n hk dX12_window_2 rfl ?_
  refine g_callV hk (m163_X12_isWindow l D zt g r a1 a2) (SP.same _) (fun _ h => h) gX12_window_X12_isWindow rfl rfl rfl (by decide +kernel) ⟨Nat.le_of_ble_eq_true rfl, Nat.le_of_ble_eq_true rfl⟩ 0 rfl rfl rfl rfl (Nat.le_of_ble_eq_true rfl) ⟨Nat.le_of_ble_eq_true rfl, Nat.le_of_ble_eq_true rfl⟩ dX12_window_3 (fun v ty' w' hp hk' => ?_)
  obtain ⟨rfl, rfl⟩ := hp
  show GW κ 4 0 0 (wM r g iM1 aM1 lM1) 6 [(0, .ref (r 0)), (1, .int a1), (2, .int a2), (3, .int a3)] [.int 0]
  refine g_if_ne (tgt := 13) (a := 0) hk dX12_window_6 (by decide) rfl (fun z9 => absurd z9 (show ¬ (0 ≠ 0) from by decide)) (fun _ => ?_)
  refine g_ldcw (v := (-1000000)) hk (by decide +kernel) dX12_window_9 ?_
  exact g_iret hk hR rfl ⟨rfl, rfl⟩ dX12_window_12
set_option maxHeartbeats 4000000 in
set_option maxRecDepth 100000 in
theorem m165_X12_in (l : Launch) (D : va_G) (zt : Nat × Nat × Nat) (g : Nat → ClassId) (r : Nat → Nat) (a0 : Int32) : GM l D zt (tyM g) yX12_in wsX12_in ({ frames := 0, cells := 0, slots := 0, locals := 0 } : Room) [.int a0, .int 2, .int 16] (wM r g iM1 aM1 lM1) (fun v _ w' => ((a0.toInt < 2) ∧ v = some (.int 0) ∧ w' = wM r g iM1 aM1 lM1) ∨ ((¬ (a0.toInt < 2)) ∧ (16 < a0.toInt) ∧ v = some (.int 0) ∧ w' = wM r g iM1 aM1 lM1) ∨ ((¬ (a0.toInt < 2)) ∧ (¬ (16 < a0.toInt)) ∧ v = some (.int 1) ∧ w' = wM r g iM1 aM1 lM1)) 0 0 := by
  refine GM.of (cc := cX12_in) (maxL := 3) (ret := (some .boolean)) (own := RX12) (lv := [(0, .int a0), (1, .int 2), (2, .int 16)]) (by decide) rfl rfl (Nat.le_of_ble_eq_true rfl) rfl (fun κ sz hk hR hN => ?_)
  refine g_iload_n hk dX12_in_0 rfl ?_
  refine g_iload_n hk dX12_in_1 rfl ?_
  refine g_icmp_lt (tgt := 14) (a := a0.toInt) (b := 2) hk dX12_in_2 (by decide) rfl rfl (fun c454 => ?_) (fun c454 => ?_)
  · skip
    refine g_iconst (v := 0) hk dX12_in_14 (by decide) ?_
    exact g_iret hk hR rfl (Or.inl ⟨c454, rfl, rfl⟩) dX12_in_15
  · skip
    refine g_iload_n hk dX12_in_5 rfl ?_
    refine g_iload_n hk dX12_in_6 rfl ?_
    refine g_icmp_gt (tgt := 14) (a := a0.toInt) (b := 16) hk dX12_in_7 (by decide) rfl rfl (fun c455 => ?_) (fun c455 => ?_)
    · skip
      refine g_iconst (v := 0) hk dX12_in_14 (by decide) ?_
      exact g_iret hk hR rfl (Or.inr (Or.inl ⟨c454, c455, rfl, rfl⟩)) dX12_in_15
    · skip
      refine g_iconst (v := 1) hk dX12_in_10 (by decide) ?_
      refine g_goto (tgt := 15) hk dX12_in_11 (by decide) ?_
      exact g_iret hk hR rfl (Or.inr (Or.inr (⟨c454, c455, rfl, rfl⟩))) dX12_in_15
set_option maxHeartbeats 4000000 in
set_option maxRecDepth 100000 in
theorem m166_X12_isWindow (l : Launch) (D : va_G) (zt : Nat × Nat × Nat) (g : Nat → ClassId) (r : Nat → Nat) (a1 : Int32) (a2 : Int32) (h0 : 2 ≤ a2.toInt) (h1 : a2.toInt ≤ 16) : GM l D zt (tyM g) yX12_isWindow wsX12_isWindow ({ frames := 0, cells := 0, slots := 0, locals := 0 } : Room) [.ref (r 0), .int a1, .int a2] (wM r g iM1 aM1 lM1) (fun v _ w' => v = some (.int 0) ∧ w' = wM r g iM1 aM1 lM1) 0 0 := by
  refine GM.of (cc := cX12_isWindow) (maxL := 4) (ret := (some .boolean)) (own := RX12) (lv := [(0, .ref (r 0)), (1, .int a1), (2, .int a2)]) (by decide) rfl rfl (Nat.le_of_ble_eq_true rfl) rfl (fun κ sz hk hR hN => ?_)
  have hin12 : ∀ w ∈ u_ws RX12 TX12 55, w ∈ wsX12_isWindow := by decide +kernel
  refine g_iload_n hk dX12_isWindow_0 rfl ?_
  refine g_if_lt (tgt := 21) (a := a1.toInt) hk dX12_isWindow_1 (by decide) rfl (fun c461 => ?_) (fun c461 => ?_)
  · skip
    refine g_iconst (v := 0) hk dX12_isWindow_21 (by decide) ?_
    exact g_iret hk hR rfl ⟨rfl, rfl⟩ dX12_isWindow_22
  · skip
    refine g_iload_n hk dX12_isWindow_4 rfl ?_
    refine g_iconst (v := 1) hk dX12_isWindow_5 (by decide) ?_
    refine g_icmp_lt (tgt := 21) (a := a2.toInt) (b := 1) hk dX12_isWindow_6 (by decide) rfl rfl (fun z9 => absurd z9 (show ¬ (a2.toInt < 1) from by omega)) (fun _ => ?_)
    refine g_iload_n hk dX12_isWindow_9 rfl ?_
    refine g_aload_n hk dX12_isWindow_10 rfl ?_
    refine gM_r0_35 hk hin12 (by decide +kernel) dX12_isWindow_11 ?_
    refine g_iconst (v := 0) hk dX12_isWindow_14 (by decide) ?_
    refine lM_17 (v := 0) hk (vp_in_iff.mpr ⟨by decide, by decide⟩) rfl dX12_isWindow_15 ?_
    refine g_iload_n hk dX12_isWindow_16 rfl ?_
    refine g_isub hk dX12_isWindow_17 ?_
    refine g_topi (fun y462 ey462 => ?_)
    have hy462 : y462.toInt = 0 - a2.toInt := i32_sub ey462 rfl rfl (by omega) (by omega)
    refine g_icmp_le (tgt := 23) (a := a1.toInt) (b := y462.toInt) hk dX12_isWindow_18 (by decide) rfl rfl (fun z9 => absurd z9 (show ¬ (a1.toInt ≤ y462.toInt) from by omega)) (fun _ => ?_)
    refine g_iconst (v := 0) hk dX12_isWindow_21 (by decide) ?_
    exact g_iret hk hR rfl ⟨rfl, rfl⟩ dX12_isWindow_22
set_option maxHeartbeats 4000000 in
set_option maxRecDepth 100000 in
theorem m167_X12_level (l : Launch) (D : va_G) (zt : Nat × Nat × Nat) (g : Nat → ClassId) (r : Nat → Nat) (a1 : Int32) (a2 : Int32) (a3 : Int32) : GM l D zt (tyM g) yX12_level wsX12_level ({ frames := 1, cells := 0, slots := 0, locals := 23 } : Room) [.ref (r 0), .int a1, .int a2, .int a3] (wM r g iM1 aM1 lM1) (fun v _ w' => v = some (.int (-1000000)) ∧ w' = wM r g iM1 aM1 lM1) 0 0 := by
  refine GM.of (cc := cX12_level) (maxL := 4) (ret := (some .int)) (own := RX12) (lv := [(0, .ref (r 0)), (1, .int a1), (2, .int a2), (3, .int a3)]) (by decide) rfl rfl (Nat.le_of_ble_eq_true rfl) rfl (fun κ sz hk hR hN => ?_)
  refine g_iload_n hk dX12_level_0 rfl ?_
  refine g_iconst (v := 2) hk dX12_level_1 (by decide) ?_
  refine g_bipush (v := 16) hk dX12_level_2 (by decide) ?_
  refine g_callS hk (m165_X12_in l D zt g r a2) (SP.same _) (fun _ h => h) gX12_level_X12_in rfl rfl rfl (by decide +kernel) ⟨Nat.le_of_ble_eq_true rfl, Nat.le_of_ble_eq_true rfl⟩ rfl rfl (Nat.le_of_ble_eq_true rfl) ⟨Nat.le_of_ble_eq_true rfl, Nat.le_of_ble_eq_true rfl⟩ dX12_level_4 (fun v ty' w' hp hk' => ?_)
  rcases hp with ⟨c456, rfl, rfl⟩ | ⟨c457, c458, rfl, rfl⟩ | ⟨c459, c460, rfl, rfl⟩
  · show GW κ 4 0 0 (wM r g iM1 aM1 lM1) 7 [(0, .ref (r 0)), (1, .int a1), (2, .int a2), (3, .int a3)] [.int 0]
    refine g_if_eq (tgt := 30) (a := 0) hk dX12_level_7 (by decide) rfl (fun _ => ?_) (fun z9 => absurd (show 0 = 0 from by decide) z9)
    refine g_ldcw (v := (-1000000)) hk (by decide +kernel) dX12_level_30 ?_
    exact g_iret hk hR rfl ⟨rfl, rfl⟩ dX12_level_33
  · show GW κ 4 0 0 (wM r g iM1 aM1 lM1) 7 [(0, .ref (r 0)), (1, .int a1), (2, .int a2), (3, .int a3)] [.int 0]
    refine g_if_eq (tgt := 30) (a := 0) hk dX12_level_7 (by decide) rfl (fun _ => ?_) (fun z9 => absurd (show 0 = 0 from by decide) z9)
    refine g_ldcw (v := (-1000000)) hk (by decide +kernel) dX12_level_30 ?_
    exact g_iret hk hR rfl ⟨rfl, rfl⟩ dX12_level_33
  · show GW κ 4 0 0 (wM r g iM1 aM1 lM1) 7 [(0, .ref (r 0)), (1, .int a1), (2, .int a2), (3, .int a3)] [.int 1]
    refine g_if_eq (tgt := 30) (a := 1) hk dX12_level_7 (by decide) rfl (fun z9 => absurd z9 (show ¬ (1 = 0) from by decide)) (fun _ => ?_)
    refine g_aload_n hk dX12_level_10 rfl ?_
    refine g_iload_n hk dX12_level_11 rfl ?_
    refine g_iload_n hk dX12_level_12 rfl ?_
    refine g_callV hk (m166_X12_isWindow l D zt g r a1 a2 (by omega) (by omega)) (SP.same _) (fun _ h => h) gX12_level_X12_isWindow rfl rfl rfl (by decide +kernel) ⟨Nat.le_of_ble_eq_true rfl, Nat.le_of_ble_eq_true rfl⟩ 0 rfl rfl rfl rfl (Nat.le_of_ble_eq_true rfl) ⟨Nat.le_of_ble_eq_true rfl, Nat.le_of_ble_eq_true rfl⟩ dX12_level_13 (fun v ty' w' hp hk' => ?_)
    obtain ⟨rfl, rfl⟩ := hp
    show GW κ 4 0 0 (wM r g iM1 aM1 lM1) 16 [(0, .ref (r 0)), (1, .int a1), (2, .int a2), (3, .int a3)] [.int 0]
    refine g_if_eq (tgt := 30) (a := 0) hk dX12_level_16 (by decide) rfl (fun _ => ?_) (fun z9 => absurd (show 0 = 0 from by decide) z9)
    refine g_ldcw (v := (-1000000)) hk (by decide +kernel) dX12_level_30 ?_
    exact g_iret hk hR rfl ⟨rfl, rfl⟩ dX12_level_33
set_option maxHeartbeats 4000000 in
set_option maxRecDepth 100000 in
theorem m168_X12_isOf (l : Launch) (D : va_G) (zt : Nat × Nat × Nat) (g : Nat → ClassId) (r : Nat → Nat) (a1 : Int32) (a2 : Int32) : GM l D zt (tyM g) yX12_isOf wsX12_isOf ({ frames := 2, cells := 0, slots := 0, locals := 43 } : Room) [.ref (r 0), .int a1, .int a2] (wM r g iM1 aM1 lM1) (fun v _ w' => v = some (.int 0) ∧ w' = wM r g iM1 aM1 lM1) 0 0 := by
  refine GM.of (cc := cX12_isOf) (maxL := 3) (ret := (some .boolean)) (own := RX12) (lv := [(0, .ref (r 0)), (1, .int a1), (2, .int a2)]) (by decide) rfl rfl (Nat.le_of_ble_eq_true rfl) rfl (fun κ sz hk hR hN => ?_)
  refine g_aload_n hk dX12_isOf_0 rfl ?_
  refine g_iload_n hk dX12_isOf_1 rfl ?_
  refine g_callV hk (m134_X12_isQuery l D zt g r a1) (SP.same _) (fun _ h => h) gX12_isOf_X12_isQuery rfl rfl rfl (by decide +kernel) ⟨Nat.le_of_ble_eq_true rfl, Nat.le_of_ble_eq_true rfl⟩ 0 rfl rfl rfl rfl (Nat.le_of_ble_eq_true rfl) ⟨Nat.le_of_ble_eq_true rfl, Nat.le_of_ble_eq_true rfl⟩ dX12_isOf_2 (fun v ty' w' hp hk' => ?_)
  obtain ⟨rfl, rfl⟩ := hp
  show GW κ 3 0 0 (wM r g iM1 aM1 lM1) 5 [(0, .ref (r 0)), (1, .int a1), (2, .int a2)] [.int 0]
  refine g_if_eq (tgt := 25) (a := 0) hk dX12_isOf_5 (by decide) rfl (fun _ => ?_) (fun z9 => absurd (show 0 = 0 from by decide) z9)
  refine g_iconst (v := 0) hk dX12_isOf_25 (by decide) ?_
  exact g_iret hk hR rfl ⟨rfl, rfl⟩ dX12_isOf_26
set_option maxHeartbeats 4000000 in
set_option maxRecDepth 100000 in
theorem m169_X12_distance (l : Launch) (D : va_G) (zt : Nat × Nat × Nat) (g : Nat → ClassId) (r : Nat → Nat) (a1 : Int32) (a2 : Int32) : GM l D zt (tyM g) yX12_distance wsX12_distance ({ frames := 3, cells := 0, slots := 0, locals := 65 } : Room) [.ref (r 0), .int a1, .int a2] (wM r g iM1 aM1 lM1) (fun v _ w' => v = some (.int (-1)) ∧ w' = wM r g iM1 aM1 lM1) 0 0 := by
  refine GM.of (cc := cX12_distance) (maxL := 3) (ret := (some .int)) (own := RX12) (lv := [(0, .ref (r 0)), (1, .int a1), (2, .int a2)]) (by decide) rfl rfl (Nat.le_of_ble_eq_true rfl) rfl (fun κ sz hk hR hN => ?_)
  refine g_aload_n hk dX12_distance_0 rfl ?_
  refine g_iload_n hk dX12_distance_1 rfl ?_
  refine g_iload_n hk dX12_distance_2 rfl ?_
  refine g_callV hk (m168_X12_isOf l D zt g r a1 a2) (SP.same _) (fun _ h => h) gX12_distance_X12_isOf rfl rfl rfl (by decide +kernel) ⟨Nat.le_of_ble_eq_true rfl, Nat.le_of_ble_eq_true rfl⟩ 0 rfl rfl rfl rfl (Nat.le_of_ble_eq_true rfl) ⟨Nat.le_of_ble_eq_true rfl, Nat.le_of_ble_eq_true rfl⟩ dX12_distance_3 (fun v ty' w' hp hk' => ?_)
  obtain ⟨rfl, rfl⟩ := hp
  show GW κ 3 0 0 (wM r g iM1 aM1 lM1) 6 [(0, .ref (r 0)), (1, .int a1), (2, .int a2)] [.int 0]
  refine g_if_ne (tgt := 11) (a := 0) hk dX12_distance_6 (by decide) rfl (fun z9 => absurd z9 (show ¬ (0 ≠ 0) from by decide)) (fun _ => ?_)
  refine g_iconst (v := (-1)) hk dX12_distance_9 (by decide) ?_
  exact g_iret hk hR rfl ⟨rfl, rfl⟩ dX12_distance_10
set_option maxHeartbeats 4000000 in
set_option maxRecDepth 100000 in
theorem m170_X12_bound (l : Launch) (D : va_G) (zt : Nat × Nat × Nat) (g : Nat → ClassId) (r : Nat → Nat) (a1 : Int32) (a2 : Int32) (a3 : Int32) : GM l D zt (tyM g) yX12_bound wsX12_bound ({ frames := 3, cells := 0, slots := 0, locals := 65 } : Room) [.ref (r 0), .int a1, .int a2, .int a3] (wM r g iM1 aM1 lM1) (fun v _ w' => v = some (.int (-1)) ∧ w' = wM r g iM1 aM1 lM1) 0 0 := by
  refine GM.of (cc := cX12_bound) (maxL := 4) (ret := (some .int)) (own := RX12) (lv := [(0, .ref (r 0)), (1, .int a1), (2, .int a2), (3, .int a3)]) (by decide) rfl rfl (Nat.le_of_ble_eq_true rfl) rfl (fun κ sz hk hR hN => ?_)
  refine g_aload_n hk dX12_bound_0 rfl ?_
  refine g_iload_n hk dX12_bound_1 rfl ?_
  refine g_iload_n hk dX12_bound_2 rfl ?_
  refine g_callV hk (m168_X12_isOf l D zt g r a1 a2) (SP.same _) (fun _ h => h) gX12_bound_X12_isOf rfl rfl rfl (by decide +kernel) ⟨Nat.le_of_ble_eq_true rfl, Nat.le_of_ble_eq_true rfl⟩ 0 rfl rfl rfl rfl (Nat.le_of_ble_eq_true rfl) ⟨Nat.le_of_ble_eq_true rfl, Nat.le_of_ble_eq_true rfl⟩ dX12_bound_3 (fun v ty' w' hp hk' => ?_)
  obtain ⟨rfl, rfl⟩ := hp
  show GW κ 4 0 0 (wM r g iM1 aM1 lM1) 6 [(0, .ref (r 0)), (1, .int a1), (2, .int a2), (3, .int a3)] [.int 0]
  refine g_if_eq (tgt := 18) (a := 0) hk dX12_bound_6 (by decide) rfl (fun _ => ?_) (fun z9 => absurd (show 0 = 0 from by decide) z9)
  refine g_iconst (v := (-1)) hk dX12_bound_18 (by decide) ?_
  exact g_iret hk hR rfl ⟨rfl, rfl⟩ dX12_bound_19
set_option maxHeartbeats 4000000 in
set_option maxRecDepth 100000 in
theorem m171_X12_look (l : Launch) (D : va_G) (zt : Nat × Nat × Nat) (g : Nat → ClassId) (r : Nat → Nat) (a1 : Int32) (a2 : Int32) (a3 : Int32) (a4 : Int32) : GM l D zt (tyM g) yX12_look wsX12_look ({ frames := 3, cells := 0, slots := 0, locals := 65 } : Room) [.ref (r 0), .int a1, .int a2, .int a3, .int a4] (wM r g iM1 aM1 lM1) (fun v _ w' => v = some (.int (-1)) ∧ w' = wM r g iM1 aM1 lM1) 0 0 := by
  refine GM.of (cc := cX12_look) (maxL := 6) (ret := (some .int)) (own := RX12) (lv := [(0, .ref (r 0)), (1, .int a1), (2, .int a2), (3, .int a3), (4, .int a4)]) (by decide) rfl rfl (Nat.le_of_ble_eq_true rfl) rfl (fun κ sz hk hR hN => ?_)
  refine g_aload_n hk dX12_look_0 rfl ?_
  refine g_iload_n hk dX12_look_1 rfl ?_
  refine g_iload_n hk dX12_look_2 rfl ?_
  refine g_callV hk (m168_X12_isOf l D zt g r a1 a2) (SP.same _) (fun _ h => h) gX12_look_X12_isOf rfl rfl rfl (by decide +kernel) ⟨Nat.le_of_ble_eq_true rfl, Nat.le_of_ble_eq_true rfl⟩ 0 rfl rfl rfl rfl (Nat.le_of_ble_eq_true rfl) ⟨Nat.le_of_ble_eq_true rfl, Nat.le_of_ble_eq_true rfl⟩ dX12_look_3 (fun v ty' w' hp hk' => ?_)
  obtain ⟨rfl, rfl⟩ := hp
  show GW κ 6 0 0 (wM r g iM1 aM1 lM1) 6 [(0, .ref (r 0)), (1, .int a1), (2, .int a2), (3, .int a3), (4, .int a4)] [.int 0]
  refine g_if_eq (tgt := 23) (a := 0) hk dX12_look_6 (by decide) rfl (fun _ => ?_) (fun z9 => absurd (show 0 = 0 from by decide) z9)
  refine g_iconst (v := (-1)) hk dX12_look_23 (by decide) ?_
  exact g_iret hk hR rfl ⟨rfl, rfl⟩ dX12_look_24
set_option maxHeartbeats 4000000 in
set_option maxRecDepth 100000 in
theorem m172_X12_best (l : Launch) (D : va_G) (zt : Nat × Nat × Nat) (g : Nat → ClassId) (r : Nat → Nat) (a1 : Int32) (a2 : Int32) : GM l D zt (tyM g) yX12_best wsX12_best ({ frames := 2, cells := 0, slots := 0, locals := 43 } : Room) [.ref (r 0), .int a1, .int a2] (wM r g iM1 aM1 lM1) (fun v _ w' => v = some (.int (-1)) ∧ w' = wM r g iM1 aM1 lM1) 0 0 := by
  refine GM.of (cc := cX12_best) (maxL := 4) (ret := (some .int)) (own := RX12) (lv := [(0, .ref (r 0)), (1, .int a1), (2, .int a2)]) (by decide) rfl rfl (Nat.le_of_ble_eq_true rfl) rfl (fun κ sz hk hR hN => ?_)
  refine g_aload_n hk dX12_best_0 rfl ?_
  refine g_iload_n hk dX12_best_1 rfl ?_
  refine g_callV hk (m134_X12_isQuery l D zt g r a1) (SP.same _) (fun _ h => h) gX12_best_X12_isQuery rfl rfl rfl (by decide +kernel) ⟨Nat.le_of_ble_eq_true rfl, Nat.le_of_ble_eq_true rfl⟩ 0 rfl rfl rfl rfl (Nat.le_of_ble_eq_true rfl) ⟨Nat.le_of_ble_eq_true rfl, Nat.le_of_ble_eq_true rfl⟩ dX12_best_2 (fun v ty' w' hp hk' => ?_)
  obtain ⟨rfl, rfl⟩ := hp
  show GW κ 4 0 0 (wM r g iM1 aM1 lM1) 5 [(0, .ref (r 0)), (1, .int a1), (2, .int a2)] [.int 0]
  refine g_if_eq (tgt := 17) (a := 0) hk dX12_best_5 (by decide) rfl (fun _ => ?_) (fun z9 => absurd (show 0 = 0 from by decide) z9)
  refine g_iconst (v := (-1)) hk dX12_best_17 (by decide) ?_
  exact g_iret hk hR rfl ⟨rfl, rfl⟩ dX12_best_18
set_option maxHeartbeats 4000000 in
set_option maxRecDepth 100000 in
theorem m173_X12_search (l : Launch) (D : va_G) (zt : Nat × Nat × Nat) (g : Nat → ClassId) (r : Nat → Nat) (a1 : Int32) (a2 : Int32) : GM l D zt (tyM g) yX12_search wsX12_search ({ frames := 2, cells := 0, slots := 0, locals := 43 } : Room) [.ref (r 0), .int a1, .int a2] (wM r g iM1 aM1 lM1) (fun v _ w' => v = some (.int (-1)) ∧ w' = wM r g iM1 aM1 lM1) 0 0 := by
  refine GM.of (cc := cX12_search) (maxL := 3) (ret := (some .int)) (own := RX12) (lv := [(0, .ref (r 0)), (1, .int a1), (2, .int a2)]) (by decide) rfl rfl (Nat.le_of_ble_eq_true rfl) rfl (fun κ sz hk hR hN => ?_)
  refine g_aload_n hk dX12_search_0 rfl ?_
  refine g_iload_n hk dX12_search_1 rfl ?_
  refine g_callV hk (m134_X12_isQuery l D zt g r a1) (SP.same _) (fun _ h => h) gX12_search_X12_isQuery rfl rfl rfl (by decide +kernel) ⟨Nat.le_of_ble_eq_true rfl, Nat.le_of_ble_eq_true rfl⟩ 0 rfl rfl rfl rfl (Nat.le_of_ble_eq_true rfl) ⟨Nat.le_of_ble_eq_true rfl, Nat.le_of_ble_eq_true rfl⟩ dX12_search_2 (fun v ty' w' hp hk' => ?_)
  obtain ⟨rfl, rfl⟩ := hp
  show GW κ 3 0 0 (wM r g iM1 aM1 lM1) 5 [(0, .ref (r 0)), (1, .int a1), (2, .int a2)] [.int 0]
  refine g_if_eq (tgt := 18) (a := 0) hk dX12_search_5 (by decide) rfl (fun _ => ?_) (fun z9 => absurd (show 0 = 0 from by decide) z9)
  refine g_iconst (v := (-1)) hk dX12_search_18 (by decide) ?_
  exact g_iret hk hR rfl ⟨rfl, rfl⟩ dX12_search_19
set_option maxHeartbeats 4000000 in
set_option maxRecDepth 100000 in
theorem m174_X12_match (l : Launch) (D : va_G) (zt : Nat × Nat × Nat) (g : Nat → ClassId) (r : Nat → Nat) (a1 : Int32) (a2 : Int32) (a3 : Int32) : GM l D zt (tyM g) yX12_match wsX12_match ({ frames := 2, cells := 0, slots := 0, locals := 43 } : Room) [.ref (r 0), .int a1, .int a2, .int a3] (wM r g iM1 aM1 lM1) (fun v _ w' => v = some (.int (-1)) ∧ w' = wM r g iM1 aM1 lM1) 0 0 := by
  refine GM.of (cc := cX12_match) (maxL := 4) (ret := (some .int)) (own := RX12) (lv := [(0, .ref (r 0)), (1, .int a1), (2, .int a2), (3, .int a3)]) (by decide) rfl rfl (Nat.le_of_ble_eq_true rfl) rfl (fun κ sz hk hR hN => ?_)
  refine g_aload_n hk dX12_match_0 rfl ?_
  refine g_iload_n hk dX12_match_1 rfl ?_
  refine g_callV hk (m134_X12_isQuery l D zt g r a1) (SP.same _) (fun _ h => h) gX12_match_X12_isQuery rfl rfl rfl (by decide +kernel) ⟨Nat.le_of_ble_eq_true rfl, Nat.le_of_ble_eq_true rfl⟩ 0 rfl rfl rfl rfl (Nat.le_of_ble_eq_true rfl) ⟨Nat.le_of_ble_eq_true rfl, Nat.le_of_ble_eq_true rfl⟩ dX12_match_2 (fun v ty' w' hp hk' => ?_)
  obtain ⟨rfl, rfl⟩ := hp
  show GW κ 4 0 0 (wM r g iM1 aM1 lM1) 5 [(0, .ref (r 0)), (1, .int a1), (2, .int a2), (3, .int a3)] [.int 0]
  refine g_if_eq (tgt := 21) (a := 0) hk dX12_match_5 (by decide) rfl (fun _ => ?_) (fun z9 => absurd (show 0 = 0 from by decide) z9)
  refine g_iconst (v := (-1)) hk dX12_match_21 (by decide) ?_
  exact g_iret hk hR rfl ⟨rfl, rfl⟩ dX12_match_22
set_option maxHeartbeats 4000000 in
set_option maxRecDepth 100000 in
theorem m175_X12_within (l : Launch) (D : va_G) (zt : Nat × Nat × Nat) (g : Nat → ClassId) (r : Nat → Nat) (a1 : Int32) (a2 : Int32) : GM l D zt (tyM g) yX12_within wsX12_within ({ frames := 2, cells := 0, slots := 0, locals := 43 } : Room) [.ref (r 0), .int a1, .int a2] (wM r g iM1 aM1 lM1) (fun v _ w' => v = some (.int (-1)) ∧ w' = wM r g iM1 aM1 lM1) 0 0 := by
  refine GM.of (cc := cX12_within) (maxL := 5) (ret := (some .int)) (own := RX12) (lv := [(0, .ref (r 0)), (1, .int a1), (2, .int a2)]) (by decide) rfl rfl (Nat.le_of_ble_eq_true rfl) rfl (fun κ sz hk hR hN => ?_)
  refine g_aload_n hk dX12_within_0 rfl ?_
  refine g_iload_n hk dX12_within_1 rfl ?_
  refine g_callV hk (m134_X12_isQuery l D zt g r a1) (SP.same _) (fun _ h => h) gX12_within_X12_isQuery rfl rfl rfl (by decide +kernel) ⟨Nat.le_of_ble_eq_true rfl, Nat.le_of_ble_eq_true rfl⟩ 0 rfl rfl rfl rfl (Nat.le_of_ble_eq_true rfl) ⟨Nat.le_of_ble_eq_true rfl, Nat.le_of_ble_eq_true rfl⟩ dX12_within_2 (fun v ty' w' hp hk' => ?_)
  obtain ⟨rfl, rfl⟩ := hp
  show GW κ 5 0 0 (wM r g iM1 aM1 lM1) 5 [(0, .ref (r 0)), (1, .int a1), (2, .int a2)] [.int 0]
  refine g_if_eq (tgt := 12) (a := 0) hk dX12_within_5 (by decide) rfl (fun _ => ?_) (fun z9 => absurd (show 0 = 0 from by decide) z9)
  refine g_iconst (v := (-1)) hk dX12_within_12 (by decide) ?_
  exact g_iret hk hR rfl ⟨rfl, rfl⟩ dX12_within_13
set_option maxHeartbeats 4000000 in
set_option maxRecDepth 100000 in
theorem m176_X12_way (l : Launch) (D : va_G) (zt : Nat × Nat × Nat) (g : Nat → ClassId) (r : Nat → Nat) (a1 : Int32) (a2 : Int32) (a3 : Int32) : GM l D zt (tyM g) yX12_way wsX12_way ({ frames := 3, cells := 0, slots := 0, locals := 65 } : Room) [.ref (r 0), .int a1, .int a2, .int a3] (wM r g iM1 aM1 lM1) (fun v _ w' => v = some (.int (-1)) ∧ w' = wM r g iM1 aM1 lM1) 0 0 := by
  refine GM.of (cc := cX12_way) (maxL := 4) (ret := (some .int)) (own := RX12) (lv := [(0, .ref (r 0)), (1, .int a1), (2, .int a2), (3, .int a3)]) (by decide) rfl rfl (Nat.le_of_ble_eq_true rfl) rfl (fun κ sz hk hR hN => ?_)
  refine g_aload_n hk dX12_way_0 rfl ?_
  refine g_iload_n hk dX12_way_1 rfl ?_
  refine g_iload_n hk dX12_way_2 rfl ?_
  refine g_callV hk (m168_X12_isOf l D zt g r a1 a2) (SP.same _) (fun _ h => h) gX12_way_X12_isOf rfl rfl rfl (by decide +kernel) ⟨Nat.le_of_ble_eq_true rfl, Nat.le_of_ble_eq_true rfl⟩ 0 rfl rfl rfl rfl (Nat.le_of_ble_eq_true rfl) ⟨Nat.le_of_ble_eq_true rfl, Nat.le_of_ble_eq_true rfl⟩ dX12_way_3 (fun v ty' w' hp hk' => ?_)
  obtain ⟨rfl, rfl⟩ := hp
  show GW κ 4 0 0 (wM r g iM1 aM1 lM1) 6 [(0, .ref (r 0)), (1, .int a1), (2, .int a2), (3, .int a3)] [.int 0]
  refine g_if_eq (tgt := 14) (a := 0) hk dX12_way_6 (by decide) rfl (fun _ => ?_) (fun z9 => absurd (show 0 = 0 from by decide) z9)
  refine g_iconst (v := (-1)) hk dX12_way_14 (by decide) ?_
  exact g_iret hk hR rfl ⟨rfl, rfl⟩ dX12_way_15
