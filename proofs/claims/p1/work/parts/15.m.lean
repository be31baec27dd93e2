set_option maxHeartbeats 4000000 in
set_option maxRecDepth 100000 in
theorem m177_X12_needs (l : Launch) (D : va_G) (zt : Nat × Nat × Nat) (g : Nat → ClassId) (r : Nat → Nat) (a1 : Int32) (a2 : Int32) : GM l D zt (tyM g) yX12_needs wsX12_needs ({ frames := 3, cells := 0, slots := 0, locals := 65 } : Room) [.ref (r 0), .int a1, .int a2] (wM r g iM1 aM1 lM1) (fun v _ w' => v = some (.int (-1)) ∧ w' = wM r g iM1 aM1 lM1) 0 0 := by
  refine GM.of (cc := cX12_needs) (maxL := 6) (ret := (some .int)) (own := RX12) (lv := [(0, .ref (r 0)), (1, .int a1), (2, .int a2)]) (by decide) rfl rfl (Nat.le_of_ble_eq_true rfl) rfl (fun κ sz hk hR hN => ?_)
  refine g_aload_n hk dX12_needs_0 rfl ?_
  refine g_iload_n hk dX12_needs_1 rfl ?_
  refine g_iload_n hk dX12_needs_2 rfl ?_
  refine g_callV hk (m168_X12_isOf l D zt g r a1 a2) (SP.same _) (fun _ h => h) gX12_needs_X12_isOf rfl rfl rfl (by decide +kernel) ⟨Nat.le_of_ble_eq_true rfl, Nat.le_of_ble_eq_true rfl⟩ 0 rfl rfl rfl rfl (Nat.le_of_ble_eq_true rfl) ⟨Nat.le_of_ble_eq_true rfl, Nat.le_of_ble_eq_true rfl⟩ dX12_needs_3 (fun v ty' w' hp hk' => ?_)
  obtain ⟨rfl, rfl⟩ := hp
  show GW κ 6 0 0 (wM r g iM1 aM1 lM1) 6 [(0, .ref (r 0)), (1, .int a1), (2, .int a2)] [.int 0]
  refine g_if_ne (tgt := 11) (a := 0) hk dX12_needs_6 (by decide) rfl (fun z9 => absurd z9 (show ¬ (0 ≠ 0) from by decide)) (fun _ => ?_)
  refine g_iconst (v := (-1)) hk dX12_needs_9 (by decide) ?_
  exact g_iret hk hR rfl ⟨rfl, rfl⟩ dX12_needs_10
set_option maxHeartbeats 4000000 in
set_option maxRecDepth 100000 in
theorem m178_X12_alike (l : Launch) (D : va_G) (zt : Nat × Nat × Nat) (g : Nat → ClassId) (r : Nat → Nat) (a1 : Int32) (a2 : Int32) : GM l D zt (tyM g) yX12_alike wsX12_alike ({ frames := 2, cells := 0, slots := 0, locals := 43 } : Room) [.ref (r 0), .int a1, .int a2] (wM r g iM1 aM1 lM1) (fun v _ w' => v = some (.int (-1)) ∧ w' = wM r g iM1 aM1 lM1) 0 0 := by
  refine GM.of (cc := cX12_alike) (maxL := 3) (ret := (some .int)) (own := RX12) (lv := [(0, .ref (r 0)), (1, .int a1), (2, .int a2)]) (by decide) rfl rfl (Nat.le_of_ble_eq_true rfl) rfl (fun κ sz hk hR hN => ?_)
  refine g_aload_n hk dX12_alike_0 rfl ?_
  refine g_iload_n hk dX12_alike_1 rfl ?_
  refine g_callV hk (m134_X12_isQuery l D zt g r a1) (SP.same _) (fun _ h => h) gX12_alike_X12_isQuery rfl rfl rfl (by decide +kernel) ⟨Nat.le_of_ble_eq_true rfl, Nat.le_of_ble_eq_true rfl⟩ 0 rfl rfl rfl rfl (Nat.le_of_ble_eq_true rfl) ⟨Nat.le_of_ble_eq_true rfl, Nat.le_of_ble_eq_true rfl⟩ dX12_alike_2 (fun v ty' w' hp hk' => ?_)
  obtain ⟨rfl, rfl⟩ := hp
  show GW κ 3 0 0 (wM r g iM1 aM1 lM1) 5 [(0, .ref (r 0)), (1, .int a1), (2, .int a2)] [.int 0]
  refine g_if_eq (tgt := 16) (a := 0) hk dX12_alike_5 (by decide) rfl (fun _ => ?_) (fun z9 => absurd (show 0 = 0 from by decide) z9)
  refine g_iconst (v := (-1)) hk dX12_alike_16 (by decide) ?_
  exact g_iret hk hR rfl ⟨rfl, rfl⟩ dX12_alike_17
set_option maxHeartbeats 4000000 in
set_option maxRecDepth 100000 in
theorem m179_X12_near (l : Launch) (D : va_G) (zt : Nat × Nat × Nat) (g : Nat → ClassId) (r : Nat → Nat) (a1 : Int32) (a2 : Int32) (a3 : Int32) : GM l D zt (tyM g) yX12_near wsX12_near ({ frames := 1, cells := 0, slots := 0, locals := 23 } : Room) [.ref (r 0), .int a1, .int a2, .int a3] (wM r g iM1 aM1 lM1) (fun v _ w' => v = some (.int (-1)) ∧ w' = wM r g iM1 aM1 lM1) 0 0 := by
  refine GM.of (cc := cX12_near) (maxL := 5) (ret := (some .int)) (own := RX12) (lv := [(0, .ref (r 0)), (1, .int a1), (2, .int a2), (3, .int a3)]) (by decide) rfl rfl (Nat.le_of_ble_eq_true rfl) rfl (fun κ sz hk hR hN => ?_)
  refine g_iload_n hk dX12_near_0 rfl ?_
  refine g_iconst (v := 2) hk dX12_near_1 (by decide) ?_
  refine g_bipush (v := 16) hk dX12_near_2 (by decide) ?_
  refine g_callS hk (m165_X12_in l D zt g r a2) (SP.same _) (fun _ h => h) gX12_near_X12_in rfl rfl rfl (by decide +kernel) ⟨Nat.le_of_ble_eq_true rfl, Nat.le_of_ble_eq_true rfl⟩ rfl rfl (Nat.le_of_ble_eq_true rfl) ⟨Nat.le_of_ble_eq_true rfl, Nat.le_of_ble_eq_true rfl⟩ dX12_near_4 (fun v ty' w' hp hk' => ?_)
  rcases hp with ⟨c463, rfl, rfl⟩ | ⟨c464, c465, rfl, rfl⟩ | ⟨c466, c467, rfl, rfl⟩
  · show GW κ 5 0 0 (wM r g iM1 aM1 lM1) 7 [(0, .ref (r 0)), (1, .int a1), (2, .int a2), (3, .int a3)] [.int 0]
    refine g_if_eq (tgt := 28) (a := 0) hk dX12_near_7 (by decide) rfl (fun _ => ?_) (fun z9 => absurd (show 0 = 0 from by decide) z9)
    refine g_iconst (v := (-1)) hk dX12_near_28 (by decide) ?_
    exact g_iret hk hR rfl ⟨rfl, rfl⟩ dX12_near_29
  · show GW κ 5 0 0 (wM r g iM1 aM1 lM1) 7 [(0, .ref (r 0)), (1, .int a1), (2, .int a2), (3, .int a3)] [.int 0]
    refine g_if_eq (tgt := 28) (a := 0) hk dX12_near_7 (by decide) rfl (fun _ => ?_) (fun z9 => absurd (show 0 = 0 from by decide) z9)
    refine g_iconst (v := (-1)) hk dX12_near_28 (by decide) ?_
    exact g_iret hk hR rfl ⟨rfl, rfl⟩ dX12_near_29
  · show GW κ 5 0 0 (wM r g iM1 aM1 lM1) 7 [(0, .ref (r 0)), (1, .int a1), (2, .int a2), (3, .int a3)] [.int 1]
    refine g_if_eq (tgt := 28) (a := 1) hk dX12_near_7 (by decide) rfl (fun z9 => absurd z9 (show ¬ (1 = 0) from by decide)) (fun _ => ?_)
    refine g_aload_n hk dX12_near_10 rfl ?_
    refine g_iload_n hk dX12_near_11 rfl ?_
    refine g_iload_n hk dX12_near_12 rfl ?_
    refine g_callV hk (m166_X12_isWindow l D zt g r a1 a2 (by omega) (by omega)) (SP.same _) (fun _ h => h) gX12_near_X12_isWindow rfl rfl rfl (by decide +kernel) ⟨Nat.le_of_ble_eq_true rfl, Nat.le_of_ble_eq_true rfl⟩ 0 rfl rfl rfl rfl (Nat.le_of_ble_eq_true rfl) ⟨Nat.le_of_ble_eq_true rfl, Nat.le_of_ble_eq_true rfl⟩ dX12_near_13 (fun v ty' w' hp hk' => ?_)
    obtain ⟨rfl, rfl⟩ := hp
    show GW κ 5 0 0 (wM r g iM1 aM1 lM1) 16 [(0, .ref (r 0)), (1, .int a1), (2, .int a2), (3, .int a3)] [.int 0]
    refine g_if_eq (tgt := 28) (a := 0) hk dX12_near_16 (by decide) rfl (fun _ => ?_) (fun z9 => absurd (show 0 = 0 from by decide) z9)
    refine g_iconst (v := (-1)) hk dX12_near_28 (by decide) ?_
    exact g_iret hk hR rfl ⟨rfl, rfl⟩ dX12_near_29
set_option maxHeartbeats 4000000 in
set_option maxRecDepth 100000 in
theorem m180_X12_in (l : Launch) (D : va_G) (zt : Nat × Nat × Nat) (g : Nat → ClassId) (r : Nat → Nat) (a0 : Int32) : GM l D zt (tyM g) yX12_in wsX12_in ({ frames := 0, cells := 0, slots := 0, locals := 0 } : Room) [.int a0, .int 0, .int 2] (wM r g iM1 aM1 lM1) (fun v _ w' => ((a0.toInt < 0) ∧ v = some (.int 0) ∧ w' = wM r g iM1 aM1 lM1) ∨ ((¬ (a0.toInt < 0)) ∧ (2 < a0.toInt) ∧ v = some (.int 0) ∧ w' = wM r g iM1 aM1 lM1) ∨ ((¬ (a0.toInt < 0)) ∧ (¬ (2 < a0.toInt)) ∧ v = some (.int 1) ∧ w' = wM r g iM1 aM1 lM1)) 0 0 := by
  refine GM.of (cc := cX12_in) (maxL := 3) (ret := (some .boolean)) (own := RX12) (lv := [(0, .int a0), (1, .int 0), (2, .int 2)]) (by decide) rfl rfl (Nat.le_of_ble_eq_true rfl) rfl (fun κ sz hk hR hN => ?_)
  refine g_iload_n hk dX12_in_0 rfl ?_
  refine g_iload_n hk dX12_in_1 rfl ?_
  refine g_icmp_lt (tgt := 14) (a := a0.toInt) (b := 0) hk dX12_in_2 (by decide) rfl rfl (fun c473 => ?_) (fun c473 => ?_)
  · skip
    refine g_iconst (v := 0) hk dX12_in_14 (by decide) ?_
    exact g_iret hk hR rfl (Or.inl ⟨c473, rfl, rfl⟩) dX12_in_15
  · skip
    refine g_iload_n hk dX12_in_5 rfl ?_
    refine g_iload_n hk dX12_in_6 rfl ?_
    refine g_icmp_gt (tgt := 14) (a := a0.toInt) (b := 2) hk dX12_in_7 (by decide) rfl rfl (fun c474 => ?_) (fun c474 => ?_)
    · skip
      refine g_iconst (v := 0) hk dX12_in_14 (by decide) ?_
      exact g_iret hk hR rfl (Or.inr (Or.inl ⟨c473, c474, rfl, rfl⟩)) dX12_in_15
    · skip
      refine g_iconst (v := 1) hk dX12_in_10 (by decide) ?_
      refine g_goto (tgt := 15) hk dX12_in_11 (by decide) ?_
      exact g_iret hk hR rfl (Or.inr (Or.inr (⟨c473, c474, rfl, rfl⟩))) dX12_in_15
set_option maxHeartbeats 4000000 in
set_option maxRecDepth 100000 in
theorem m181_X12_pair (l : Launch) (D : va_G) (zt : Nat × Nat × Nat) (g : Nat → ClassId) (r : Nat → Nat) (a1 : Int32) (a2 : Int32) : GM l D zt (tyM g) yX12_pair wsX12_pair ({ frames := 1, cells := 0, slots := 0, locals := 22 } : Room) [.ref (r 0), .int a1, .int a2] (wM r g iM1 aM1 lM1) (fun v _ w' => ((a1.toInt < 2) ∧ v = some (.int (-1)) ∧ w' = wM r g iM1 aM1 lM1) ∨ ((¬ (a1.toInt < 2)) ∧ (16 < a1.toInt) ∧ v = some (.int (-1)) ∧ w' = wM r g iM1 aM1 lM1) ∨ ((¬ (a1.toInt < 2)) ∧ (¬ (16 < a1.toInt)) ∧ (a2.toInt < 0) ∧ v = some (.int (-1)) ∧ w' = wM r g iM1 aM1 lM1) ∨ ((¬ (a1.toInt < 2)) ∧ (¬ (16 < a1.toInt)) ∧ (¬ (a2.toInt < 0)) ∧ (2 < a2.toInt) ∧ v = some (.int (-1)) ∧ w' = wM r g iM1 aM1 lM1) ∨ ((¬ (a1.toInt < 2)) ∧ (¬ (16 < a1.toInt)) ∧ (¬ (a2.toInt < 0)) ∧ (¬ (2 < a2.toInt)) ∧ (a2.toInt ≠ 0) ∧ (a2.toInt ≠ 1) ∧ v = some (.int (-2)) ∧ w' = wM r g iM1 (up2 aM1 18 (cp (aM1 17) (aM1 18) 165)) lM1) ∨ ((¬ (a1.toInt < 2)) ∧ (¬ (16 < a1.toInt)) ∧ (¬ (a2.toInt < 0)) ∧ (¬ (2 < a2.toInt)) ∧ (a2.toInt ≠ 0) ∧ (¬ (a2.toInt ≠ 1)) ∧ v = some (.int (-2)) ∧ w' = wM r g iM1 (up2 aM1 18 (cp (aM1 17) (aM1 18) 165)) lM1) ∨ ((¬ (a1.toInt < 2)) ∧ (¬ (16 < a1.toInt)) ∧ (¬ (a2.toInt < 0)) ∧ (¬ (2 < a2.toInt)) ∧ (¬ (a2.toInt ≠ 0)) ∧ v = some (.int (-2)) ∧ w' = wM r g iM1 (up2 aM1 18 (cp (aM1 17) (aM1 18) 165)) lM1)) 0 0 := by
  refine GM.of (cc := cX12_pair) (maxL := 9) (ret := (some .int)) (own := RX12) (lv := [(0, .ref (r 0)), (1, .int a1), (2, .int a2)]) (by decide) rfl rfl (Nat.le_of_ble_eq_true rfl) rfl (fun κ sz hk hR hN => ?_)
  have hin12 : ∀ w ∈ u_ws RX12 TX12 55, w ∈ wsX12_pair := by decide +kernel
  refine g_iload_n hk dX12_pair_0 rfl ?_
  refine g_iconst (v := 2) hk dX12_pair_1 (by decide) ?_
  refine g_bipush (v := 16) hk dX12_pair_2 (by decide) ?_
  refine g_callS hk (m165_X12_in l D zt g r a1) (SP.same _) (fun _ h => h) gX12_pair_X12_in rfl rfl rfl (by decide +kernel) ⟨Nat.le_of_ble_eq_true rfl, Nat.le_of_ble_eq_true rfl⟩ rfl rfl (Nat.le_of_ble_eq_true rfl) ⟨Nat.le_of_ble_eq_true rfl, Nat.le_of_ble_eq_true rfl⟩ dX12_pair_4 (fun v ty' w' hp hk' => ?_)
  rcases hp with ⟨c468, rfl, rfl⟩ | ⟨c469, c470, rfl, rfl⟩ | ⟨c471, c472, rfl, rfl⟩
  · show GW κ 9 0 0 (wM r g iM1 aM1 lM1) 7 [(0, .ref (r 0)), (1, .int a1), (2, .int a2)] [.int 0]
    refine g_if_eq (tgt := 19) (a := 0) hk dX12_pair_7 (by decide) rfl (fun _ => ?_) (fun z9 => absurd (show 0 = 0 from by decide) z9)
    refine g_iconst (v := (-1)) hk dX12_pair_19 (by decide) ?_
    exact g_iret hk hR rfl (Or.inl ⟨c468, rfl, rfl⟩) dX12_pair_20
  · show GW κ 9 0 0 (wM r g iM1 aM1 lM1) 7 [(0, .ref (r 0)), (1, .int a1), (2, .int a2)] [.int 0]
    refine g_if_eq (tgt := 19) (a := 0) hk dX12_pair_7 (by decide) rfl (fun _ => ?_) (fun z9 => absurd (show 0 = 0 from by decide) z9)
    refine g_iconst (v := (-1)) hk dX12_pair_19 (by decide) ?_
    exact g_iret hk hR rfl (Or.inr (Or.inl ⟨c469, c470, rfl, rfl⟩)) dX12_pair_20
  · show GW κ 9 0 0 (wM r g iM1 aM1 lM1) 7 [(0, .ref (r 0)), (1, .int a1), (2, .int a2)] [.int 1]
    refine g_if_eq (tgt := 19) (a := 1) hk dX12_pair_7 (by decide) rfl (fun z9 => absurd z9 (show ¬ (1 = 0) from by decide)) (fun _ => ?_)
    refine g_iload_n hk dX12_pair_10 rfl ?_
    refine g_iconst (v := 0) hk dX12_pair_11 (by decide) ?_
    refine g_iconst (v := 2) hk dX12_pair_12 (by decide) ?_
    refine g_callS hk (m180_X12_in l D zt g r a2) (SP.same _) (fun _ h => h) gX12_pair_X12_in rfl rfl rfl (by decide +kernel) ⟨Nat.le_of_ble_eq_true rfl, Nat.le_of_ble_eq_true rfl⟩ rfl rfl (Nat.le_of_ble_eq_true rfl) ⟨Nat.le_of_ble_eq_true rfl, Nat.le_of_ble_eq_true rfl⟩ dX12_pair_13 (fun v ty' w' hp hk' => ?_)
    rcases hp with ⟨c475, rfl, rfl⟩ | ⟨c476, c477, rfl, rfl⟩ | ⟨c478, c479, rfl, rfl⟩
    · show GW κ 9 0 0 (wM r g iM1 aM1 lM1) 16 [(0, .ref (r 0)), (1, .int a1), (2, .int a2)] [.int 0]
      refine g_if_ne (tgt := 21) (a := 0) hk dX12_pair_16 (by decide) rfl (fun z9 => absurd z9 (show ¬ (0 ≠ 0) from by decide)) (fun _ => ?_)
      refine g_iconst (v := (-1)) hk dX12_pair_19 (by decide) ?_
      exact g_iret hk hR rfl (Or.inr (Or.inr (Or.inl ⟨c471, c472, c475, rfl, rfl⟩))) dX12_pair_20
    · show GW κ 9 0 0 (wM r g iM1 aM1 lM1) 16 [(0, .ref (r 0)), (1, .int a1), (2, .int a2)] [.int 0]
      refine g_if_ne (tgt := 21) (a := 0) hk dX12_pair_16 (by decide) rfl (fun z9 => absurd z9 (show ¬ (0 ≠ 0) from by decide)) (fun _ => ?_)
      refine g_iconst (v := (-1)) hk dX12_pair_19 (by decide) ?_
      exact g_iret hk hR rfl (Or.inr (Or.inr (Or.inr (Or.inl ⟨c471, c472, c476, c477, rfl, rfl⟩)))) dX12_pair_20
    · show GW κ 9 0 0 (wM r g iM1 aM1 lM1) 16 [(0, .ref (r 0)), (1, .int a1), (2, .int a2)] [.int 1]
      refine g_if_ne (tgt := 21) (a := 1) hk dX12_pair_16 (by decide) rfl (fun _ => ?_) (fun z9 => absurd (show 1 ≠ 0 from by decide) z9)
      refine g_aload_n hk dX12_pair_21 rfl ?_
      refine g_callV hk (m137_X12_copies l D zt g r) (SP.same _) (fun _ h => h) gX12_pair_X12_copies rfl rfl rfl (by decide +kernel) ⟨Nat.le_of_ble_eq_true rfl, Nat.le_of_ble_eq_true rfl⟩ 0 rfl rfl rfl rfl (Nat.le_of_ble_eq_true rfl) ⟨Nat.le_of_ble_eq_true rfl, Nat.le_of_ble_eq_true rfl⟩ dX12_pair_22 (fun v ty' w' hp hk' => ?_)
      obtain ⟨rfl, rfl⟩ := hp
      show GW κ 9 0 0 (wM r g iM1 (up2 aM1 18 (cp (aM1 17) (aM1 18) 165)) lM1) 25 [(0, .ref (r 0)), (1, .int a1), (2, .int a2)] []
      refine g_bipush (v := (-2)) hk dX12_pair_25 (by decide) ?_
      refine g_istore_n (lv' := [(3, .int (-2)), (0, .ref (r 0)), (1, .int a1), (2, .int a2)]) hk dX12_pair_27 (by decide) rfl ?_
      refine g_bipush (v := (-2)) hk dX12_pair_28 (by decide) ?_
      refine g_istore (lv' := [(4, .int (-2)), (3, .int (-2)), (0, .ref (r 0)), (1, .int a1), (2, .int a2)]) hk dX12_pair_30 (by decide) rfl ?_
      refine g_bipush (v := (-2)) hk dX12_pair_32 (by decide) ?_
      refine g_istore (lv' := [(5, .int (-2)), (4, .int (-2)), (3, .int (-2)), (0, .ref (r 0)), (1, .int a1), (2, .int a2)]) hk dX12_pair_34 (by decide) rfl ?_
      refine g_iconst (v := 0) hk dX12_pair_36 (by decide) ?_
      refine g_istore (lv' := [(6, .int 0), (5, .int (-2)), (4, .int (-2)), (3, .int (-2)), (0, .ref (r 0)), (1, .int a1), (2, .int a2)]) hk dX12_pair_37 (by decide) rfl ?_
      refine g_iload hk dX12_pair_39 rfl ?_
      refine g_aload_n hk dX12_pair_41 rfl ?_
      refine gM_r0_35 hk hin12 (by decide +kernel) dX12_pair_42 ?_
      refine g_iconst (v := 0) hk dX12_pair_45 (by decide) ?_
      refine lM_17 (v := 0) hk (vp_in_iff.mpr ⟨by decide, by decide⟩) rfl dX12_pair_46 ?_
      refine g_icmp_ge (tgt := 148) (a := 0) (b := 0) hk dX12_pair_47 (by decide) rfl rfl (fun _ => ?_) (fun z9 => absurd (show 0 ≤ 0 from by decide) z9)
      refine g_iload_n hk dX12_pair_148 rfl ?_
      refine g_if_ne (tgt := 156) (a := a2.toInt) hk dX12_pair_149 (by decide) rfl (fun c480 => ?_) (fun c480 => ?_)
      · skip
        refine g_iload_n hk dX12_pair_156 rfl ?_
        refine g_iconst (v := 1) hk dX12_pair_157 (by decide) ?_
        refine g_icmp_ne (tgt := 166) (a := a2.toInt) (b := 1) hk dX12_pair_158 (by decide) rfl rfl (fun c481 => ?_) (fun c481 => ?_)
        · skip
          refine g_iload hk dX12_pair_166 rfl ?_
          exact g_iret hk hR rfl (Or.inr (Or.inr (Or.inr (Or.inr (Or.inl ⟨c471, c472, c478, c479, c480, c481, rfl, rfl⟩))))) dX12_pair_168
        · skip
          refine g_iload hk dX12_pair_161 rfl ?_
          refine g_goto (tgt := 168) hk dX12_pair_163 (by decide) ?_
          exact g_iret hk hR rfl (Or.inr (Or.inr (Or.inr (Or.inr (Or.inr (Or.inl ⟨c471, c472, c478, c479, c480, c481, rfl, rfl⟩)))))) dX12_pair_168
      · skip
        refine g_iload_n hk dX12_pair_152 rfl ?_
        refine g_goto (tgt := 168) hk dX12_pair_153 (by decide) ?_
        exact g_iret hk hR rfl (Or.inr (Or.inr (Or.inr (Or.inr (Or.inr (Or.inr (⟨c471, c472, c478, c479, c480, rfl, rfl⟩))))))) dX12_pair_168
set_option maxHeartbeats 4000000 in
set_option maxRecDepth 100000 in
theorem m182_X12_odd (l : Launch) (D : va_G) (zt : Nat × Nat × Nat) (g : Nat → ClassId) (r : Nat → Nat) (a1 : Int32) (a2 : Int32) : GM l D zt (tyM g) yX12_odd wsX12_odd ({ frames := 1, cells := 0, slots := 0, locals := 22 } : Room) [.ref (r 0), .int a1, .int a2] (wM r g iM1 aM1 lM1) (fun v _ w' => ((a1.toInt < 2) ∧ v = some (.int (-1)) ∧ w' = wM r g iM1 aM1 lM1) ∨ ((¬ (a1.toInt < 2)) ∧ (16 < a1.toInt) ∧ v = some (.int (-1)) ∧ w' = wM r g iM1 aM1 lM1) ∨ ((¬ (a1.toInt < 2)) ∧ (¬ (16 < a1.toInt)) ∧ (a2.toInt < 0) ∧ v = some (.int (-1)) ∧ w' = wM r g iM1 aM1 lM1) ∨ ((¬ (a1.toInt < 2)) ∧ (¬ (16 < a1.toInt)) ∧ (¬ (a2.toInt < 0)) ∧ (1 < a2.toInt) ∧ v = some (.int (-1)) ∧ w' = wM r g iM1 aM1 lM1) ∨ ((¬ (a1.toInt < 2)) ∧ (¬ (16 < a1.toInt)) ∧ (¬ (a2.toInt < 0)) ∧ (¬ (1 < a2.toInt)) ∧ (a2.toInt ≠ 0) ∧ v = some (.int (-2)) ∧ w' = wM r g iM1 (up2 aM1 18 (cp (aM1 17) (aM1 18) 165)) lM1) ∨ ((¬ (a1.toInt < 2)) ∧ (¬ (16 < a1.toInt)) ∧ (¬ (a2.toInt < 0)) ∧ (¬ (1 < a2.toInt)) ∧ (¬ (a2.toInt ≠ 0)) ∧ v = some (.int (-2)) ∧ w' = wM r g iM1 (up2 aM1 18 (cp (aM1 17) (aM1 18) 165)) lM1)) 0 0 := by
  refine GM.of (cc := cX12_odd) (maxL := 6) (ret := (some .int)) (own := RX12) (lv := [(0, .ref (r 0)), (1, .int a1), (2, .int a2)]) (by decide) rfl rfl (Nat.le_of_ble_eq_true rfl) rfl (fun κ sz hk hR hN => ?_)
  have hin12 : ∀ w ∈ u_ws RX12 TX12 55, w ∈ wsX12_odd := by decide +kernel
  refine g_iload_n hk dX12_odd_0 rfl ?_
  refine g_iconst (v := 2) hk dX12_odd_1 (by decide) ?_
  refine g_bipush (v := 16) hk dX12_odd_2 (by decide) ?_
  refine g_callS hk (m165_X12_in l D zt g r a1) (SP.same _) (fun _ h => h) gX12_odd_X12_in rfl rfl rfl (by decide +kernel) ⟨Nat.le_of_ble_eq_true rfl, Nat.le_of_ble_eq_true rfl⟩ rfl rfl (Nat.le_of_ble_eq_true rfl) ⟨Nat.le_of_ble_eq_true rfl, Nat.le_of_ble_eq_true rfl⟩ dX12_odd_4 (fun v ty' w' hp hk' => ?_)
  rcases hp with ⟨c482, rfl, rfl⟩ | ⟨c483, c484, rfl, rfl⟩ | ⟨c485, c486, rfl, rfl⟩
  · show GW κ 6 0 0 (wM r g iM1 aM1 lM1) 7 [(0, .ref (r 0)), (1, .int a1), (2, .int a2)] [.int 0]
    refine g_if_eq (tgt := 19) (a := 0) hk dX12_odd_7 (by decide) rfl (fun _ => ?_) (fun z9 => absurd (show 0 = 0 from by decide) z9)
    refine g_iconst (v := (-1)) hk dX12_odd_19 (by decide) ?_
    exact g_iret hk hR rfl (Or.inl ⟨c482, rfl, rfl⟩) dX12_odd_20
  · show GW κ 6 0 0 (wM r g iM1 aM1 lM1) 7 [(0, .ref (r 0)), (1, .int a1), (2, .int a2)] [.int 0]
    refine g_if_eq (tgt := 19) (a := 0) hk dX12_odd_7 (by decide) rfl (fun _ => ?_) (fun z9 => absurd (show 0 = 0 from by decide) z9)
    refine g_iconst (v := (-1)) hk dX12_odd_19 (by decide) ?_
    exact g_iret hk hR rfl (Or.inr (Or.inl ⟨c483, c484, rfl, rfl⟩)) dX12_odd_20
  · show GW κ 6 0 0 (wM r g iM1 aM1 lM1) 7 [(0, .ref (r 0)), (1, .int a1), (2, .int a2)] [.int 1]
    refine g_if_eq (tgt := 19) (a := 1) hk dX12_odd_7 (by decide) rfl (fun z9 => absurd z9 (show ¬ (1 = 0) from by decide)) (fun _ => ?_)
    refine g_iload_n hk dX12_odd_10 rfl ?_
    refine g_iconst (v := 0) hk dX12_odd_11 (by decide) ?_
    refine g_iconst (v := 1) hk dX12_odd_12 (by decide) ?_
    refine g_callS hk (m155_X12_in l D zt g r a2) (SP.same _) (fun _ h => h) gX12_odd_X12_in rfl rfl rfl (by decide +kernel) ⟨Nat.le_of_ble_eq_true rfl, Nat.le_of_ble_eq_true rfl⟩ rfl rfl (Nat.le_of_ble_eq_true rfl) ⟨Nat.le_of_ble_eq_true rfl, Nat.le_of_ble_eq_true rfl⟩ dX12_odd_13 (fun v ty' w' hp hk' => ?_)
    rcases hp with ⟨c487, rfl, rfl⟩ | ⟨c488, c489, rfl, rfl⟩ | ⟨c490, c491, rfl, rfl⟩
    · show GW κ 6 0 0 (wM r g iM1 aM1 lM1) 16 [(0, .ref (r 0)), (1, .int a1), (2, .int a2)] [.int 0]
      refine g_if_ne (tgt := 21) (a := 0) hk dX12_odd_16 (by decide) rfl (fun z9 => absurd z9 (show ¬ (0 ≠ 0) from by decide)) (fun _ => ?_)
      refine g_iconst (v := (-1)) hk dX12_odd_19 (by decide) ?_
      exact g_iret hk hR rfl (Or.inr (Or.inr (Or.inl ⟨c485, c486, c487, rfl, rfl⟩))) dX12_odd_20
    · show GW κ 6 0 0 (wM r g iM1 aM1 lM1) 16 [(0, .ref (r 0)), (1, .int a1), (2, .int a2)] [.int 0]
      refine g_if_ne (tgt := 21) (a := 0) hk dX12_odd_16 (by decide) rfl (fun z9 => absurd z9 (show ¬ (0 ≠ 0) from by decide)) (fun _ => ?_)
      refine g_iconst (v := (-1)) hk dX12_odd_19 (by decide) ?_
      exact g_iret hk hR rfl (Or.inr (Or.inr (Or.inr (Or.inl ⟨c485, c486, c488, c489, rfl, rfl⟩)))) dX12_odd_20
    · show GW κ 6 0 0 (wM r g iM1 aM1 lM1) 16 [(0, .ref (r 0)), (1, .int a1), (2, .int a2)] [.int 1]
      refine g_if_ne (tgt := 21) (a := 1) hk dX12_odd_16 (by decide) rfl (fun _ => ?_) (fun z9 => absurd (show 1 ≠ 0 from by decide) z9)
      refine g_aload_n hk dX12_odd_21 rfl ?_
      refine g_callV hk (m137_X12_copies l D zt g r) (SP.same _) (fun _ h => h) gX12_odd_X12_copies rfl rfl rfl (by decide +kernel) ⟨Nat.le_of_ble_eq_true rfl, Nat.le_of_ble_eq_true rfl⟩ 0 rfl rfl rfl rfl (Nat.le_of_ble_eq_true rfl) ⟨Nat.le_of_ble_eq_true rfl, Nat.le_of_ble_eq_true rfl⟩ dX12_odd_22 (fun v ty' w' hp hk' => ?_)
      obtain ⟨rfl, rfl⟩ := hp
      show GW κ 6 0 0 (wM r g iM1 (up2 aM1 18 (cp (aM1 17) (aM1 18) 165)) lM1) 25 [(0, .ref (r 0)), (1, .int a1), (2, .int a2)] []
      refine g_bipush (v := (-2)) hk dX12_odd_25 (by decide) ?_
      refine g_istore_n (lv' := [(3, .int (-2)), (0, .ref (r 0)), (1, .int a1), (2, .int a2)]) hk dX12_odd_27 (by decide) rfl ?_
      refine g_bipush (v := (-2)) hk dX12_odd_28 (by decide) ?_
      refine g_istore (lv' := [(4, .int (-2)), (3, .int (-2)), (0, .ref (r 0)), (1, .int a1), (2, .int a2)]) hk dX12_odd_30 (by decide) rfl ?_
      refine g_iconst (v := 0) hk dX12_odd_32 (by decide) ?_
      refine g_istore (lv' := [(5, .int 0), (4, .int (-2)), (3, .int (-2)), (0, .ref (r 0)), (1, .int a1), (2, .int a2)]) hk dX12_odd_33 (by decide) rfl ?_
      refine g_iload hk dX12_odd_35 rfl ?_
      refine g_aload_n hk dX12_odd_37 rfl ?_
      refine gM_r0_35 hk hin12 (by decide +kernel) dX12_odd_38 ?_
      refine g_iconst (v := 0) hk dX12_odd_41 (by decide) ?_
      refine lM_17 (v := 0) hk (vp_in_iff.mpr ⟨by decide, by decide⟩) rfl dX12_odd_42 ?_
      refine g_icmp_ge (tgt := 93) (a := 0) (b := 0) hk dX12_odd_43 (by decide) rfl rfl (fun _ => ?_) (fun z9 => absurd (show 0 ≤ 0 from by decide) z9)
      refine g_iload_n hk dX12_odd_93 rfl ?_
      refine g_if_ne (tgt := 101) (a := a2.toInt) hk dX12_odd_94 (by decide) rfl (fun c492 => ?_) (fun c492 => ?_)
      · skip
        refine g_iload hk dX12_odd_101 rfl ?_
        exact g_iret hk hR rfl (Or.inr (Or.inr (Or.inr (Or.inr (Or.inl ⟨c485, c486, c490, c491, c492, rfl, rfl⟩))))) dX12_odd_103
      · skip
        refine g_iload_n hk dX12_odd_97 rfl ?_
        refine g_goto (tgt := 103) hk dX12_odd_98 (by decide) ?_
        exact g_iret hk hR rfl (Or.inr (Or.inr (Or.inr (Or.inr (Or.inr (⟨c485, c486, c490, c491, c492, rfl, rfl⟩)))))) dX12_odd_103
set_option maxHeartbeats 4000000 in
set_option maxRecDepth 100000 in
theorem m183_X12_cover (l : Launch) (D : va_G) (zt : Nat × Nat × Nat) (g : Nat → ClassId) (r : Nat → Nat) (a1 : Int32) (a2 : Int32) : GM l D zt (tyM g) yX12_cover wsX12_cover ({ frames := 2, cells := 0, slots := 0, locals := 43 } : Room) [.ref (r 0), .int a1, .int a2] (wM r g iM1 aM1 lM1) (fun v _ w' => v = some (.int (-1)) ∧ w' = wM r g iM1 aM1 lM1) 0 0 := by
  refine GM.of (cc := cX12_cover) (maxL := 7) (ret := (some .int)) (own := RX12) (lv := [(0, .ref (r 0)), (1, .int a1), (2, .int a2)]) (by decide) rfl rfl (Nat.le_of_ble_eq_true rfl) rfl (fun κ sz hk hR hN => ?_)
  refine g_aload_n hk dX12_cover_0 rfl ?_
  refine g_iload_n hk dX12_cover_1 rfl ?_
  refine g_callV hk (m134_X12_isQuery l D zt g r a1) (SP.same _) (fun _ h => h) gX12_cover_X12_isQuery rfl rfl rfl (by decide +kernel) ⟨Nat.le_of_ble_eq_true rfl, Nat.le_of_ble_eq_true rfl⟩ 0 rfl rfl rfl rfl (Nat.le_of_ble_eq_true rfl) ⟨Nat.le_of_ble_eq_true rfl, Nat.le_of_ble_eq_true rfl⟩ dX12_cover_2 (fun v ty' w' hp hk' => ?_)
  obtain ⟨rfl, rfl⟩ := hp
  show GW κ 7 0 0 (wM r g iM1 aM1 lM1) 5 [(0, .ref (r 0)), (1, .int a1), (2, .int a2)] [.int 0]
  refine g_if_eq (tgt := 12) (a := 0) hk dX12_cover_5 (by decide) rfl (fun _ => ?_) (fun z9 => absurd (show 0 = 0 from by decide) z9)
  refine g_iconst (v := (-1)) hk dX12_cover_12 (by decide) ?_
  exact g_iret hk hR rfl ⟨rfl, rfl⟩ dX12_cover_13
set_option maxHeartbeats 4000000 in
set_option maxRecDepth 100000 in
theorem m184_X12_lean (l : Launch) (D : va_G) (zt : Nat × Nat × Nat) (g : Nat → ClassId) (r : Nat → Nat) (a1 : Int32) (a2 : Int32) (a3 : Int32) : GM l D zt (tyM g) yX12_lean wsX12_lean ({ frames := 3, cells := 0, slots := 0, locals := 65 } : Room) [.ref (r 0), .int a1, .int a2, .int a3] (wM r g iM1 aM1 lM1) (fun v _ w' => v = some (.int (-1)) ∧ w' = wM r g iM1 aM1 lM1) 0 0 := by
  refine GM.of (cc := cX12_lean) (maxL := 8) (ret := (some .int)) (own := RX12) (lv := [(0, .ref (r 0)), (1, .int a1), (2, .int a2), (3, .int a3)]) (by decide) rfl rfl (Nat.le_of_ble_eq_true rfl) rfl (fun κ sz hk hR hN => ?_)
  refine g_aload_n hk dX12_lean_0 rfl ?_
  refine g_iload_n hk dX12_lean_1 rfl ?_
  refine g_iload_n hk dX12_lean_2 rfl ?_
  refine g_callV hk (m168_X12_isOf l D zt g r a1 a2) (SP.same _) (fun _ h => h) gX12_lean_X12_isOf rfl rfl rfl (by decide +kernel) ⟨Nat.le_of_ble_eq_true rfl, Nat.le_of_ble_eq_true rfl⟩ 0 rfl rfl rfl rfl (Nat.le_of_ble_eq_true rfl) ⟨Nat.le_of_ble_eq_true rfl, Nat.le_of_ble_eq_true rfl⟩ dX12_lean_3 (fun v ty' w' hp hk' => ?_)
  obtain ⟨rfl, rfl⟩ := hp
  show GW κ 8 0 0 (wM r g iM1 aM1 lM1) 6 [(0, .ref (r 0)), (1, .int a1), (2, .int a2), (3, .int a3)] [.int 0]
  refine g_if_eq (tgt := 18) (a := 0) hk dX12_lean_6 (by decide) rfl (fun _ => ?_) (fun z9 => absurd (show 0 = 0 from by decide) z9)
  refine g_iconst (v := (-1)) hk dX12_lean_18 (by decide) ?_
  exact g_iret hk hR rfl ⟨rfl, rfl⟩ dX12_lean_19
set_option maxHeartbeats 4000000 in
set_option maxRecDepth 100000 in
theorem m185_X12_whose (l : Launch) (D : va_G) (zt : Nat × Nat × Nat) (g : Nat → ClassId) (r : Nat → Nat) (a1 : Int32) (a2 : Int32) : GM l D zt (tyM g) yX12_whose wsX12_whose ({ frames := 1, cells := 0, slots := 0, locals := 23 } : Room) [.ref (r 0), .int a1, .int a2] (wM r g iM1 aM1 lM1) (fun v _ w' => v = some (.int (-1)) ∧ w' = wM r g iM1 aM1 lM1) 0 0 := by
  refine GM.of (cc := cX12_whose) (maxL := 7) (ret := (some .int)) (own := RX12) (lv := [(0, .ref (r 0)), (1, .int a1), (2, .int a2)]) (by decide) rfl rfl (Nat.le_of_ble_eq_true rfl) rfl (fun κ sz hk hR hN => ?_)
  refine g_iload_n hk dX12_whose_0 rfl ?_
  refine g_iconst (v := 2) hk dX12_whose_1 (by decide) ?_
  refine g_bipush (v := 16) hk dX12_whose_2 (by decide) ?_
  refine g_callS hk (m165_X12_in l D zt g r a2) (SP.same _) (fun _ h => h) gX12_whose_X12_in rfl rfl rfl (by decide +kernel) ⟨Nat.le_of_ble_eq_true rfl, Nat.le_of_ble_eq_true rfl⟩ rfl rfl (Nat.le_of_ble_eq_true rfl) ⟨Nat.le_of_ble_eq_true rfl, Nat.le_of_ble_eq_true rfl⟩ dX12_whose_4 (fun v ty' w' hp hk' => ?_)
  rcases hp with ⟨c493, rfl, rfl⟩ | ⟨c494, c495, rfl, rfl⟩ | ⟨c496, c497, rfl, rfl⟩
  · show GW κ 7 0 0 (wM r g iM1 aM1 lM1) 7 [(0, .ref (r 0)), (1, .int a1), (2, .int a2)] [.int 0]
    refine g_if_eq (tgt := 19) (a := 0) hk dX12_whose_7 (by decide) rfl (fun _ => ?_) (fun z9 => absurd (show 0 = 0 from by decide) z9)
    refine g_iconst (v := (-1)) hk dX12_whose_19 (by decide) ?_
    exact g_iret hk hR rfl ⟨rfl, rfl⟩ dX12_whose_20
  · show GW κ 7 0 0 (wM r g iM1 aM1 lM1) 7 [(0, .ref (r 0)), (1, .int a1), (2, .int a2)] [.int 0]
    refine g_if_eq (tgt := 19) (a := 0) hk dX12_whose_7 (by decide) rfl (fun _ => ?_) (fun z9 => absurd (show 0 = 0 from by decide) z9)
    refine g_iconst (v := (-1)) hk dX12_whose_19 (by decide) ?_
    exact g_iret hk hR rfl ⟨rfl, rfl⟩ dX12_whose_20
  · show GW κ 7 0 0 (wM r g iM1 aM1 lM1) 7 [(0, .ref (r 0)), (1, .int a1), (2, .int a2)] [.int 1]
    refine g_if_eq (tgt := 19) (a := 1) hk dX12_whose_7 (by decide) rfl (fun z9 => absurd z9 (show ¬ (1 = 0) from by decide)) (fun _ => ?_)
    refine g_aload_n hk dX12_whose_10 rfl ?_
    refine g_iload_n hk dX12_whose_11 rfl ?_
    refine g_iload_n hk dX12_whose_12 rfl ?_
    refine g_callV hk (m166_X12_isWindow l D zt g r a1 a2 (by omega) (by omega)) (SP.same _) (fun _ h => h) gX12_whose_X12_isWindow rfl rfl rfl (by decide +kernel) ⟨Nat.le_of_ble_eq_true rfl, Nat.le_of_ble_eq_true rfl⟩ 0 rfl rfl rfl rfl (Nat.le_of_ble_eq_true rfl) ⟨Nat.le_of_ble_eq_true rfl, Nat.le_of_ble_eq_true rfl⟩ dX12_whose_13 (fun v ty' w' hp hk' => ?_)
    obtain ⟨rfl, rfl⟩ := hp
    show GW κ 7 0 0 (wM r g iM1 aM1 lM1) 16 [(0, .ref (r 0)), (1, .int a1), (2, .int a2)] [.int 0]
    refine g_if_ne (tgt := 21) (a := 0) hk dX12_whose_16 (by decide) rfl (fun z9 => absurd z9 (show ¬ (0 ≠ 0) from by decide)) (fun _ => ?_)
    refine g_iconst (v := (-1)) hk dX12_whose_19 (by decide) ?_
    exact g_iret hk hR rfl ⟨rfl, rfl⟩ dX12_whose_20
set_option maxHeartbeats 4000000 in
set_option maxRecDepth 100000 in
theorem m186_X12_rank (l : Launch) (D : va_G) (zt : Nat × Nat × Nat) (g : Nat → ClassId) (r : Nat → Nat) (a1 : Int32) (a2 : Int32) : GM l D zt (tyM g) yX12_rank wsX12_rank ({ frames := 3, cells := 0, slots := 0, locals := 65 } : Room) [.ref (r 0), .int a1, .int a2] (wM r g iM1 aM1 lM1) (fun v _ w' => v = some (.int (-1)) ∧ w' = wM r g iM1 aM1 lM1) 0 0 := by
  refine GM.of (cc := cX12_rank) (maxL := 3) (ret := (some .int)) (own := RX12) (lv := [(0, .ref (r 0)), (1, .int a1), (2, .int a2)]) (by decide) rfl rfl (Nat.le_of_ble_eq_true rfl) rfl (fun κ sz hk hR hN => ?_)
  refine g_aload_n hk dX12_rank_0 rfl ?_
  refine g_iload_n hk dX12_rank_1 rfl ?_
  refine g_iload_n hk dX12_rank_2 rfl ?_
  refine g_callV hk (m168_X12_isOf l D zt g r a1 a2) (SP.same _) (fun _ h => h) gX12_rank_X12_isOf rfl rfl rfl (by decide +kernel) ⟨Nat.le_of_ble_eq_true rfl, Nat.le_of_ble_eq_true rfl⟩ 0 rfl rfl rfl rfl (Nat.le_of_ble_eq_true rfl) ⟨Nat.le_of_ble_eq_true rfl, Nat.le_of_ble_eq_true rfl⟩ dX12_rank_3 (fun v ty' w' hp hk' => ?_)
  obtain ⟨rfl, rfl⟩ := hp
  show GW κ 3 0 0 (wM r g iM1 aM1 lM1) 6 [(0, .ref (r 0)), (1, .int a1), (2, .int a2)] [.int 0]
  refine g_if_ne (tgt := 11) (a := 0) hk dX12_rank_6 (by decide) rfl (fun z9 => absurd z9 (show ¬ (0 ≠ 0) from by decide)) (fun _ => ?_)
  refine g_iconst (v := (-1)) hk dX12_rank_9 (by decide) ?_
  exact g_iret hk hR rfl ⟨rfl, rfl⟩ dX12_rank_10
set_option maxHeartbeats 4000000 in
set_option maxRecDepth 100000 in
theorem m187_X12_kth (l : Launch) (D : va_G) (zt : Nat × Nat × Nat) (g : Nat → ClassId) (r : Nat → Nat) (a1 : Int32) (a2 : Int32) (a3 : Int32) : GM l D zt (tyM g) yX12_kth wsX12_kth ({ frames := 2, cells := 0, slots := 0, locals := 43 } : Room) [.ref (r 0), .int a1, .int a2, .int a3] (wM r g iM1 aM1 lM1) (fun v _ w' => v = some (.int (-1)) ∧ w' = wM r g iM1 aM1 lM1) 0 0 := by
  refine GM.of (cc := cX12_kth) (maxL := 5) (ret := (some .int)) (own := RX12) (lv := [(0, .ref (r 0)), (1, .int a1), (2, .int a2), (3, .int a3)]) (by decide) rfl rfl (Nat.le_of_ble_eq_true rfl) rfl (fun κ sz hk hR hN => ?_)
  refine g_aload_n hk dX12_kth_0 rfl ?_
  refine g_iload_n hk dX12_kth_1 rfl ?_
  refine g_callV hk (m134_X12_isQuery l D zt g r a1) (SP.same _) (fun _ h => h) gX12_kth_X12_isQuery rfl rfl rfl (by decide +kernel) ⟨Nat.le_of_ble_eq_true rfl, Nat.le_of_ble_eq_true rfl⟩ 0 rfl rfl rfl rfl (Nat.le_of_ble_eq_true rfl) ⟨Nat.le_of_ble_eq_true rfl, Nat.le_of_ble_eq_true rfl⟩ dX12_kth_2 (fun v ty' w' hp hk' => ?_)
  obtain ⟨rfl, rfl⟩ := hp
  show GW κ 5 0 0 (wM r g iM1 aM1 lM1) 5 [(0, .ref (r 0)), (1, .int a1), (2, .int a2), (3, .int a3)] [.int 0]
  refine g_if_eq (tgt := 21) (a := 0) hk dX12_kth_5 (by decide) rfl (fun _ => ?_) (fun z9 => absurd (show 0 = 0 from by decide) z9)
  refine g_iconst (v := (-1)) hk dX12_kth_21 (by decide) ?_
  exact g_iret hk hR rfl ⟨rfl, rfl⟩ dX12_kth_22
set_option maxHeartbeats 4000000 in
set_option maxRecDepth 100000 in
theorem m188_X12_slack (l : Launch) (D : va_G) (zt : Nat × Nat × Nat) (g : Nat → ClassId) (r : Nat → Nat) (a1 : Int32) : GM l D zt (tyM g) yX12_slack wsX12_slack ({ frames := 2, cells := 0, slots := 0, locals := 43 } : Room) [.ref (r 0), .int a1] (wM r g iM1 aM1 lM1) (fun v _ w' => v = some (.int (-1)) ∧ w' = wM r g iM1 aM1 lM1) 0 0 := by
  refine GM.of (cc := cX12_slack) (maxL := 5) (ret := (some .int)) (own := RX12) (lv := [(0, .ref (r 0)), (1, .int a1)]) (by decide) rfl rfl (Nat.le_of_ble_eq_true rfl) rfl (fun κ sz hk hR hN => ?_)
  refine g_aload_n hk dX12_slack_0 rfl ?_
  refine g_iload_n hk dX12_slack_1 rfl ?_
  refine g_callV hk (m134_X12_isQuery l D zt g r a1) (SP.same _) (fun _ h => h) gX12_slack_X12_isQuery rfl rfl rfl (by decide +kernel) ⟨Nat.le_of_ble_eq_true rfl, Nat.le_of_ble_eq_true rfl⟩ 0 rfl rfl rfl rfl (Nat.le_of_ble_eq_true rfl) ⟨Nat.le_of_ble_eq_true rfl, Nat.le_of_ble_eq_true rfl⟩ dX12_slack_2 (fun v ty' w' hp hk' => ?_)
  obtain ⟨rfl, rfl⟩ := hp
  show GW κ 5 0 0 (wM r g iM1 aM1 lM1) 5 [(0, .ref (r 0)), (1, .int a1)] [.int 0]
  refine g_if_ne (tgt := 10) (a := 0) hk dX12_slack_5 (by decide) rfl (fun z9 => absurd z9 (show ¬ (0 ≠ 0) from by decide)) (fun _ => ?_)
  refine g_iconst (v := (-1)) hk dX12_slack_8 (by decide) ?_
  exact g_iret hk hR rfl ⟨rfl, rfl⟩ dX12_slack_9
set_option maxHeartbeats 4000000 in
set_option maxRecDepth 100000 in
theorem m189_X12_turns (l : Launch) (D : va_G) (zt : Nat × Nat × Nat) (g : Nat → ClassId) (r : Nat → Nat) (a1 : Int32) : GM l D zt (tyM g) yX12_turns wsX12_turns ({ frames := 2, cells := 0, slots := 0, locals := 43 } : Room) [.ref (r 0), .int a1] (wM r g iM1 aM1 lM1) (fun v _ w' => v = some (.int (-1)) ∧ w' = wM r g iM1 aM1 lM1) 0 0 := by
  refine GM.of (cc := cX12_turns) (maxL := 6) (ret := (some .int)) (own := RX12) (lv := [(0, .ref (r 0)), (1, .int a1)]) (by decide) rfl rfl (Nat.le_of_ble_eq_true rfl) rfl (fun κ sz hk hR hN => ?_)
  refine g_aload_n hk dX12_turns_0 rfl ?_
  refine g_iload_n hk dX12_turns_1 rfl ?_
  refine g_callV hk (m134_X12_isQuery l D zt g r a1) (SP.same _) (fun _ h => h) gX12_turns_X12_isQuery rfl rfl rfl (by decide +kernel) ⟨Nat.le_of_ble_eq_true rfl, Nat.le_of_ble_eq_true rfl⟩ 0 rfl rfl rfl rfl (Nat.le_of_ble_eq_true rfl) ⟨Nat.le_of_ble_eq_true rfl, Nat.le_of_ble_eq_true rfl⟩ dX12_turns_2 (fun v ty' w' hp hk' => ?_)
  obtain ⟨rfl, rfl⟩ := hp
  show GW κ 6 0 0 (wM r g iM1 aM1 lM1) 5 [(0, .ref (r 0)), (1, .int a1)] [.int 0]
  refine g_if_ne (tgt := 10) (a := 0) hk dX12_turns_5 (by decide) rfl (fun z9 => absurd z9 (show ¬ (0 ≠ 0) from by decide)) (fun _ => ?_)
  refine g_iconst (v := (-1)) hk dX12_turns_8 (by decide) ?_
  exact g_iret hk hR rfl ⟨rfl, rfl⟩ dX12_turns_9
set_option maxHeartbeats 4000000 in
set_option maxRecDepth 100000 in
theorem m190_X12_in (l : Launch) (D : va_G) (zt : Nat × Nat × Nat) (g : Nat → ClassId) (r : Nat → Nat) (a0 : Int32) : GM l D zt (tyM g) yX12_in wsX12_in ({ frames := 0, cells := 0, slots := 0, locals := 0 } : Room) [.int a0, .int 1, .int 160] (wM r g iM1 aM1 lM1) (fun v _ w' => ((a0.toInt < 1) ∧ v = some (.int 0) ∧ w' = wM r g iM1 aM1 lM1) ∨ ((¬ (a0.toInt < 1)) ∧ (160 < a0.toInt) ∧ v = some (.int 0) ∧ w' = wM r g iM1 aM1 lM1) ∨ ((¬ (a0.toInt < 1)) ∧ (¬ (160 < a0.toInt)) ∧ v = some (.int 1) ∧ w' = wM r g iM1 aM1 lM1)) 0 0 := by
  refine GM.of (cc := cX12_in) (maxL := 3) (ret := (some .boolean)) (own := RX12) (lv := [(0, .int a0), (1, .int 1), (2, .int 160)]) (by decide) rfl rfl (Nat.le_of_ble_eq_true rfl) rfl (fun κ sz hk hR hN => ?_)
  refine g_iload_n hk dX12_in_0 rfl ?_
  refine g_iload_n hk dX12_in_1 rfl ?_
  refine g_icmp_lt (tgt := 14) (a := a0.toInt) (b := 1) hk dX12_in_2 (by decide) rfl rfl (fun c498 => ?_) (fun c498 => ?_)
  · skip
    refine g_iconst (v := 0) hk dX12_in_14 (by decide) ?_
    exact g_iret hk hR rfl (Or.inl ⟨c498, rfl, rfl⟩) dX12_in_15
  · skip
    refine g_iload_n hk dX12_in_5 rfl ?_
    refine g_iload_n hk dX12_in_6 rfl ?_
    refine g_icmp_gt (tgt := 14) (a := a0.toInt) (b := 160) hk dX12_in_7 (by decide) rfl rfl (fun c499 => ?_) (fun c499 => ?_)
    · skip
      refine g_iconst (v := 0) hk dX12_in_14 (by decide) ?_
      exact g_iret hk hR rfl (Or.inr (Or.inl ⟨c498, c499, rfl, rfl⟩)) dX12_in_15
    · skip
      refine g_iconst (v := 1) hk dX12_in_10 (by decide) ?_
      refine g_goto (tgt := 15) hk dX12_in_11 (by decide) ?_
      exact g_iret hk hR rfl (Or.inr (Or.inr (⟨c498, c499, rfl, rfl⟩))) dX12_in_15
set_option maxHeartbeats 4000000 in
set_option maxRecDepth 100000 in
theorem m191_X12_flat (l : Launch) (D : va_G) (zt : Nat × Nat × Nat) (g : Nat → ClassId) (r : Nat → Nat) (a1 : Int32) : GM l D zt (tyM g) yX12_flat wsX12_flat ({ frames := 1, cells := 0, slots := 0, locals := 22 } : Room) [.ref (r 0), .int a1] (wM r g iM1 aM1 lM1) (fun v _ w' => ((a1.toInt < 1) ∧ v = some (.int (-1)) ∧ w' = wM r g iM1 aM1 lM1) ∨ ((¬ (a1.toInt < 1)) ∧ (160 < a1.toInt) ∧ v = some (.int (-1)) ∧ w' = wM r g iM1 aM1 lM1) ∨ ((¬ (a1.toInt < 1)) ∧ (¬ (160 < a1.toInt)) ∧ v = some (.int 0) ∧ w' = wM r g iM1 aM1 lM1)) 0 0 := by
  refine GM.of (cc := cX12_flat) (maxL := 4) (ret := (some .int)) (own := RX12) (lv := [(0, .ref (r 0)), (1, .int a1)]) (by decide) rfl rfl (Nat.le_of_ble_eq_true rfl) rfl (fun κ sz hk hR hN => ?_)
  have hin12 : ∀ w ∈ u_ws RX12 TX12 55, w ∈ wsX12_flat := by decide +kernel
  refine g_iload_n hk dX12_flat_0 rfl ?_
  refine g_iconst (v := 1) hk dX12_flat_1 (by decide) ?_
  refine g_sipush (v := 160) hk dX12_flat_2 (by decide) ?_
  refine g_callS hk (m190_X12_in l D zt g r a1) (SP.same _) (fun _ h => h) gX12_flat_X12_in rfl rfl rfl (by decide +kernel) ⟨Nat.le_of_ble_eq_true rfl, Nat.le_of_ble_eq_true rfl⟩ rfl rfl (Nat.le_of_ble_eq_true rfl) ⟨Nat.le_of_ble_eq_true rfl, Nat.le_of_ble_eq_true rfl⟩ dX12_flat_5 (fun v ty' w' hp hk' => ?_)
  rcases hp with ⟨c500, rfl, rfl⟩ | ⟨c501, c502, rfl, rfl⟩ | ⟨c503, c504, rfl, rfl⟩
  · show GW κ 4 0 0 (wM r g iM1 aM1 lM1) 8 [(0, .ref (r 0)), (1, .int a1)] [.int 0]
    refine g_if_ne (tgt := 13) (a := 0) hk dX12_flat_8 (by decide) rfl (fun z9 => absurd z9 (show ¬ (0 ≠ 0) from by decide)) (fun _ => ?_)
    refine g_iconst (v := (-1)) hk dX12_flat_11 (by decide) ?_
    exact g_iret hk hR rfl (Or.inl ⟨c500, rfl, rfl⟩) dX12_flat_12
  · show GW κ 4 0 0 (wM r g iM1 aM1 lM1) 8 [(0, .ref (r 0)), (1, .int a1)] [.int 0]
    refine g_if_ne (tgt := 13) (a := 0) hk dX12_flat_8 (by decide) rfl (fun z9 => absurd z9 (show ¬ (0 ≠ 0) from by decide)) (fun _ => ?_)
    refine g_iconst (v := (-1)) hk dX12_flat_11 (by decide) ?_
    exact g_iret hk hR rfl (Or.inr (Or.inl ⟨c501, c502, rfl, rfl⟩)) dX12_flat_12
  · show GW κ 4 0 0 (wM r g iM1 aM1 lM1) 8 [(0, .ref (r 0)), (1, .int a1)] [.int 1]
    refine g_if_ne (tgt := 13) (a := 1) hk dX12_flat_8 (by decide) rfl (fun _ => ?_) (fun z9 => absurd (show 1 ≠ 0 from by decide) z9)
    refine g_iconst (v := 0) hk dX12_flat_13 (by decide) ?_
    refine g_istore_n (lv' := [(2, .int 0), (0, .ref (r 0)), (1, .int a1)]) hk dX12_flat_14 (by decide) rfl ?_
    refine g_iconst (v := 0) hk dX12_flat_15 (by decide) ?_
    refine g_istore_n (lv' := [(3, .int 0), (2, .int 0), (0, .ref (r 0)), (1, .int a1)]) hk dX12_flat_16 (by decide) rfl ?_
    refine g_iload_n hk dX12_flat_17 rfl ?_
    refine g_aload_n hk dX12_flat_18 rfl ?_
    refine gM_r0_35 hk hin12 (by decide +kernel) dX12_flat_19 ?_
    refine g_iconst (v := 0) hk dX12_flat_22 (by decide) ?_
    refine lM_17 (v := 0) hk (vp_in_iff.mpr ⟨by decide, by decide⟩) rfl dX12_flat_23 ?_
    refine g_icmp_ge (tgt := 60) (a := 0) (b := 0) hk dX12_flat_24 (by decide) rfl rfl (fun _ => ?_) (fun z9 => absurd (show 0 ≤ 0 from by decide) z9)
    refine g_iload_n hk dX12_flat_60 rfl ?_
    exact g_iret hk hR rfl (Or.inr (Or.inr (⟨c503, c504, rfl, rfl⟩))) dX12_flat_61
set_option maxHeartbeats 4000000 in
set_option maxRecDepth 100000 in
theorem m192_X12_whole (l : Launch) (D : va_G) (zt : Nat × Nat × Nat) (g : Nat → ClassId) (r : Nat → Nat) (a1 : Int32) : GM l D zt (tyM g) yX12_whole wsX12_whole ({ frames := 1, cells := 0, slots := 0, locals := 22 } : Room) [.ref (r 0), .int a1] (wM r g iM1 aM1 lM1) (fun v _ w' => ((a1.toInt < 0) ∧ v = some (.int (-1)) ∧ w' = wM r g iM1 aM1 lM1) ∨ ((¬ (a1.toInt < 0)) ∧ (1 < a1.toInt) ∧ v = some (.int (-1)) ∧ w' = wM r g iM1 aM1 lM1) ∨ ((¬ (a1.toInt < 0)) ∧ (¬ (1 < a1.toInt)) ∧ (a1.toInt ≠ 0) ∧ v = some (.int (-2)) ∧ w' = wM r g iM1 aM1 lM1) ∨ ((¬ (a1.toInt < 0)) ∧ (¬ (1 < a1.toInt)) ∧ (¬ (a1.toInt ≠ 0)) ∧ v = some (.int (-2)) ∧ w' = wM r g iM1 aM1 lM1)) 0 0 := by
  refine GM.of (cc := cX12_whole) (maxL := 6) (ret := (some .int)) (own := RX12) (lv := [(0, .ref (r 0)), (1, .int a1)]) (by decide) rfl rfl (Nat.le_of_ble_eq_true rfl) rfl (fun κ sz hk hR hN => ?_)
  have hin12 : ∀ w ∈ u_ws RX12 TX12 55, w ∈ wsX12_whole := by decide +kernel
  refine g_iload_n hk dX12_whole_0 rfl ?_
  refine g_iconst (v := 0) hk dX12_whole_1 (by decide) ?_
  refine g_iconst (v := 1) hk dX12_whole_2 (by decide) ?_
  refine g_callS hk (m155_X12_in l D zt g r a1) (SP.same _) (fun _ h => h) gX12_whole_X12_in rfl rfl rfl (by decide +kernel) ⟨Nat.le_of_ble_eq_true rfl, Nat.le_of_ble_eq_true rfl⟩ rfl rfl (Nat.le_of_ble_eq_true rfl) ⟨Nat.le_of_ble_eq_true rfl, Nat.le_of_ble_eq_true rfl⟩ dX12_whole_3 (fun v ty' w' hp hk' => ?_)
  rcases hp with ⟨c505, rfl, rfl⟩ | ⟨c506, c507, rfl, rfl⟩ | ⟨c508, c509, rfl, rfl⟩
  · show GW κ 6 0 0 (wM r g iM1 aM1 lM1) 6 [(0, .ref (r 0)), (1, .int a1)] [.int 0]
    refine g_if_ne (tgt := 11) (a := 0) hk dX12_whole_6 (by decide) rfl (fun z9 => absurd z9 (show ¬ (0 ≠ 0) from by decide)) (fun _ => ?_)
    refine g_iconst (v := (-1)) hk dX12_whole_9 (by decide) ?_
    exact g_iret hk hR rfl (Or.inl ⟨c505, rfl, rfl⟩) dX12_whole_10
  · show GW κ 6 0 0 (wM r g iM1 aM1 lM1) 6 [(0, .ref (r 0)), (1, .int a1)] [.int 0]
    refine g_if_ne (tgt := 11) (a := 0) hk dX12_whole_6 (by decide) rfl (fun z9 => absurd z9 (show ¬ (0 ≠ 0) from by decide)) (fun _ => ?_)
    refine g_iconst (v := (-1)) hk dX12_whole_9 (by decide) ?_
    exact g_iret hk hR rfl (Or.inr (Or.inl ⟨c506, c507, rfl, rfl⟩)) dX12_whole_10
  · show GW κ 6 0 0 (wM r g iM1 aM1 lM1) 6 [(0, .ref (r 0)), (1, .int a1)] [.int 1]
    refine g_if_ne (tgt := 11) (a := 1) hk dX12_whole_6 (by decide) rfl (fun _ => ?_) (fun z9 => absurd (show 1 ≠ 0 from by decide) z9)
    refine g_bipush (v := (-2)) hk dX12_whole_11 (by decide) ?_
    refine g_istore_n (lv' := [(2, .int (-2)), (0, .ref (r 0)), (1, .int a1)]) hk dX12_whole_13 (by decide) rfl ?_
    refine g_bipush (v := (-2)) hk dX12_whole_14 (by decide) ?_
    refine g_istore_n (lv' := [(3, .int (-2)), (2, .int (-2)), (0, .ref (r 0)), (1, .int a1)]) hk dX12_whole_16 (by decide) rfl ?_
    refine g_iconst (v := 0) hk dX12_whole_17 (by decide) ?_
    refine g_istore (lv' := [(4, .int 0), (3, .int (-2)), (2, .int (-2)), (0, .ref (r 0)), (1, .int a1)]) hk dX12_whole_18 (by decide) rfl ?_
    refine g_iload hk dX12_whole_20 rfl ?_
    refine g_aload_n hk dX12_whole_22 rfl ?_
    refine gM_r0_35 hk hin12 (by decide +kernel) dX12_whole_23 ?_
    refine g_iconst (v := 0) hk dX12_whole_26 (by decide) ?_
    refine lM_17 (v := 0) hk (vp_in_iff.mpr ⟨by decide, by decide⟩) rfl dX12_whole_27 ?_
    refine g_icmp_ge (tgt := 78) (a := 0) (b := 0) hk dX12_whole_28 (by decide) rfl rfl (fun _ => ?_) (fun z9 => absurd (show 0 ≤ 0 from by decide) z9)
    refine g_iload_n hk dX12_whole_78 rfl ?_
    refine g_if_ne (tgt := 86) (a := a1.toInt) hk dX12_whole_79 (by decide) rfl (fun c510 => ?_) (fun c510 => ?_)
    · skip
      refine g_iload_n hk dX12_whole_86 rfl ?_
      exact g_iret hk hR rfl (Or.inr (Or.inr (Or.inl ⟨c508, c509, c510, rfl, rfl⟩))) dX12_whole_87
    · skip
      refine g_iload_n hk dX12_whole_82 rfl ?_
      refine g_goto (tgt := 87) hk dX12_whole_83 (by decide) ?_
      exact g_iret hk hR rfl (Or.inr (Or.inr (Or.inr (⟨c508, c509, c510, rfl, rfl⟩)))) dX12_whole_87
set_option maxHeartbeats 4000000 in
set_option maxRecDepth 100000 in
theorem m193_X12_fired (l : Launch) (D : va_G) (zt : Nat × Nat × Nat) (g : Nat → ClassId) (r : Nat → Nat) (a1 : Int32) : GM l D zt (tyM g) yX12_fired wsX12_fired ({ frames := 1, cells := 0, slots := 0, locals := 21 } : Room) [.ref (r 0), .int a1] (wM r g iM1 aM1 lM1) (fun v _ w' => ((0 ≤ a1.toInt) ∧ v = some (.int 0) ∧ w' = wM r g iM1 (up2 aM1 18 (cp (aM1 17) (aM1 18) 165)) lM1) ∨ ((¬ (0 ≤ a1.toInt)) ∧ v = some (.int (-1)) ∧ w' = wM r g iM1 aM1 lM1)) 0 0 := by
  refine GM.of (cc := cX12_fired) (maxL := 5) (ret := (some .int)) (own := RX12) (lv := [(0, .ref (r 0)), (1, .int a1)]) (by decide) rfl rfl (Nat.le_of_ble_eq_true rfl) rfl (fun κ sz hk hR hN => ?_)
  have hin12 : ∀ w ∈ u_ws RX12 TX12 55, w ∈ wsX12_fired := by decide +kernel
  refine g_iload_n hk dX12_fired_0 rfl ?_
  refine g_if_ge (tgt := 6) (a := a1.toInt) hk dX12_fired_1 (by decide) rfl (fun c511 => ?_) (fun c511 => ?_)
  · skip
    refine g_aload_n hk dX12_fired_6 rfl ?_
    refine g_callV hk (m137_X12_copies l D zt g r) (SP.same _) (fun _ h => h) gX12_fired_X12_copies rfl rfl rfl (by decide +kernel) ⟨Nat.le_of_ble_eq_true rfl, Nat.le_of_ble_eq_true rfl⟩ 0 rfl rfl rfl rfl (Nat.le_of_ble_eq_true rfl) ⟨Nat.le_of_ble_eq_true rfl, Nat.le_of_ble_eq_true rfl⟩ dX12_fired_7 (fun v ty' w' hp hk' => ?_)
    obtain ⟨rfl, rfl⟩ := hp
    show GW κ 5 0 0 (wM r g iM1 (up2 aM1 18 (cp (aM1 17) (aM1 18) 165)) lM1) 10 [(0, .ref (r 0)), (1, .int a1)] []
    refine g_iconst (v := 0) hk dX12_fired_10 (by decide) ?_
    refine g_istore_n (lv' := [(2, .int 0), (0, .ref (r 0)), (1, .int a1)]) hk dX12_fired_11 (by decide) rfl ?_
    refine g_iconst (v := 0) hk dX12_fired_12 (by decide) ?_
    refine g_istore_n (lv' := [(3, .int 0), (2, .int 0), (0, .ref (r 0)), (1, .int a1)]) hk dX12_fired_13 (by decide) rfl ?_
    refine g_iload_n hk dX12_fired_14 rfl ?_
    refine g_aload_n hk dX12_fired_15 rfl ?_
    refine gM_r0_28 hk hin12 (by decide +kernel) dX12_fired_16 ?_
    refine g_aload_n hk dX12_fired_19 rfl ?_
    refine gM_i15 (v := 0) hk hin12 (by decide +kernel) dX12_fired_20 rfl ?_
    refine lM_10 (v := 0) hk (vp_in_iff.mpr ⟨by decide, by decide⟩) rfl dX12_fired_23 ?_
    refine g_icmp_ge (tgt := 74) (a := 0) (b := 0) hk dX12_fired_24 (by decide) rfl rfl (fun _ => ?_) (fun z9 => absurd (show 0 ≤ 0 from by decide) z9)
    refine g_iload_n hk dX12_fired_74 rfl ?_
    exact g_iret hk hR rfl (Or.inl ⟨c511, rfl, rfl⟩) dX12_fired_75
  · skip
    refine g_iconst (v := (-1)) hk dX12_fired_4 (by decide) ?_
    exact g_iret hk hR rfl (Or.inr (⟨c511, rfl, rfl⟩)) dX12_fired_5
set_option maxHeartbeats 4000000 in
set_option maxRecDepth 100000 in
theorem m194_X12_hold (l : Launch) (D : va_G) (zt : Nat × Nat × Nat) (g : Nat → ClassId) (r : Nat → Nat) (a1 : Int32) : GM l D zt (tyM g) yX12_hold wsX12_hold ({ frames := 1, cells := 0, slots := 0, locals := 22 } : Room) [.ref (r 0), .int a1] (wM r g iM1 aM1 lM1) (fun v _ w' => ((a1.toInt < 0) ∧ v = some (.int 0) ∧ w' = wM r g iM1 aM1 lM1) ∨ ((¬ (a1.toInt < 0)) ∧ (2 < a1.toInt) ∧ v = some (.int 0) ∧ w' = wM r g iM1 aM1 lM1) ∨ (∃ (F522 : Nat → Int32), (¬ (a1.toInt < 0)) ∧ (¬ (2 < a1.toInt)) ∧ (a1.toInt = 0) ∧ v = some (.int 1) ∧ w' = wM r g iM1 (up2 (up3 aM1 27 0 1) 28 F522) lM1) ∨ (∃ (F528 : Nat → Int32), (¬ (a1.toInt < 0)) ∧ (¬ (2 < a1.toInt)) ∧ (¬ (a1.toInt = 0)) ∧ (a1.toInt = 1) ∧ v = some (.int 1) ∧ w' = wM r g iM1 (up2 (up3 aM1 27 1 1) 28 F528) lM1) ∨ (∃ (F534 : Nat → Int32), (¬ (a1.toInt < 0)) ∧ (¬ (2 < a1.toInt)) ∧ (¬ (a1.toInt = 0)) ∧ (¬ (a1.toInt = 1)) ∧ (a1.toInt = 2) ∧ v = some (.int 1) ∧ w' = wM r g iM1 (up2 (up3 aM1 27 2 1) 28 F534) lM1)) 0 0 := by
  refine GM.of (cc := cX12_hold) (maxL := 3) (ret := (some .boolean)) (own := RX12) (lv := [(0, .ref (r 0)), (1, .int a1)]) (by decide) rfl rfl (Nat.le_of_ble_eq_true rfl) rfl (fun κ sz hk hR hN => ?_)
  have hin12 : ∀ w ∈ u_ws RX12 TX12 55, w ∈ wsX12_hold := by decide +kernel
  refine g_iload_n hk dX12_hold_0 rfl ?_
  refine g_iconst (v := 0) hk dX12_hold_1 (by decide) ?_
  refine g_iconst (v := 2) hk dX12_hold_2 (by decide) ?_
  refine g_callS hk (m180_X12_in l D zt g r a1) (SP.same _) (fun _ h => h) gX12_hold_X12_in rfl rfl rfl (by decide +kernel) ⟨Nat.le_of_ble_eq_true rfl, Nat.le_of_ble_eq_true rfl⟩ rfl rfl (Nat.le_of_ble_eq_true rfl) ⟨Nat.le_of_ble_eq_true rfl, Nat.le_of_ble_eq_true rfl⟩ dX12_hold_3 (fun v ty' w' hp hk' => ?_)
  rcases hp with ⟨c512, rfl, rfl⟩ | ⟨c513, c514, rfl, rfl⟩ | ⟨c515, c516, rfl, rfl⟩
  · show GW κ 3 0 0 (wM r g iM1 aM1 lM1) 6 [(0, .ref (r 0)), (1, .int a1)] [.int 0]
    refine g_if_ne (tgt := 11) (a := 0) hk dX12_hold_6 (by decide) rfl (fun z9 => absurd z9 (show ¬ (0 ≠ 0) from by decide)) (fun _ => ?_)
    refine g_iconst (v := 0) hk dX12_hold_9 (by decide) ?_
    exact g_iret hk hR rfl (Or.inl ⟨c512, rfl, rfl⟩) dX12_hold_10
  · show GW κ 3 0 0 (wM r g iM1 aM1 lM1) 6 [(0, .ref (r 0)), (1, .int a1)] [.int 0]
    refine g_if_ne (tgt := 11) (a := 0) hk dX12_hold_6 (by decide) rfl (fun z9 => absurd z9 (show ¬ (0 ≠ 0) from by decide)) (fun _ => ?_)
    refine g_iconst (v := 0) hk dX12_hold_9 (by decide) ?_
    exact g_iret hk hR rfl (Or.inr (Or.inl ⟨c513, c514, rfl, rfl⟩)) dX12_hold_10
  · show GW κ 3 0 0 (wM r g iM1 aM1 lM1) 6 [(0, .ref (r 0)), (1, .int a1)] [.int 1]
    refine g_if_ne (tgt := 11) (a := 1) hk dX12_hold_6 (by decide) rfl (fun _ => ?_) (fun z9 => absurd (show 1 ≠ 0 from by decide) z9)
    refine g_aload_n hk dX12_hold_11 rfl ?_
    refine gM_r0_53 hk hin12 (by decide +kernel) dX12_hold_12 ?_
    refine g_iload_n hk dX12_hold_15 rfl ?_
    refine g_iconst (v := 1) hk dX12_hold_16 (by decide) ?_
    by_cases c517 : a1.toInt = 0
    · obtain rfl : a1 = 0 := Int32.toInt_inj.mp c517
      refine sM_27 (y := 1) (j := 0) hk (vp_in_iff.mpr ⟨by decide, by decide⟩) (by decide) rfl dX12_hold_17 ?_
      refine g_iconst (v := 0) hk dX12_hold_18 (by decide) ?_
      refine g_istore_n (lv' := [(2, .int 0), (0, .ref (r 0)), (1, .int 0)]) hk dX12_hold_19 (by decide) rfl ?_
      have lp518 : ∀ (n520 k519 : Nat) (F522 : Nat → Int32), k519 + n520 = 165 → GW κ 3 0 0 (wM r g iM1 (up2 (up3 aM1 27 0 1) 28 F522) lM1) 20 [(2, .int (nI k519)), (0, .ref (r 0)), (1, .int 0)] [] := by
        intro n520
        induction n520 with
        | zero =>
          intro k519 F522 hk519
          obtain rfl : k519 = 165 := by omega
          show GW κ 3 0 0 (wM r g iM1 (up2 (up3 aM1 27 0 1) 28 F522) lM1) 20 [(2, .int 165), (0, .ref (r 0)), (1, .int 0)] []
          refine g_iload_n hk dX12_hold_20 rfl ?_
          refine g_sipush (v := 165) hk dX12_hold_21 (by decide) ?_
          refine g_icmp_ge (tgt := 51) (a := 165) (b := 165) hk dX12_hold_24 (by decide) rfl rfl (fun _ => ?_) (fun z9 => absurd (show 165 ≤ 165 from by decide) z9)
          refine g_iconst (v := 1) hk dX12_hold_51 (by decide) ?_
          exact g_iret hk hR rfl (Or.inr (Or.inr (Or.inl ⟨F522, c515, c516, c517, rfl, rfl⟩))) dX12_hold_52
        | succ n520 ih =>
          intro k519 F522 hk519
          obtain ⟨x521, ex521⟩ : ∃ x : Int32, x = nI k519 := ⟨_, rfl⟩
          have hx521 : x521.toInt = (k519 : Int) := by rw [ex521]; exact nI_toInt (by omega)
          rw [← ex521]
          rw [ex521]
          exact g_lv (List.forall_mem_cons.mpr ⟨List.mem_of_getElem? (i := 0) rfl, (List.forall_mem_cons.mpr ⟨List.mem_of_getElem? (i := 1) rfl, (List.forall_mem_cons.mpr ⟨List.mem_of_getElem? (i := 2) rfl, (fun _ h => absurd h List.not_mem_nil)⟩)⟩)⟩) (ih (k519) (None) (by omega))
      exact lp518 165 0 ((up3 aM1 27 0 1) 28) (by omega)
    by_cases c523 : a1.toInt = 1
    · obtain rfl : a1 = 1 := Int32.toInt_inj.mp c523
      refine sM_27 (y := 1) (j := 1) hk (vp_in_iff.mpr ⟨by decide, by decide⟩) (by decide) rfl dX12_hold_17 ?_
      refine g_iconst (v := 0) hk dX12_hold_18 (by decide) ?_
      refine g_istore_n (lv' := [(2, .int 0), (0, .ref (r 0)), (1, .int 1)]) hk dX12_hold_19 (by decide) rfl ?_
      have lp524 : ∀ (n526 k525 : Nat) (F528 : Nat → Int32), k525 + n526 = 165 → GW κ 3 0 0 (wM r g iM1 (up2 (up3 aM1 27 1 1) 28 F528) lM1) 20 [(2, .int (nI k525)), (0, .ref (r 0)), (1, .int 1)] [] := by
        intro n526
        induction n526 with
        | zero =>
          intro k525 F528 hk525
          obtain rfl : k525 = 165 := by omega
          show GW κ 3 0 0 (wM r g iM1 (up2 (up3 aM1 27 1 1) 28 F528) lM1) 20 [(2, .int 165), (0, .ref (r 0)), (1, .int 1)] []
          refine g_iload_n hk dX12_hold_20 rfl ?_
          refine g_sipush (v := 165) hk dX12_hold_21 (by decide) ?_
          refine g_icmp_ge (tgt := 51) (a := 165) (b := 165) hk dX12_hold_24 (by decide) rfl rfl (fun _ => ?_) (fun z9 => absurd (show 165 ≤ 165 from by decide) z9)
          refine g_iconst (v := 1) hk dX12_hold_51 (by decide) ?_
          exact g_iret hk hR rfl (Or.inr (Or.inr (Or.inr (Or.inl ⟨F528, c515, c516, c517, c523, rfl, rfl⟩)))) dX12_hold_52
        | succ n526 ih =>
          intro k525 F528 hk525
          obtain ⟨x527, ex527⟩ : ∃ x : Int32, x = nI k525 := ⟨_, rfl⟩
          have hx527 : x527.toInt = (k525 : Int) := by rw [ex527]; exact nI_toInt (by omega)
          rw [← ex527]
          rw [ex527]
          exact g_lv (List.forall_mem_cons.mpr ⟨List.mem_of_getElem? (i := 0) rfl, (List.forall_mem_cons.mpr ⟨List.mem_of_getElem? (i := 1) rfl, (List.forall_mem_cons.mpr ⟨List.mem_of_getElem? (i := 2) rfl, (fun _ h => absurd h List.not_mem_nil)⟩)⟩)⟩) (ih (k525) (None) (by omega))
      exact lp524 165 0 ((up3 aM1 27 1 1) 28) (by omega)
    by_cases c529 : a1.toInt = 2
    · obtain rfl : a1 = 2 := Int32.toInt_inj.mp c529
      refine sM_27 (y := 1) (j := 2) hk (vp_in_iff.mpr ⟨by decide, by decide⟩) (by decide) rfl dX12_hold_17 ?_
      refine g_iconst (v := 0) hk dX12_hold_18 (by decide) ?_
      refine g_istore_n (lv' := [(2, .int 0), (0, .ref (r 0)), (1, .int 2)]) hk dX12_hold_19 (by decide) rfl ?_
      have lp530 : ∀ (n532 k531 : Nat) (F534 : Nat → Int32), k531 + n532 = 165 → GW κ 3 0 0 (wM r g iM1 (up2 (up3 aM1 27 2 1) 28 F534) lM1) 20 [(2, .int (nI k531)), (0, .ref (r 0)), (1, .int 2)] [] := by
        intro n532
        induction n532 with
        | zero =>
          intro k531 F534 hk531
          obtain rfl : k531 = 165 := by omega
          show GW κ 3 0 0 (wM r g iM1 (up2 (up3 aM1 27 2 1) 28 F534) lM1) 20 [(2, .int 165), (0, .ref (r 0)), (1, .int 2)] []
          refine g_iload_n hk dX12_hold_20 rfl ?_
          refine g_sipush (v := 165) hk dX12_hold_21 (by decide) ?_
          refine g_icmp_ge (tgt := 51) (a := 165) (b := 165) hk dX12_hold_24 (by decide) rfl rfl (fun _ => ?_) (fun z9 => absurd (show 165 ≤ 165 from by decide) z9)
          refine g_iconst (v := 1) hk dX12_hold_51 (by decide) ?_
          exact g_iret hk hR rfl (Or.inr (Or.inr (Or.inr (Or.inr (⟨F534, c515, c516, c517, c523, c529, rfl, rfl⟩))))) dX12_hold_52
        | succ n532 ih =>
          intro k531 F534 hk531
          obtain ⟨x533, ex533⟩ : ∃ x : Int32, x = nI k531 := ⟨_, rfl⟩
          have hx533 : x533.toInt = (k531 : Int) := by rw [ex533]; exact nI_toInt (by omega)
          rw [← ex533]
          rw [ex533]
          exact g_lv (List.forall_mem_cons.mpr ⟨List.mem_of_getElem? (i := 0) rfl, (List.forall_mem_cons.mpr ⟨List.mem_of_getElem? (i := 1) rfl, (List.forall_mem_cons.mpr ⟨List.mem_of_getElem? (i := 2) rfl, (fun _ h => absurd h List.not_mem_nil)⟩)⟩)⟩) (ih (k531) (None) (by omega))
      exact lp530 165 0 ((up3 aM1 27 2 1) 28) (by omega)
    exfalso; omega
set_option maxHeartbeats 4000000 in
set_option maxRecDepth 100000 in
theorem m195_X12_restore (l : Launch) (D : va_G) (zt : Nat × Nat × Nat) (g : Nat → ClassId) (r : Nat → Nat) (a1 : Int32) : GM l D zt (tyM g) yX12_restore wsX12_restore ({ frames := 1, cells := 0, slots := 0, locals := 22 } : Room) [.ref (r 0), .int a1] (wM r g iM1 aM1 lM1) (fun v _ w' => v = some (.int 0) ∧ w' = wM r g iM1 aM1 lM1) 0 0 := by
  refine GM.of (cc := cX12_restore) (maxL := 3) (ret := (some .boolean)) (own := RX12) (lv := [(0, .ref (r 0)), (1, .int a1)]) (by decide) rfl rfl (Nat.le_of_ble_eq_true rfl) rfl (fun κ sz hk hR hN => ?_)
  have hin12 : ∀ w ∈ u_ws RX12 TX12 55, w ∈ wsX12_restore := by decide +kernel
  refine g_iload_n hk dX12_restore_0 rfl ?_
  refine g_iconst (v := 0) hk dX12_restore_1 (by decide) ?_
  refine g_iconst (v := 2) hk dX12_restore_2 (by decide) ?_
  refine g_callS hk (m180_X12_in l D zt g r a1) (SP.same _) (fun _ h => h) gX12_restore_X12_in rfl rfl rfl (by decide +kernel) ⟨Nat.le_of_ble_eq_true rfl, Nat.le_of_ble_eq_true rfl⟩ rfl rfl (Nat.le_of_ble_eq_true rfl) ⟨Nat.le_of_ble_eq_true rfl, Nat.le_of_ble_eq_true rfl⟩ dX12_restore_3 (fun v ty' w' hp hk' => ?_)
  rcases hp with ⟨c535, rfl, rfl⟩ | ⟨c536, c537, rfl, rfl⟩ | ⟨c538, c539, rfl, rfl⟩
  · show GW κ 3 0 0 (wM r g iM1 aM1 lM1) 6 [(0, .ref (r 0)), (1, .int a1)] [.int 0]
    refine g_if_eq (tgt := 18) (a := 0) hk dX12_restore_6 (by decide) rfl (fun _ => ?_) (fun z9 => absurd (show 0 = 0 from by decide) z9)
    refine g_iconst (v := 0) hk dX12_restore_18 (by decide) ?_
    exact g_iret hk hR rfl ⟨rfl, rfl⟩ dX12_restore_19
  · show GW κ 3 0 0 (wM r g iM1 aM1 lM1) 6 [(0, .ref (r 0)), (1, .int a1)] [.int 0]
    refine g_if_eq (tgt := 18) (a := 0) hk dX12_restore_6 (by decide) rfl (fun _ => ?_) (fun z9 => absurd (show 0 = 0 from by decide) z9)
    refine g_iconst (v := 0) hk dX12_restore_18 (by decide) ?_
    exact g_iret hk hR rfl ⟨rfl, rfl⟩ dX12_restore_19
  · show GW κ 3 0 0 (wM r g iM1 aM1 lM1) 6 [(0, .ref (r 0)), (1, .int a1)] [.int 1]
    refine g_if_eq (tgt := 18) (a := 1) hk dX12_restore_6 (by decide) rfl (fun z9 => absurd z9 (show ¬ (1 = 0) from by decide)) (fun _ => ?_)
    refine g_aload_n hk dX12_restore_9 rfl ?_
    refine gM_r0_53 hk hin12 (by decide +kernel) dX12_restore_10 ?_
    refine g_iload_n hk dX12_restore_13 rfl ?_
    by_cases c540 : a1.toInt = 0
    · obtain rfl : a1 = 0 := Int32.toInt_inj.mp c540
      refine lM_27 (v := 0) hk (vp_in_iff.mpr ⟨by decide, by decide⟩) rfl dX12_restore_14 ?_
      refine g_if_ne (tgt := 20) (a := 0) hk dX12_restore_15 (by decide) rfl (fun z9 => absurd z9 (show ¬ (0 ≠ 0) from by decide)) (fun _ => ?_)
      refine g_iconst (v := 0) hk dX12_restore_18 (by decide) ?_
      exact g_iret hk hR rfl ⟨rfl, rfl⟩ dX12_restore_19
    by_cases c541 : a1.toInt = 1
    · obtain rfl : a1 = 1 := Int32.toInt_inj.mp c541
      refine lM_27 (v := 0) hk (vp_in_iff.mpr ⟨by decide, by decide⟩) rfl dX12_restore_14 ?_
      refine g_if_ne (tgt := 20) (a := 0) hk dX12_restore_15 (by decide) rfl (fun z9 => absurd z9 (show ¬ (0 ≠ 0) from by decide)) (fun _ => ?_)
      refine g_iconst (v := 0) hk dX12_restore_18 (by decide) ?_
      exact g_iret hk hR rfl ⟨rfl, rfl⟩ dX12_restore_19
    by_cases c542 : a1.toInt = 2
    · obtain rfl : a1 = 2 := Int32.toInt_inj.mp c542
      refine lM_27 (v := 0) hk (vp_in_iff.mpr ⟨by decide, by decide⟩) rfl dX12_restore_14 ?_
      refine g_if_ne (tgt := 20) (a := 0) hk dX12_restore_15 (by decide) rfl (fun z9 => absurd z9 (show ¬ (0 ≠ 0) from by decide)) (fun _ => ?_)
      refine g_iconst (v := 0) hk dX12_restore_18 (by decide) ?_
      exact g_iret hk hR rfl ⟨rfl, rfl⟩ dX12_restore_19
    exfalso; omega
set_option maxHeartbeats 4000000 in
set_option maxRecDepth 100000 in
theorem m196_X12_gaps (l : Launch) (D : va_G) (zt : Nat × Nat × Nat) (g : Nat → ClassId) (r : Nat → Nat) : GM l D zt (tyM g) yX12_gaps wsX12_gaps ({ frames := 0, cells := 0, slots := 0, locals := 0 } : Room) [.ref (r 0)] (wM r g iM1 aM1 lM1) (fun v _ w' => v = some (.int 0) ∧ w' = wM r g iM1 aM1 lM1) 0 0 := by
  refine GM.of (cc := cX12_gaps) (maxL := 3) (ret := (some .int)) (own := RX12) (lv := [(0, .ref (r 0))]) (by decide) rfl rfl (Nat.le_of_ble_eq_true rfl) rfl (fun κ sz hk hR hN => ?_)
  have hin12 : ∀ w ∈ u_ws RX12 TX12 55, w ∈ wsX12_gaps := by decide +kernel
  refine g_iconst (v := 0) hk dX12_gaps_0 (by decide) ?_
  refine g_istore_n (lv' := [(1, .int 0), (0, .ref (r 0))]) hk dX12_gaps_1 (by decide) rfl ?_
  refine g_iconst (v := 0) hk dX12_gaps_2 (by decide) ?_
  refine g_istore_n (lv' := [(2, .int 0), (1, .int 0), (0, .ref (r 0))]) hk dX12_gaps_3 (by decide) rfl ?_
  refine g_iload_n hk dX12_gaps_4 rfl ?_
  refine g_aload_n hk dX12_gaps_5 rfl ?_
  refine gM_r0_35 hk hin12 (by decide +kernel) dX12_gaps_6 ?_
  refine g_iconst (v := 0) hk dX12_gaps_9 (by decide) ?_
  refine lM_17 (v := 0) hk (vp_in_iff.mpr ⟨by decide, by decide⟩) rfl dX12_gaps_10 ?_
  refine g_icmp_ge (tgt := 31) (a := 0) (b := 0) hk dX12_gaps_11 (by decide) rfl rfl (fun _ => ?_) (fun z9 => absurd (show 0 ≤ 0 from by decide) z9)
  refine g_iload_n hk dX12_gaps_31 rfl ?_
  exact g_iret hk hR rfl ⟨rfl, rfl⟩ dX12_gaps_32
set_option maxHeartbeats 4000000 in
set_option maxRecDepth 100000 in
theorem m197_X12_in (l : Launch) (D : va_G) (zt : Nat × Nat × Nat) (g : Nat → ClassId) (r : Nat → Nat) : GM l D zt (tyM g) yX12_in wsX12_in ({ frames := 0, cells := 0, slots := 0, locals := 0 } : Room) [.int (-1), .int 0, .int (-1)] (wM r g iM1 aM1 lM1) (fun v _ w' => v = some (.int 0) ∧ w' = wM r g iM1 aM1 lM1) 0 0 := by
  refine GM.of (cc := cX12_in) (maxL := 3) (ret := (some .boolean)) (own := RX12) (lv := [(0, .int (-1)), (1, .int 0), (2, .int (-1))]) (by decide) rfl rfl (Nat.le_of_ble_eq_true rfl) rfl (fun κ sz hk hR hN => ?_)
  refine g_iload_n hk dX12_in_0 rfl ?_
  refine g_iload_n hk dX12_in_1 rfl ?_
  refine g_icmp_lt (tgt := 14) (a := (-1)) (b := 0) hk dX12_in_2 (by decide) rfl rfl (fun _ => ?_) (fun z9 => absurd (show (-1) < 0 from by decide) z9)
  refine g_iconst (v := 0) hk dX12_in_14 (by decide) ?_
  exact g_iret hk hR rfl ⟨rfl, rfl⟩ dX12_in_15
set_option maxHeartbeats 4000000 in
set_option maxRecDepth 100000 in
theorem m198_X12_isPlace (l : Launch) (D : va_G) (zt : Nat × Nat × Nat) (g : Nat → ClassId) (r : Nat → Nat) : GM l D zt (tyM g) yX12_isPlace wsX12_isPlace ({ frames := 1, cells := 0, slots := 0, locals := 22 } : Room) [.ref (r 0), .int (-1)] (wM r g iM1 aM1 lM1) (fun v _ w' => v = some (.int 0) ∧ w' = wM r g iM1 aM1 lM1) 0 0 := by
  refine GM.of (cc := cX12_isPlace) (maxL := 2) (ret := (some .boolean)) (own := RX12) (lv := [(0, .ref (r 0)), (1, .int (-1))]) (by decide) rfl rfl (Nat.le_of_ble_eq_true rfl) rfl (fun κ sz hk hR hN => ?_)
  have hin12 : ∀ w ∈ u_ws RX12 TX12 55, w ∈ wsX12_isPlace := by decide +kernel
  refine g_iload_n hk dX12_isPlace_0 rfl ?_
  refine g_iconst (v := 0) hk dX12_isPlace_1 (by decide) ?_
  refine g_aload_n hk dX12_isPlace_2 rfl ?_
  refine gM_r0_35 hk hin12 (by decide +kernel) dX12_isPlace_3 ?_
  refine g_iconst (v := 0) hk dX12_isPlace_6 (by decide) ?_
  refine lM_17 (v := 0) hk (vp_in_iff.mpr ⟨by decide, by decide⟩) rfl dX12_isPlace_7 ?_
  refine g_iconst (v := 1) hk dX12_isPlace_8 (by decide) ?_
  refine g_isub hk dX12_isPlace_9 ?_
  refine g_norm (v := (-1)) (by decide) ?_
  refine g_callS hk (m197_X12_in l D zt g r) (SP.same _) (fun _ h => h) gX12_isPlace_X12_in rfl rfl rfl (by decide +kernel) ⟨Nat.le_of_ble_eq_true rfl, Nat.le_of_ble_eq_true rfl⟩ rfl rfl (Nat.le_of_ble_eq_true rfl) ⟨Nat.le_of_ble_eq_true rfl, Nat.le_of_ble_eq_true rfl⟩ dX12_isPlace_10 (fun v ty' w' hp hk' => ?_)
  obtain ⟨rfl, rfl⟩ := hp
  show GW κ 2 0 0 (wM r g iM1 aM1 lM1) 13 [(0, .ref (r 0)), (1, .int (-1))] [.int 0]
  exact g_iret hk hR rfl ⟨rfl, rfl⟩ dX12_isPlace_13
set_option maxHeartbeats 4000000 in
set_option maxRecDepth 100000 in
theorem m199_X12_isThere (l : Launch) (D : va_G) (zt : Nat × Nat × Nat) (g : Nat → ClassId) (r : Nat → Nat) : GM l D zt (tyM g) yX12_isThere wsX12_isThere ({ frames := 2, cells := 0, slots := 0, locals := 43 } : Room) [.ref (r 0), .int (-1)] (wM r g iM1 aM1 lM1) (fun v _ w' => v = some (.int 0) ∧ w' = wM r g iM1 aM1 lM1) 0 0 := by
  refine GM.of (cc := cX12_isThere) (maxL := 2) (ret := (some .boolean)) (own := RX12) (lv := [(0, .ref (r 0)), (1, .int (-1))]) (by decide) rfl rfl (Nat.le_of_ble_eq_true rfl) rfl (fun κ sz hk hR hN => ?_)
  refine g_aload_n hk dX12_isThere_0 rfl ?_
  refine g_iload_n hk dX12_isThere_1 rfl ?_
  refine g_callV hk (m198_X12_isPlace l D zt g r) (SP.same _) (fun _ h => h) gX12_isThere_X12_isPlace rfl rfl rfl (by decide +kernel) ⟨Nat.le_of_ble_eq_true rfl, Nat.le_of_ble_eq_true rfl⟩ 0 rfl rfl rfl rfl (Nat.le_of_ble_eq_true rfl) ⟨Nat.le_of_ble_eq_true rfl, Nat.le_of_ble_eq_true rfl⟩ dX12_isThere_2 (fun v ty' w' hp hk' => ?_)
  obtain ⟨rfl, rfl⟩ := hp
  show GW κ 2 0 0 (wM r g iM1 aM1 lM1) 5 [(0, .ref (r 0)), (1, .int (-1))] [.int 0]
  refine g_if_eq (tgt := 25) (a := 0) hk dX12_isThere_5 (by decide) rfl (fun _ => ?_) (fun z9 => absurd (show 0 = 0 from by decide) z9)
  refine g_iconst (v := 0) hk dX12_isThere_25 (by decide) ?_
  exact g_iret hk hR rfl ⟨rfl, rfl⟩ dX12_isThere_26
set_option maxHeartbeats 4000000 in
set_option maxRecDepth 100000 in
theorem m200_X12_in (l : Launch) (D : va_G) (zt : Nat × Nat × Nat) (g : Nat → ClassId) (r : Nat → Nat) : GM l D zt (tyM g) yX12_in wsX12_in ({ frames := 0, cells := 0, slots := 0, locals := 0 } : Room) [.int 0, .int 0, .int (-1)] (wM r g iM1 aM1 lM1) (fun v _ w' => v = some (.int 0) ∧ w' = wM r g iM1 aM1 lM1) 0 0 := by
  refine GM.of (cc := cX12_in) (maxL := 3) (ret := (some .boolean)) (own := RX12) (lv := [(0, .int 0), (1, .int 0), (2, .int (-1))]) (by decide) rfl rfl (Nat.le_of_ble_eq_true rfl) rfl (fun κ sz hk hR hN => ?_)
  refine g_iload_n hk dX12_in_0 rfl ?_
  refine g_iload_n hk dX12_in_1 rfl ?_
  refine g_icmp_lt (tgt := 14) (a := 0) (b := 0) hk dX12_in_2 (by decide) rfl rfl (fun z9 => absurd z9 (show ¬ (0 < 0) from by decide)) (fun _ => ?_)
  refine g_iload_n hk dX12_in_5 rfl ?_
  refine g_iload_n hk dX12_in_6 rfl ?_
  refine g_icmp_gt (tgt := 14) (a := 0) (b := (-1)) hk dX12_in_7 (by decide) rfl rfl (fun _ => ?_) (fun z9 => absurd (show (-1) < 0 from by decide) z9)
  refine g_iconst (v := 0) hk dX12_in_14 (by decide) ?_
  exact g_iret hk hR rfl ⟨rfl, rfl⟩ dX12_in_15
set_option maxHeartbeats 4000000 in
set_option maxRecDepth 100000 in
theorem m201_X12_isPlace (l : Launch) (D : va_G) (zt : Nat × Nat × Nat) (g : Nat → ClassId) (r : Nat → Nat) : GM l D zt (tyM g) yX12_isPlace wsX12_isPlace ({ frames := 1, cells := 0, slots := 0, locals := 22 } : Room) [.ref (r 0), .int 0] (wM r g iM1 aM1 lM1) (fun v _ w' => v = some (.int 0) ∧ w' = wM r g iM1 aM1 lM1) 0 0 := by
  refine GM.of (cc := cX12_isPlace) (maxL := 2) (ret := (some .boolean)) (own := RX12) (lv := [(0, .ref (r 0)), (1, .int 0)]) (by decide) rfl rfl (Nat.le_of_ble_eq_true rfl) rfl (fun κ sz hk hR hN => ?_)
  have hin12 : ∀ w ∈ u_ws RX12 TX12 55, w ∈ wsX12_isPlace := by decide +kernel
  refine g_iload_n hk dX12_isPlace_0 rfl ?_
  refine g_iconst (v := 0) hk dX12_isPlace_1 (by decide) ?_
  refine g_aload_n hk dX12_isPlace_2 rfl ?_
  refine gM_r0_35 hk hin12 (by decide +kernel) dX12_isPlace_3 ?_
  refine g_iconst (v := 0) hk dX12_isPlace_6 (by decide) ?_
  refine lM_17 (v := 0) hk (vp_in_iff.mpr ⟨by decide, by decide⟩) rfl dX12_isPlace_7 ?_
  refine g_iconst (v := 1) hk dX12_isPlace_8 (by decide) ?_
  refine g_isub hk dX12_isPlace_9 ?_
  refine g_norm (v := (-1)) (by decide) ?_
  refine g_callS hk (m200_X12_in l D zt g r) (SP.same _) (fun _ h => h) gX12_isPlace_X12_in rfl rfl rfl (by decide +kernel) ⟨Nat.le_of_ble_eq_true rfl, Nat.le_of_ble_eq_true rfl⟩ rfl rfl (Nat.le_of_ble_eq_true rfl) ⟨Nat.le_of_ble_eq_true rfl, Nat.le_of_ble_eq_true rfl⟩ dX12_isPlace_10 (fun v ty' w' hp hk' => ?_)
  obtain ⟨rfl, rfl⟩ := hp
  show GW κ 2 0 0 (wM r g iM1 aM1 lM1) 13 [(0, .ref (r 0)), (1, .int 0)] [.int 0]
  exact g_iret hk hR rfl ⟨rfl, rfl⟩ dX12_isPlace_13
set_option maxHeartbeats 4000000 in
set_option maxRecDepth 100000 in
theorem m202_X12_isThere (l : Launch) (D : va_G) (zt : Nat × Nat × Nat) (g : Nat → ClassId) (r : Nat → Nat) : GM l D zt (tyM g) yX12_isThere wsX12_isThere ({ frames := 2, cells := 0, slots := 0, locals := 43 } : Room) [.ref (r 0), .int 0] (wM r g iM1 aM1 lM1) (fun v _ w' => v = some (.int 0) ∧ w' = wM r g iM1 aM1 lM1) 0 0 := by
  refine GM.of (cc := cX12_isThere) (maxL := 2) (ret := (some .boolean)) (own := RX12) (lv := [(0, .ref (r 0)), (1, .int 0)]) (by decide) rfl rfl (Nat.le_of_ble_eq_true rfl) rfl (fun κ sz hk hR hN => ?_)
  refine g_aload_n hk dX12_isThere_0 rfl ?_
  refine g_iload_n hk dX12_isThere_1 rfl ?_
  refine g_callV hk (m201_X12_isPlace l D zt g r) (SP.same _) (fun _ h => h) gX12_isThere_X12_isPlace rfl rfl rfl (by decide +kernel) ⟨Nat.le_of_ble_eq_true rfl, Nat.le_of_ble_eq_true rfl⟩ 0 rfl rfl rfl rfl (Nat.le_of_ble_eq_true rfl) ⟨Nat.le_of_ble_eq_true rfl, Nat.le_of_ble_eq_true rfl⟩ dX12_isThere_2 (fun v ty' w' hp hk' => ?_)
  obtain ⟨rfl, rfl⟩ := hp
  show GW κ 2 0 0 (wM r g iM1 aM1 lM1) 5 [(0, .ref (r 0)), (1, .int 0)] [.int 0]
  refine g_if_eq (tgt := 25) (a := 0) hk dX12_isThere_5 (by decide) rfl (fun _ => ?_) (fun z9 => absurd (show 0 = 0 from by decide) z9)
  refine g_iconst (v := 0) hk dX12_isThere_25 (by decide) ?_
  exact g_iret hk hR rfl ⟨rfl, rfl⟩ dX12_isThere_26
set_option maxHeartbeats 4000000 in
set_option maxRecDepth 100000 in
theorem m203_X12_count (l : Launch) (D : va_G) (zt : Nat × Nat × Nat) (g : Nat → ClassId) (r : Nat → Nat) (a1 : Int32) : GM l D zt (tyM g) yX12_count wsX12_count ({ frames := 3, cells := 0, slots := 0, locals := 64 } : Room) [.ref (r 0), .int a1] (wM r g iM1 aM1 lM1) (fun v _ w' => ((a1.toInt = 0) ∧ v = some (.int 0) ∧ w' = wM r g iM1 aM1 lM1) ∨ ((¬ (a1.toInt = 0)) ∧ (a1.toInt = 1) ∧ v = some (.int 0) ∧ w' = wM r g iM1 aM1 lM1) ∨ ((¬ (a1.toInt = 0)) ∧ (¬ (a1.toInt = 1)) ∧ (a1.toInt = 2) ∧ v = some (.int 0) ∧ w' = wM r g iM1 aM1 lM1) ∨ ((¬ (a1.toInt = 0)) ∧ (¬ (a1.toInt = 1)) ∧ (¬ (a1.toInt = 2)) ∧ (a1.toInt = 3) ∧ v = some (.int 2) ∧ w' = wM r g iM1 aM1 lM1) ∨ ((¬ (a1.toInt = 0)) ∧ (¬ (a1.toInt = 1)) ∧ (¬ (a1.toInt = 2)) ∧ (¬ (a1.toInt = 3)) ∧ (a1.toInt = 4) ∧ v = some (.int 0) ∧ w' = wM r g iM1 aM1 lM1) ∨ ((¬ (a1.toInt = 0)) ∧ (¬ (a1.toInt = 1)) ∧ (¬ (a1.toInt = 2)) ∧ (¬ (a1.toInt = 3)) ∧ (¬ (a1.toInt = 4)) ∧ (a1.toInt = 5) ∧ v = some (.int 0) ∧ w' = wM r g iM1 aM1 lM1) ∨ ((¬ (a1.toInt = 0)) ∧ (¬ (a1.toInt = 1)) ∧ (¬ (a1.toInt = 2)) ∧ (¬ (a1.toInt = 3)) ∧ (¬ (a1.toInt = 4)) ∧ (¬ (a1.toInt = 5)) ∧ (a1.toInt = 6) ∧ v = some (.int 8) ∧ w' = wM r g iM1 aM1 lM1) ∨ ((¬ (a1.toInt = 0)) ∧ (¬ (a1.toInt = 1)) ∧ (¬ (a1.toInt = 2)) ∧ (¬ (a1.toInt = 3)) ∧ (¬ (a1.toInt = 4)) ∧ (¬ (a1.toInt = 5)) ∧ (¬ (a1.toInt = 6)) ∧ (a1.toInt = 7) ∧ v = some (.int 0) ∧ w' = wM r g iM1 aM1 lM1) ∨ ((¬ (a1.toInt = 0)) ∧ (¬ (a1.toInt = 1)) ∧ (¬ (a1.toInt = 2)) ∧ (¬ (a1.toInt = 3)) ∧ (¬ (a1.toInt = 4)) ∧ (¬ (a1.toInt = 5)) ∧ (¬ (a1.toInt = 6)) ∧ (¬ (a1.toInt = 7)) ∧ (a1.toInt = 8) ∧ v = some (.int 0) ∧ w' = wM r g iM1 aM1 lM1) ∨ ((¬ (a1.toInt = 0)) ∧ (¬ (a1.toInt = 1)) ∧ (¬ (a1.toInt = 2)) ∧ (¬ (a1.toInt = 3)) ∧ (¬ (a1.toInt = 4)) ∧ (¬ (a1.toInt = 5)) ∧ (¬ (a1.toInt = 6)) ∧ (¬ (a1.toInt = 7)) ∧ (¬ (a1.toInt = 8)) ∧ (a1.toInt = 9) ∧ v = some (.int 0) ∧ w' = wM r g iM1 aM1 lM1) ∨ ((¬ (a1.toInt = 0)) ∧ (¬ (a1.toInt = 1)) ∧ (¬ (a1.toInt = 2)) ∧ (¬ (a1.toInt = 3)) ∧ (¬ (a1.toInt = 4)) ∧ (¬ (a1.toInt = 5)) ∧ (¬ (a1.toInt = 6)) ∧ (¬ (a1.toInt = 7)) ∧ (¬ (a1.toInt = 8)) ∧ (¬ (a1.toInt = 9)) ∧ (a1.toInt = 10) ∧ v = some (.int 0) ∧ w' = wM r g iM1 aM1 lM1) ∨ ((¬ (a1.toInt = 0)) ∧ (¬ (a1.toInt = 1)) ∧ (¬ (a1.toInt = 2)) ∧ (¬ (a1.toInt = 3)) ∧ (¬ (a1.toInt = 4)) ∧ (¬ (a1.toInt = 5)) ∧ (¬ (a1.toInt = 6)) ∧ (¬ (a1.toInt = 7)) ∧ (¬ (a1.toInt = 8)) ∧ (¬ (a1.toInt = 9)) ∧ (¬ (a1.toInt = 10)) ∧ (a1.toInt = 11) ∧ v = some (.int 0) ∧ w' = wM r g iM1 aM1 lM1) ∨ ((¬ (a1.toInt = 0)) ∧ (¬ (a1.toInt = 1)) ∧ (¬ (a1.toInt = 2)) ∧ (¬ (a1.toInt = 3)) ∧ (¬ (a1.toInt = 4)) ∧ (¬ (a1.toInt = 5)) ∧ (¬ (a1.toInt = 6)) ∧ (¬ (a1.toInt = 7)) ∧ (¬ (a1.toInt = 8)) ∧ (¬ (a1.toInt = 9)) ∧ (¬ (a1.toInt = 10)) ∧ (¬ (a1.toInt = 11)) ∧ (a1.toInt = 12) ∧ v = some (.int (-1000)) ∧ w' = wM r g iM1 aM1 lM1) ∨ ((¬ (a1.toInt = 0)) ∧ (¬ (a1.toInt = 1)) ∧ (¬ (a1.toInt = 2)) ∧ (¬ (a1.toInt = 3)) ∧ (¬ (a1.toInt = 4)) ∧ (¬ (a1.toInt = 5)) ∧ (¬ (a1.toInt = 6)) ∧ (¬ (a1.toInt = 7)) ∧ (¬ (a1.toInt = 8)) ∧ (¬ (a1.toInt = 9)) ∧ (¬ (a1.toInt = 10)) ∧ (¬ (a1.toInt = 11)) ∧ (¬ (a1.toInt = 12)) ∧ (a1.toInt = 13) ∧ v = some (.int (-1000)) ∧ w' = wM r g iM1 aM1 lM1) ∨ ((¬ (a1.toInt = 0)) ∧ (¬ (a1.toInt = 1)) ∧ (¬ (a1.toInt = 2)) ∧ (¬ (a1.toInt = 3)) ∧ (¬ (a1.toInt = 4)) ∧ (¬ (a1.toInt = 5)) ∧ (¬ (a1.toInt = 6)) ∧ (¬ (a1.toInt = 7)) ∧ (¬ (a1.toInt = 8)) ∧ (¬ (a1.toInt = 9)) ∧ (¬ (a1.toInt = 10)) ∧ (¬ (a1.toInt = 11)) ∧ (¬ (a1.toInt = 12)) ∧ (¬ (a1.toInt = 13)) ∧ (a1.toInt = 14) ∧ v = some (.int 0) ∧ w' = wM r g iM1 aM1 lM1) ∨ ((¬ (a1.toInt = 0)) ∧ (¬ (a1.toInt = 1)) ∧ (¬ (a1.toInt = 2)) ∧ (¬ (a1.toInt = 3)) ∧ (¬ (a1.toInt = 4)) ∧ (¬ (a1.toInt = 5)) ∧ (¬ (a1.toInt = 6)) ∧ (¬ (a1.toInt = 7)) ∧ (¬ (a1.toInt = 8)) ∧ (¬ (a1.toInt = 9)) ∧ (¬ (a1.toInt = 10)) ∧ (¬ (a1.toInt = 11)) ∧ (¬ (a1.toInt = 12)) ∧ (¬ (a1.toInt = 13)) ∧ (¬ (a1.toInt = 14)) ∧ v = some (.int (-1)) ∧ w' = wM r g iM1 aM1 lM1)) 0 0 := by
  refine GM.of (cc := cX12_count) (maxL := 4) (ret := (some .int)) (own := RX12) (lv := [(0, .ref (r 0)), (1, .int a1)]) (by decide) rfl rfl (Nat.le_of_ble_eq_true rfl) rfl (fun κ sz hk hR hN => ?_)
  have hin12 : ∀ w ∈ u_ws RX12 TX12 55, w ∈ wsX12_count := by decide +kernel
  refine g_iconst (v := 0) hk dX12_count_0 (by decide) ?_
  refine g_istore_n (lv' := [(2, .int 0), (0, .ref (r 0)), (1, .int a1)]) hk dX12_count_1 (by decide) rfl ?_
  refine g_iload_n hk dX12_count_2 rfl ?_
  by_cases c543 : a1.toInt = 0
  · refine g_tabIn (tgt := 76) (a := 0) hk dX12_count_3 c543 (by decide) (by decide) rfl (by decide) ?_
    refine g_aload_n hk dX12_count_76 rfl ?_
    refine gM_r0_35 hk hin12 (by decide +kernel) dX12_count_77 ?_
    refine g_iconst (v := 0) hk dX12_count_80 (by decide) ?_
    refine lM_17 (v := 0) hk (vp_in_iff.mpr ⟨by decide, by decide⟩) rfl dX12_count_81 ?_
    exact g_iret hk hR rfl (Or.inl ⟨c543, rfl, rfl⟩) dX12_count_82
  by_cases c544 : a1.toInt = 1
  · refine g_tabIn (tgt := 83) (a := 1) hk dX12_count_3 c544 (by decide) (by decide) rfl (by decide) ?_
    refine g_aload_n hk dX12_count_83 rfl ?_
    refine g_callV hk (m196_X12_gaps l D zt g r) (SP.same _) (fun _ h => h) gX12_count_X12_gaps rfl rfl rfl (by decide +kernel) ⟨Nat.le_of_ble_eq_true rfl, Nat.le_of_ble_eq_true rfl⟩ 0 rfl rfl rfl rfl (Nat.le_of_ble_eq_true rfl) ⟨Nat.le_of_ble_eq_true rfl, Nat.le_of_ble_eq_true rfl⟩ dX12_count_84 (fun v ty' w' hp hk' => ?_)
    obtain ⟨rfl, rfl⟩ := hp
    show GW κ 4 0 0 (wM r g iM1 aM1 lM1) 87 [(2, .int 0), (0, .ref (r 0)), (1, .int a1)] [.int 0]
    exact g_iret hk hR rfl (Or.inr (Or.inl ⟨c543, c544, rfl, rfl⟩)) dX12_count_87
  by_cases c545 : a1.toInt = 2
  · refine g_tabIn (tgt := 88) (a := 2) hk dX12_count_3 c545 (by decide) (by decide) rfl (by decide) ?_
    refine g_aload_n hk dX12_count_88 rfl ?_
    refine gM_r0_28 hk hin12 (by decide +kernel) dX12_count_89 ?_
    refine g_aload_n hk dX12_count_92 rfl ?_
    refine gM_i15 (v := 0) hk hin12 (by decide +kernel) dX12_count_93 rfl ?_
    refine lM_10 (v := 0) hk (vp_in_iff.mpr ⟨by decide, by decide⟩) rfl dX12_count_96 ?_
    exact g_iret hk hR rfl (Or.inr (Or.inr (Or.inl ⟨c543, c544, c545, rfl, rfl⟩))) dX12_count_97
  by_cases c546 : a1.toInt = 3
  · refine g_tabIn (tgt := 98) (a := 3) hk dX12_count_3 c546 (by decide) (by decide) rfl (by decide) ?_
    refine g_aload_n hk dX12_count_98 rfl ?_
    refine gM_r0_35 hk hin12 (by decide +kernel) dX12_count_99 ?_
    refine g_sipush (v := 161) hk dX12_count_102 (by decide) ?_
    refine lM_17 (v := 2) hk (vp_in_iff.mpr ⟨by decide, by decide⟩) rfl dX12_count_105 ?_
    exact g_iret hk hR rfl (Or.inr (Or.inr (Or.inr (Or.inl ⟨c543, c544, c545, c546, rfl, rfl⟩)))) dX12_count_106
  by_cases c547 : a1.toInt = 4
  · refine g_tabIn (tgt := 107) (a := 4) hk dX12_count_3 c547 (by decide) (by decide) rfl (by decide) ?_
    refine g_aload_n hk dX12_count_107 rfl ?_
    refine gM_r0_35 hk hin12 (by decide +kernel) dX12_count_108 ?_
    refine g_sipush (v := 162) hk dX12_count_111 (by decide) ?_
    refine lM_17 (v := 0) hk (vp_in_iff.mpr ⟨by decide, by decide⟩) rfl dX12_count_114 ?_
    exact g_iret hk hR rfl (Or.inr (Or.inr (Or.inr (Or.inr (Or.inl ⟨c543, c544, c545, c546, c547, rfl, rfl⟩))))) dX12_count_115
  by_cases c548 : a1.toInt = 5
  · refine g_tabIn (tgt := 116) (a := 5) hk dX12_count_3 c548 (by decide) (by decide) rfl (by decide) ?_
    refine g_aload_n hk dX12_count_116 rfl ?_
    refine gM_r0_35 hk hin12 (by decide +kernel) dX12_count_117 ?_
    refine g_sipush (v := 163) hk dX12_count_120 (by decide) ?_
    refine lM_17 (v := 0) hk (vp_in_iff.mpr ⟨by decide, by decide⟩) rfl dX12_count_123 ?_
    exact g_iret hk hR rfl (Or.inr (Or.inr (Or.inr (Or.inr (Or.inr (Or.inl ⟨c543, c544, c545, c546, c547, c548, rfl, rfl⟩)))))) dX12_count_124
  by_cases c549 : a1.toInt = 6
  · refine g_tabIn (tgt := 125) (a := 6) hk dX12_count_3 c549 (by decide) (by decide) rfl (by decide) ?_
    refine g_aload_n hk dX12_count_125 rfl ?_
    refine gM_r0_35 hk hin12 (by decide +kernel) dX12_count_126 ?_
    refine g_sipush (v := 164) hk dX12_count_129 (by decide) ?_
    refine lM_17 (v := 8) hk (vp_in_iff.mpr ⟨by decide, by decide⟩) rfl dX12_count_132 ?_
    exact g_iret hk hR rfl (Or.inr (Or.inr (Or.inr (Or.inr (Or.inr (Or.inr (Or.inl ⟨c543, c544, c545, c546, c547, c548, c549, rfl, rfl⟩))))))) dX12_count_133
  by_cases c550 : a1.toInt = 7
  · refine g_tabIn (tgt := 134) (a := 7) hk dX12_count_3 c550 (by decide) (by decide) rfl (by decide) ?_
    refine g_aload_n hk dX12_count_134 rfl ?_
    refine g_aload_n hk dX12_count_135 rfl ?_
    refine gM_r0_35 hk hin12 (by decide +kernel) dX12_count_136 ?_
    refine g_iconst (v := 0) hk dX12_count_139 (by decide) ?_
    refine lM_17 (v := 0) hk (vp_in_iff.mpr ⟨by decide, by decide⟩) rfl dX12_count_140 ?_
    refine g_iconst (v := 1) hk dX12_count_141 (by decide) ?_
    refine g_isub hk dX12_count_142 ?_
    refine g_norm (v := (-1)) (by decide) ?_
    refine g_iload_n hk dX12_count_143 rfl ?_
    refine g_isub hk dX12_count_144 ?_
    refine g_norm (v := (-1)) (by decide) ?_
    refine g_callV hk (m199_X12_isThere l D zt g r) (SP.same _) (fun _ h => h) gX12_count_X12_isThere rfl rfl rfl (by decide +kernel) ⟨Nat.le_of_ble_eq_true rfl, Nat.le_of_ble_eq_true rfl⟩ 0 rfl rfl rfl rfl (Nat.le_of_ble_eq_true rfl) ⟨Nat.le_of_ble_eq_true rfl, Nat.le_of_ble_eq_true rfl⟩ dX12_count_145 (fun v ty' w' hp hk' => ?_)
    obtain ⟨rfl, rfl⟩ := hp
    show GW κ 4 0 0 (wM r g iM1 aM1 lM1) 148 [(2, .int 0), (0, .ref (r 0)), (1, .int a1)] [.int 0]
    refine g_if_eq (tgt := 157) (a := 0) hk dX12_count_148 (by decide) rfl (fun _ => ?_) (fun z9 => absurd (show 0 = 0 from by decide) z9)
    refine g_iload_n hk dX12_count_157 rfl ?_
    exact g_iret hk hR rfl (Or.inr (Or.inr (Or.inr (Or.inr (Or.inr (Or.inr (Or.inr (Or.inl ⟨c543, c544, c545, c546, c547, c548, c549, c550, rfl, rfl⟩)))))))) dX12_count_158
  by_cases c551 : a1.toInt = 8
  · refine g_tabIn (tgt := 159) (a := 8) hk dX12_count_3 c551 (by decide) (by decide) rfl (by decide) ?_
    refine g_aload_n hk dX12_count_159 rfl ?_
    refine gM_i1 (v := 0) hk hin12 (by decide +kernel) dX12_count_160 rfl ?_
    exact g_iret hk hR rfl (Or.inr (Or.inr (Or.inr (Or.inr (Or.inr (Or.inr (Or.inr (Or.inr (Or.inl ⟨c543, c544, c545, c546, c547, c548, c549, c550, c551, rfl, rfl⟩))))))))) dX12_count_163
  by_cases c552 : a1.toInt = 9
  · refine g_tabIn (tgt := 164) (a := 9) hk dX12_count_3 c552 (by decide) (by decide) rfl (by decide) ?_
    refine g_aload_n hk dX12_count_164 rfl ?_
    refine gM_i22 (v := 0) hk hin12 (by decide +kernel) dX12_count_165 rfl ?_
    exact g_iret hk hR rfl (Or.inr (Or.inr (Or.inr (Or.inr (Or.inr (Or.inr (Or.inr (Or.inr (Or.inr (Or.inl ⟨c543, c544, c545, c546, c547, c548, c549, c550, c551, c552, rfl, rfl⟩)))))))))) dX12_count_168
  by_cases c553 : a1.toInt = 10
  · refine g_tabIn (tgt := 169) (a := 10) hk dX12_count_3 c553 (by decide) (by decide) rfl (by decide) ?_
    refine g_iconst (v := 0) hk dX12_count_169 (by decide) ?_
    refine g_istore_n (lv' := [(3, .int 0), (2, .int 0), (0, .ref (r 0)), (1, .int a1)]) hk dX12_count_170 (by decide) rfl ?_
    refine g_iload_n hk dX12_count_171 rfl ?_
    refine g_aload_n hk dX12_count_172 rfl ?_
    refine gM_r0_35 hk hin12 (by decide +kernel) dX12_count_173 ?_
    refine g_iconst (v := 0) hk dX12_count_176 (by decide) ?_
    refine lM_17 (v := 0) hk (vp_in_iff.mpr ⟨by decide, by decide⟩) rfl dX12_count_177 ?_
    refine g_icmp_ge (tgt := 206) (a := 0) (b := 0) hk dX12_count_178 (by decide) rfl rfl (fun _ => ?_) (fun z9 => absurd (show 0 ≤ 0 from by decide) z9)
    refine g_iload_n hk dX12_count_206 rfl ?_
    exact g_iret hk hR rfl (Or.inr (Or.inr (Or.inr (Or.inr (Or.inr (Or.inr (Or.inr (Or.inr (Or.inr (Or.inr (Or.inl ⟨c543, c544, c545, c546, c547, c548, c549, c550, c551, c552, c553, rfl, rfl⟩))))))))))) dX12_count_207
  by_cases c554 : a1.toInt = 11
  · refine g_tabIn (tgt := 208) (a := 11) hk dX12_count_3 c554 (by decide) (by decide) rfl (by decide) ?_
    refine g_aload_n hk dX12_count_208 rfl ?_
    refine gM_r0_53 hk hin12 (by decide +kernel) dX12_count_209 ?_
    refine g_iconst (v := 0) hk dX12_count_212 (by decide) ?_
    refine lM_27 (v := 0) hk (vp_in_iff.mpr ⟨by decide, by decide⟩) rfl dX12_count_213 ?_
    refine g_if_eq (tgt := 221) (a := 0) hk dX12_count_214 (by decide) rfl (fun _ => ?_) (fun z9 => absurd (show 0 = 0 from by decide) z9)
    refine g_iconst (v := 0) hk dX12_count_221 (by decide) ?_
    refine g_aload_n hk dX12_count_222 rfl ?_
    refine gM_r0_53 hk hin12 (by decide +kernel) dX12_count_223 ?_
    refine g_iconst (v := 1) hk dX12_count_226 (by decide) ?_
    refine lM_27 (v := 0) hk (vp_in_iff.mpr ⟨by decide, by decide⟩) rfl dX12_count_227 ?_
    refine g_if_eq (tgt := 235) (a := 0) hk dX12_count_228 (by decide) rfl (fun _ => ?_) (fun z9 => absurd (show 0 = 0 from by decide) z9)
    refine g_iconst (v := 0) hk dX12_count_235 (by decide) ?_
    refine g_iadd hk dX12_count_236 ?_
    refine g_norm (v := 0) (by decide) ?_
    refine g_aload_n hk dX12_count_237 rfl ?_
    refine gM_r0_53 hk hin12 (by decide +kernel) dX12_count_238 ?_
    refine g_iconst (v := 2) hk dX12_count_241 (by decide) ?_
    refine lM_27 (v := 0) hk (vp_in_iff.mpr ⟨by decide, by decide⟩) rfl dX12_count_242 ?_
    refine g_if_eq (tgt := 250) (a := 0) hk dX12_count_243 (by decide) rfl (fun _ => ?_) (fun z9 => absurd (show 0 = 0 from by decide) z9)
    refine g_iconst (v := 0) hk dX12_count_250 (by decide) ?_
    refine g_iadd hk dX12_count_251 ?_
    refine g_norm (v := 0) (by decide) ?_
    exact g_iret hk hR rfl (Or.inr (Or.inr (Or.inr (Or.inr (Or.inr (Or.inr (Or.inr (Or.inr (Or.inr (Or.inr (Or.inr (Or.inl ⟨c543, c544, c545, c546, c547, c548, c549, c550, c551, c552, c553, c554, rfl, rfl⟩)))))))))))) dX12_count_252
  by_cases c555 : a1.toInt = 12
  · refine g_tabIn (tgt := 253) (a := 12) hk dX12_count_3 c555 (by decide) (by decide) rfl (by decide) ?_
    refine g_sipush (v := (-1000)) hk dX12_count_253 (by decide) ?_
    refine g_istore_n (lv' := [(2, .int (-1000)), (0, .ref (r 0)), (1, .int a1)]) hk dX12_count_256 (by decide) rfl ?_
    refine g_iconst (v := 0) hk dX12_count_257 (by decide) ?_
    refine g_istore_n (lv' := [(3, .int 0), (2, .int (-1000)), (0, .ref (r 0)), (1, .int a1)]) hk dX12_count_258 (by decide) rfl ?_
    refine g_iload_n hk dX12_count_259 rfl ?_
    refine g_aload_n hk dX12_count_260 rfl ?_
    refine gM_r0_35 hk hin12 (by decide +kernel) dX12_count_261 ?_
    refine g_iconst (v := 0) hk dX12_count_264 (by decide) ?_
    refine lM_17 (v := 0) hk (vp_in_iff.mpr ⟨by decide, by decide⟩) rfl dX12_count_265 ?_
    refine g_icmp_ge (tgt := 304) (a := 0) (b := 0) hk dX12_count_266 (by decide) rfl rfl (fun _ => ?_) (fun z9 => absurd (show 0 ≤ 0 from by decide) z9)
    refine g_iload_n hk dX12_count_304 rfl ?_
    exact g_iret hk hR rfl (Or.inr (Or.inr (Or.inr (Or.inr (Or.inr (Or.inr (Or.inr (Or.inr (Or.inr (Or.inr (Or.inr (Or.inr (Or.inl ⟨c543, c544, c545, c546, c547, c548, c549, c550, c551, c552, c553, c554, c555, rfl, rfl⟩))))))))))))) dX12_count_305
  by_cases c556 : a1.toInt = 13
  · refine g_tabIn (tgt := 306) (a := 13) hk dX12_count_3 c556 (by decide) (by decide) rfl (by decide) ?_
    refine g_ldc (v := 100000) hk (by decide +kernel) dX12_count_306 ?_
    refine g_istore_n (lv' := [(2, .int 100000), (0, .ref (r 0)), (1, .int a1)]) hk dX12_count_308 (by decide) rfl ?_
    refine g_iconst (v := 0) hk dX12_count_309 (by decide) ?_
    refine g_istore_n (lv' := [(3, .int 0), (2, .int 100000), (0, .ref (r 0)), (1, .int a1)]) hk dX12_count_310 (by decide) rfl ?_
    refine g_iload_n hk dX12_count_311 rfl ?_
    refine g_aload_n hk dX12_count_312 rfl ?_
    refine gM_r0_35 hk hin12 (by decide +kernel) dX12_count_313 ?_
    refine g_iconst (v := 0) hk dX12_count_316 (by decide) ?_
    refine lM_17 (v := 0) hk (vp_in_iff.mpr ⟨by decide, by decide⟩) rfl dX12_count_317 ?_
    refine g_icmp_ge (tgt := 348) (a := 0) (b := 0) hk dX12_count_318 (by decide) rfl rfl (fun _ => ?_) (fun z9 => absurd (show 0 ≤ 0 from by decide) z9)
    refine g_iload_n hk dX12_count_348 rfl ?_
    refine g_ldc (v := 100000) hk (by decide +kernel) dX12_count_349 ?_
    refine g_icmp_ne (tgt := 360) (a := 100000) (b := 100000) hk dX12_count_351 (by decide) rfl rfl (fun z9 => absurd z9 (show ¬ (100000 ≠ 100000) from by decide)) (fun _ => ?_)
    refine g_sipush (v := (-1000)) hk dX12_count_354 (by decide) ?_
    refine g_goto (tgt := 361) hk dX12_count_357 (by decide) ?_
    exact g_iret hk hR rfl (Or.inr (Or.inr (Or.inr (Or.inr (Or.inr (Or.inr (Or.inr (Or.inr (Or.inr (Or.inr (Or.inr (Or.inr (Or.inr (Or.inl ⟨c543, c544, c545, c546, c547, c548, c549, c550, c551, c552, c553, c554, c555, c556, rfl, rfl⟩)))))))))))))) dX12_count_361
  by_cases c557 : a1.toInt = 14
  · refine g_tabIn (tgt := 362) (a := 14) hk dX12_count_3 c557 (by decide) (by decide) rfl (by decide) ?_
    refine g_aload_n hk dX12_count_362 rfl ?_
    refine g_iload_n hk dX12_count_363 rfl ?_
    refine g_callV hk (m202_X12_isThere l D zt g r) (SP.same _) (fun _ h => h) gX12_count_X12_isThere rfl rfl rfl (by decide +kernel) ⟨Nat.le_of_ble_eq_true rfl, Nat.le_of_ble_eq_true rfl⟩ 0 rfl rfl rfl rfl (Nat.le_of_ble_eq_true rfl) ⟨Nat.le_of_ble_eq_true rfl, Nat.le_of_ble_eq_true rfl⟩ dX12_count_364 (fun v ty' w' hp hk' => ?_)
    obtain ⟨rfl, rfl⟩ := hp
    show GW κ 4 0 0 (wM r g iM1 aM1 lM1) 367 [(2, .int 0), (0, .ref (r 0)), (1, .int a1)] [.int 0]
    refine g_if_eq (tgt := 376) (a := 0) hk dX12_count_367 (by decide) rfl (fun _ => ?_) (fun z9 => absurd (show 0 = 0 from by decide) z9)
    refine g_iload_n hk dX12_count_376 rfl ?_
    exact g_iret hk hR rfl (Or.inr (Or.inr (Or.inr (Or.inr (Or.inr (Or.inr (Or.inr (Or.inr (Or.inr (Or.inr (Or.inr (Or.inr (Or.inr (Or.inr (Or.inl ⟨c543, c544, c545, c546, c547, c548, c549, c550, c551, c552, c553, c554, c555, c556, c557, rfl, rfl⟩))))))))))))))) dX12_count_377
  refine g_tabOut (tgt := 378) (a := a1.toInt) hk dX12_count_3 rfl (by omega) (by decide) ?_
  refine g_iconst (v := (-1)) hk dX12_count_378 (by decide) ?_
  exact g_iret hk hR rfl (Or.inr (Or.inr (Or.inr (Or.inr (Or.inr (Or.inr (Or.inr (Or.inr (Or.inr (Or.inr (Or.inr (Or.inr (Or.inr (Or.inr (Or.inr (⟨c543, c544, c545, c546, c547, c548, c549, c550, c551, c552, c553, c554, c555, c556, c557, rfl, rfl⟩)))))))))))))))) dX12_count_379
set_option maxHeartbeats 4000000 in
set_option maxRecDepth 100000 in
theorem m204_X10_addFour (l : Launch) (D : va_G) (zt : Nat × Nat × Nat) (d : Nat → ClassId) (q : Nat → Nat) (a1 : Int32) : GM l D zt (tyX d) yX10_addFour wsX10_addFour ({ frames := 0, cells := 0, slots := 0, locals := 0 } : Room) [.ref (q 1), .int a1] (wX q d iX0 aX0) (fun v _ w' => ∃ (y559 : Int32), ∃ (y561 : Int32), ∃ (y563 : Int32), ∃ (y565 : Int32), v = none ∧ w' = wX q d (upd (upd (upd (upd iX0 0 1) 0 2) 0 3) 0 4) (up3 (up3 (up3 (up3 aX0 0 0 y559) 0 1 y561) 0 2 y563) 0 3 y565)) 0 0 := by
  refine GM.of (cc := cX10_addFour) (maxL := 3) (ret := none) (own := RX10) (lv := [(0, .ref (q 1)), (1, .int a1)]) (by decide) rfl rfl (Nat.le_of_ble_eq_true rfl) rfl (fun κ sz hk hR hN => ?_)
  have hin10 : ∀ w ∈ u_ws RX10 TX10 7, w ∈ wsX10_addFour := by decide +kernel
  refine g_bipush (v := 24) hk dX10_addFour_0 (by decide) ?_
  refine g_istore_n (lv' := [(2, .int 24), (0, .ref (q 1)), (1, .int a1)]) hk dX10_addFour_2 (by decide) rfl ?_
  refine g_iload_n hk dX10_addFour_3 rfl ?_
  refine g_if_lt (tgt := 58) (a := 24) hk dX10_addFour_4 (by decide) rfl (fun z9 => absurd z9 (show ¬ (24 < 0) from by decide)) (fun _ => ?_)
  refine g_aload_n hk dX10_addFour_7 rfl ?_
  refine gX_i0 (v := 0) hk hin10 (by decide +kernel) dX10_addFour_8 rfl ?_
  refine g_if_lt (tgt := 52) (a := 0) hk dX10_addFour_11 (by decide) rfl (fun z9 => absurd z9 (show ¬ (0 < 0) from by decide)) (fun _ => ?_)
  refine g_aload_n hk dX10_addFour_14 rfl ?_
  refine gX_i0 (v := 0) hk hin10 (by decide +kernel) dX10_addFour_15 rfl ?_
  refine g_aload_n hk dX10_addFour_18 rfl ?_
  refine gX_r1_0 hk hin10 (by decide +kernel) dX10_addFour_19 ?_
  refine nX_0 hk dX10_addFour_22 ?_
  refine g_icmp_ge (tgt := 52) (a := 0) (b := 2000) hk dX10_addFour_23 (by decide) rfl rfl (fun z9 => absurd z9 (show ¬ (2000 ≤ 0) from by decide)) (fun _ => ?_)
  refine g_aload_n hk dX10_addFour_26 rfl ?_
  refine gX_r1_0 hk hin10 (by decide +kernel) dX10_addFour_27 ?_
  refine g_aload_n hk dX10_addFour_30 rfl ?_
  refine gX_i0 (v := 0) hk hin10 (by decide +kernel) dX10_addFour_31 rfl ?_
  refine g_iload_n hk dX10_addFour_34 rfl ?_
  refine g_iload_n hk dX10_addFour_35 rfl ?_
  refine g_iushr hk dX10_addFour_36 rfl ?_
  refine g_topi (fun y558 ey558 => ?_)
  refine g_sipush (v := 255) hk dX10_addFour_37 (by decide) ?_
  refine g_iand hk dX10_addFour_40 ?_
  refine g_topi (fun y559 ey559 => ?_)
  refine sX_0 (j := 0) hk (vp_in_iff.mpr ⟨by decide, by decide⟩) (by decide) dX10_addFour_41 ?_
  refine g_aload_n hk dX10_addFour_42 rfl ?_
  refine g_dup hk dX10_addFour_43 rfl ?_
  refine gX_i0 (v := 0) hk hin10 (by decide +kernel) dX10_addFour_44 rfl ?_
  refine g_iconst (v := 1) hk dX10_addFour_47 (by decide) ?_
  refine g_iadd hk dX10_addFour_48 ?_
  refine g_norm (v := 1) (by decide) ?_
  refine pX_i0 hk hin10 (by decide +kernel) dX10_addFour_49 ?_
  refine g_iinc (v := 16) (lv' := [(2, .int 16), (0, .ref (q 1)), (1, .int a1)]) hk 0 dX10_addFour_52 rfl (by decide) (by decide) rfl ?_
  refine g_goto (tgt := 3) hk dX10_addFour_55 (by decide) ?_
  refine g_iload_n hk dX10_addFour_3 rfl ?_
  refine g_if_lt (tgt := 58) (a := 16) hk dX10_addFour_4 (by decide) rfl (fun z9 => absurd z9 (show ¬ (16 < 0) from by decide)) (fun _ => ?_)
  refine g_aload_n hk dX10_addFour_7 rfl ?_
  refine gX_i0 (v := 1) hk hin10 (by decide +kernel) dX10_addFour_8 rfl ?_
  refine g_if_lt (tgt := 52) (a := 1) hk dX10_addFour_11 (by decide) rfl (fun z9 => absurd z9 (show ¬ (1 < 0) from by decide)) (fun _ => ?_)
  refine g_aload_n hk dX10_addFour_14 rfl ?_
  refine gX_i0 (v := 1) hk hin10 (by decide +kernel) dX10_addFour_15 rfl ?_
  refine g_aload_n hk dX10_addFour_18 rfl ?_
  refine gX_r1_0 hk hin10 (by decide +kernel) dX10_addFour_19 ?_
  refine nX_0 hk dX10_addFour_22 ?_
  refine g_icmp_ge (tgt := 52) (a := 1) (b := 2000) hk dX10_addFour_23 (by decide) rfl rfl (fun z9 => absurd z9 (show ¬ (2000 ≤ 1) from by decide)) (fun _ => ?_)
  refine g_aload_n hk dX10_addFour_26 rfl ?_
  refine gX_r1_0 hk hin10 (by decide +kernel) dX10_addFour_27 ?_
  refine g_aload_n hk dX10_addFour_30 rfl ?_
  refine gX_i0 (v := 1) hk hin10 (by decide +kernel) dX10_addFour_31 rfl ?_
  refine g_iload_n hk dX10_addFour_34 rfl ?_
  refine g_iload_n hk dX10_addFour_35 rfl ?_
  refine g_iushr hk dX10_addFour_36 rfl ?_
  refine g_topi (fun y560 ey560 => ?_)
  refine g_sipush (v := 255) hk dX10_addFour_37 (by decide) ?_
  refine g_iand hk dX10_addFour_40 ?_
  refine g_topi (fun y561 ey561 => ?_)
  refine sX_0 (j := 1) hk (vp_in_iff.mpr ⟨by decide, by decide⟩) (by decide) dX10_addFour_41 ?_
  refine g_aload_n hk dX10_addFour_42 rfl ?_
  refine g_dup hk dX10_addFour_43 rfl ?_
  refine gX_i0 (v := 1) hk hin10 (by decide +kernel) dX10_addFour_44 rfl ?_
  refine g_iconst (v := 1) hk dX10_addFour_47 (by decide) ?_
  refine g_iadd hk dX10_addFour_48 ?_
  refine g_norm (v := 2) (by decide) ?_
  refine pX_i0 hk hin10 (by decide +kernel) dX10_addFour_49 ?_
  refine g_iinc (v := 8) (lv' := [(2, .int 8), (0, .ref (q 1)), (1, .int a1)]) hk 0 dX10_addFour_52 rfl (by decide) (by decide) rfl ?_
  refine g_goto (tgt := 3) hk dX10_addFour_55 (by decide) ?_
  refine g_iload_n hk dX10_addFour_3 rfl ?_
  refine g_if_lt (tgt := 58) (a := 8) hk dX10_addFour_4 (by decide) rfl (fun z9 => absurd z9 (show ¬ (8 < 0) from by decide)) (fun _ => ?_)
  refine g_aload_n hk dX10_addFour_7 rfl ?_
  refine gX_i0 (v := 2) hk hin10 (by decide +kernel) dX10_addFour_8 rfl ?_
  refine g_if_lt (tgt := 52) (a := 2) hk dX10_addFour_11 (by decide) rfl (fun z9 => absurd z9 (show ¬ (2 < 0) from by decide)) (fun _ => ?_)
  refine g_aload_n hk dX10_addFour_14 rfl ?_
  refine gX_i0 (v := 2) hk hin10 (by decide +kernel) dX10_addFour_15 rfl ?_
  refine g_aload_n hk dX10_addFour_18 rfl ?_
  refine gX_r1_0 hk hin10 (by decide +kernel) dX10_addFour_19 ?_
  refine nX_0 hk dX10_addFour_22 ?_
  refine g_icmp_ge (tgt := 52) (a := 2) (b := 2000) hk dX10_addFour_23 (by decide) rfl rfl (fun z9 => absurd z9 (show ¬ (2000 ≤ 2) from by decide)) (fun _ => ?_)
  refine g_aload_n hk dX10_addFour_26 rfl ?_
  refine gX_r1_0 hk hin10 (by decide +kernel) dX10_addFour_27 ?_
  refine g_aload_n hk dX10_addFour_30 rfl ?_
  refine gX_i0 (v := 2) hk hin10 (by decide +kernel) dX10_addFour_31 rfl ?_
  refine g_iload_n hk dX10_addFour_34 rfl ?_
  refine g_iload_n hk dX10_addFour_35 rfl ?_
  refine g_iushr hk dX10_addFour_36 rfl ?_
  refine g_topi (fun y562 ey562 => ?_)
  refine g_sipush (v := 255) hk dX10_addFour_37 (by decide) ?_
  refine g_iand hk dX10_addFour_40 ?_
  refine g_topi (fun y563 ey563 => ?_)
  refine sX_0 (j := 2) hk (vp_in_iff.mpr ⟨by decide, by decide⟩) (by decide) dX10_addFour_41 ?_
  refine g_aload_n hk dX10_addFour_42 rfl ?_
  refine g_dup hk dX10_addFour_43 rfl ?_
  refine gX_i0 (v := 2) hk hin10 (by decide +kernel) dX10_addFour_44 rfl ?_
  refine g_iconst (v := 1) hk dX10_addFour_47 (by decide) ?_
  refine g_iadd hk dX10_addFour_48 ?_
  refine g_norm (v := 3) (by decide) ?_
  refine pX_i0 hk hin10 (by decide +kernel) dX10_addFour_49 ?_
  refine g_iinc (v := 0) (lv' := [(2, .int 0), (0, .ref (q 1)), (1, .int a1)]) hk 0 dX10_addFour_52 rfl (by decide) (by decide) rfl ?_
  refine g_goto (tgt := 3) hk dX10_addFour_55 (by decide) ?_
  refine g_iload_n hk dX10_addFour_3 rfl ?_
  refine g_if_lt (tgt := 58) (a := 0) hk dX10_addFour_4 (by decide) rfl (fun z9 => absurd z9 (show ¬ (0 < 0) from by decide)) (fun _ => ?_)
  refine g_aload_n hk dX10_addFour_7 rfl ?_
  refine gX_i0 (v := 3) hk hin10 (by decide +kernel) dX10_addFour_8 rfl ?_
  refine g_if_lt (tgt := 52) (a := 3) hk dX10_addFour_11 (by decide) rfl (fun z9 => absurd z9 (show ¬ (3 < 0) from by decide)) (fun _ => ?_)
  refine g_aload_n hk dX10_addFour_14 rfl ?_
  refine gX_i0 (v := 3) hk hin10 (by decide +kernel) dX10_addFour_15 rfl ?_
  refine g_aload_n hk dX10_addFour_18 rfl ?_
  refine gX_r1_0 hk hin10 (by decide +kernel) dX10_addFour_19 ?_
  refine nX_0 hk dX10_addFour_22 ?_
  refine g_icmp_ge (tgt := 52) (a := 3) (b := 2000) hk dX10_addFour_23 (by decide) rfl rfl (fun z9 => absurd z9 (show ¬ (2000 ≤ 3) from by decide)) (fun _ => ?_)
  refine g_aload_n hk dX10_addFour_26 rfl ?_
  refine gX_r1_0 hk hin10 (by decide +kernel) dX10_addFour_27 ?_
  refine g_aload_n hk dX10_addFour_30 rfl ?_
  refine gX_i0 (v := 3) hk hin10 (by decide +kernel) dX10_addFour_31 rfl ?_
  refine g_iload_n hk dX10_addFour_34 rfl ?_
  refine g_iload_n hk dX10_addFour_35 rfl ?_
  refine g_iushr hk dX10_addFour_36 rfl ?_
  refine g_topi (fun y564 ey564 => ?_)
  refine g_sipush (v := 255) hk dX10_addFour_37 (by decide) ?_
  refine g_iand hk dX10_addFour_40 ?_
  refine g_topi (fun y565 ey565 => ?_)
  refine sX_0 (j := 3) hk (vp_in_iff.mpr ⟨by decide, by decide⟩) (by decide) dX10_addFour_41 ?_
  refine g_aload_n hk dX10_addFour_42 rfl ?_
  refine g_dup hk dX10_addFour_43 rfl ?_
  refine gX_i0 (v := 3) hk hin10 (by decide +kernel) dX10_addFour_44 rfl ?_
  refine g_iconst (v := 1) hk dX10_addFour_47 (by decide) ?_
  refine g_iadd hk dX10_addFour_48 ?_
  refine g_norm (v := 4) (by decide) ?_
  refine pX_i0 hk hin10 (by decide +kernel) dX10_addFour_49 ?_
  refine g_iinc (v := (-8)) (lv' := [(2, .int (-8)), (0, .ref (q 1)), (1, .int a1)]) hk 0 dX10_addFour_52 rfl (by decide) (by decide) rfl ?_
  refine g_goto (tgt := 3) hk dX10_addFour_55 (by decide) ?_
  refine g_iload_n hk dX10_addFour_3 rfl ?_
  refine g_if_lt (tgt := 58) (a := (-8)) hk dX10_addFour_4 (by decide) rfl (fun _ => ?_) (fun z9 => absurd (show (-8) < 0 from by decide) z9)
  exact g_vret hk hR ⟨y559, y561, y563, y565, rfl, rfl⟩ dX10_addFour_58
set_option maxHeartbeats 4000000 in
set_option maxRecDepth 100000 in
theorem m205_X10_addFour (l : Launch) (D : va_G) (zt : Nat × Nat × Nat) (d : Nat → ClassId) (q : Nat → Nat) (y566 : Int32) (y567 : Int32) (y568 : Int32) (y569 : Int32) (a1 : Int32) : GM l D zt (tyX d) yX10_addFour wsX10_addFour ({ frames := 0, cells := 0, slots := 0, locals := 0 } : Room) [.ref (q 1), .int a1] (wX q d (upd (upd (upd (upd iX0 0 1) 0 2) 0 3) 0 4) (up3 (up3 (up3 (up3 aX0 0 0 y566) 0 1 y567) 0 2 y568) 0 3 y569)) (fun v _ w' => ∃ (y571 : Int32), ∃ (y573 : Int32), ∃ (y575 : Int32), ∃ (y577 : Int32), v = none ∧ w' = wX q d (upd (upd (upd (upd (upd (upd (upd (upd iX0 0 1) 0 2) 0 3) 0 4) 0 5) 0 6) 0 7) 0 8) (up3 (up3 (up3 (up3 (up3 (up3 (up3 (up3 aX0 0 0 y566) 0 1 y567) 0 2 y568) 0 3 y569) 0 4 y571) 0 5 y573) 0 6 y575) 0 7 y577)) 0 0 := by
  refine GM.of (cc := cX10_addFour) (maxL := 3) (ret := none) (own := RX10) (lv := [(0, .ref (q 1)), (1, .int a1)]) (by decide) rfl rfl (Nat.le_of_ble_eq_true rfl) rfl (fun κ sz hk hR hN => ?_)
  have hin10 : ∀ w ∈ u_ws RX10 TX10 7, w ∈ wsX10_addFour := by decide +kernel
  refine g_bipush (v := 24) hk dX10_addFour_0 (by decide) ?_
  refine g_istore_n (lv' := [(2, .int 24), (0, .ref (q 1)), (1, .int a1)]) hk dX10_addFour_2 (by decide) rfl ?_
  refine g_iload_n hk dX10_addFour_3 rfl ?_
  refine g_if_lt (tgt := 58) (a := 24) hk dX10_addFour_4 (by decide) rfl (fun z9 => absurd z9 (show ¬ (24 < 0) from by decide)) (fun _ => ?_)
  refine g_aload_n hk dX10_addFour_7 rfl ?_
  refine gX_i0 (v := 4) hk hin10 (by decide +kernel) dX10_addFour_8 rfl ?_
  refine g_if_lt (tgt := 52) (a := 4) hk dX10_addFour_11 (by decide) rfl (fun z9 => absurd z9 (show ¬ (4 < 0) from by decide)) (fun _ => ?_)
  refine g_aload_n hk dX10_addFour_14 rfl ?_
  refine gX_i0 (v := 4) hk hin10 (by decide +kernel) dX10_addFour_15 rfl ?_
  refine g_aload_n hk dX10_addFour_18 rfl ?_
  refine gX_r1_0 hk hin10 (by decide +kernel) dX10_addFour_19 ?_
  refine nX_0 hk dX10_addFour_22 ?_
  refine g_icmp_ge (tgt := 52) (a := 4) (b := 2000) hk dX10_addFour_23 (by decide) rfl rfl (fun z9 => absurd z9 (show ¬ (2000 ≤ 4) from by decide)) (fun _ => ?_)
  refine g_aload_n hk dX10_addFour_26 rfl ?_
  refine gX_r1_0 hk hin10 (by decide +kernel) dX10_addFour_27 ?_
  refine g_aload_n hk dX10_addFour_30 rfl ?_
  refine gX_i0 (v := 4) hk hin10 (by decide +kernel) dX10_addFour_31 rfl ?_
  refine g_iload_n hk dX10_addFour_34 rfl ?_
  refine g_iload_n hk dX10_addFour_35 rfl ?_
  refine g_iushr hk dX10_addFour_36 rfl ?_
  refine g_topi (fun y570 ey570 => ?_)
  refine g_sipush (v := 255) hk dX10_addFour_37 (by decide) ?_
  refine g_iand hk dX10_addFour_40 ?_
  refine g_topi (fun y571 ey571 => ?_)
  refine sX_0 (j := 4) hk (vp_in_iff.mpr ⟨by decide, by decide⟩) (by decide) dX10_addFour_41 ?_
  refine g_aload_n hk dX10_addFour_42 rfl ?_
  refine g_dup hk dX10_addFour_43 rfl ?_
  refine gX_i0 (v := 4) hk hin10 (by decide +kernel) dX10_addFour_44 rfl ?_
  refine g_iconst (v := 1) hk dX10_addFour_47 (by decide) ?_
  refine g_iadd hk dX10_addFour_48 ?_
  refine g_norm (v := 5) (by decide) ?_
  refine pX_i0 hk hin10 (by decide +kernel) dX10_addFour_49 ?_
  refine g_iinc (v := 16) (lv' := [(2, .int 16), (0, .ref (q 1)), (1, .int a1)]) hk 0 dX10_addFour_52 rfl (by decide) (by decide) rfl ?_
  refine g_goto (tgt := 3) hk dX10_addFour_55 (by decide) ?_
  refine g_iload_n hk dX10_addFour_3 rfl ?_
  refine g_if_lt (tgt := 58) (a := 16) hk dX10_addFour_4 (by decide) rfl (fun z9 => absurd z9 (show ¬ (16 < 0) from by decide)) (fun _ => ?_)
  refine g_aload_n hk dX10_addFour_7 rfl ?_
  refine gX_i0 (v := 5) hk hin10 (by decide +kernel) dX10_addFour_8 rfl ?_
  refine g_if_lt (tgt := 52) (a := 5) hk dX10_addFour_11 (by decide) rfl (fun z9 => absurd z9 (show ¬ (5 < 0) from by decide)) (fun _ => ?_)
  refine g_aload_n hk dX10_addFour_14 rfl ?_
  refine gX_i0 (v := 5) hk hin10 (by decide +kernel) dX10_addFour_15 rfl ?_
  refine g_aload_n hk dX10_addFour_18 rfl ?_
  refine gX_r1_0 hk hin10 (by decide +kernel) dX10_addFour_19 ?_
  refine nX_0 hk dX10_addFour_22 ?_
  refine g_icmp_ge (tgt := 52) (a := 5) (b := 2000) hk dX10_addFour_23 (by decide) rfl rfl (fun z9 => absurd z9 (show ¬ (2000 ≤ 5) from by decide)) (fun _ => ?_)
  refine g_aload_n hk dX10_addFour_26 rfl ?_
  refine gX_r1_0 hk hin10 (by decide +kernel) dX10_addFour_27 ?_
  refine g_aload_n hk dX10_addFour_30 rfl ?_
  refine gX_i0 (v := 5) hk hin10 (by decide +kernel) dX10_addFour_31 rfl ?_
  refine g_iload_n hk dX10_addFour_34 rfl ?_
  refine g_iload_n hk dX10_addFour_35 rfl ?_
  refine g_iushr hk dX10_addFour_36 rfl ?_
  refine g_topi (fun y572 ey572 => ?_)
  refine g_sipush (v := 255) hk dX10_addFour_37 (by decide) ?_
  refine g_iand hk dX10_addFour_40 ?_
  refine g_topi (fun y573 ey573 => ?_)
  refine sX_0 (j := 5) hk (vp_in_iff.mpr ⟨by decide, by decide⟩) (by decide) dX10_addFour_41 ?_
  refine g_aload_n hk dX10_addFour_42 rfl ?_
  refine g_dup hk dX10_addFour_43 rfl ?_
  refine gX_i0 (v := 5) hk hin10 (by decide +kernel) dX10_addFour_44 rfl ?_
  refine g_iconst (v := 1) hk dX10_addFour_47 (by decide) ?_
  refine g_iadd hk dX10_addFour_48 ?_
  refine g_norm (v := 6) (by decide) ?_
  refine pX_i0 hk hin10 (by decide +kernel) dX10_addFour_49 ?_
  refine g_iinc (v := 8) (lv' := [(2, .int 8), (0, .ref (q 1)), (1, .int a1)]) hk 0 dX10_addFour_52 rfl (by decide) (by decide) rfl ?_
  refine g_goto (tgt := 3) hk dX10_addFour_55 (by decide) ?_
  refine g_iload_n hk dX10_addFour_3 rfl ?_
  refine g_if_lt (tgt := 58) (a := 8) hk dX10_addFour_4 (by decide) rfl (fun z9 => absurd z9 (show ¬ (8 < 0) from by decide)) (fun _ => ?_)
  refine g_aload_n hk dX10_addFour_7 rfl ?_
  refine gX_i0 (v := 6) hk hin10 (by decide +kernel) dX10_addFour_8 rfl ?_
  refine g_if_lt (tgt := 52) (a := 6) hk dX10_addFour_11 (by decide) rfl (fun z9 => absurd z9 (show ¬ (6 < 0) from by decide)) (fun _ => ?_)
  refine g_aload_n hk dX10_addFour_14 rfl ?_
  refine gX_i0 (v := 6) hk hin10 (by decide +kernel) dX10_addFour_15 rfl ?_
  refine g_aload_n hk dX10_addFour_18 rfl ?_
  refine gX_r1_0 hk hin10 (by decide +kernel) dX10_addFour_19 ?_
  refine nX_0 hk dX10_addFour_22 ?_
  refine g_icmp_ge (tgt := 52) (a := 6) (b := 2000) hk dX10_addFour_23 (by decide) rfl rfl (fun z9 => absurd z9 (show ¬ (2000 ≤ 6) from by decide)) (fun _ => ?_)
  refine g_aload_n hk dX10_addFour_26 rfl ?_
  refine gX_r1_0 hk hin10 (by decide +kernel) dX10_addFour_27 ?_
  refine g_aload_n hk dX10_addFour_30 rfl ?_
  refine gX_i0 (v := 6) hk hin10 (by decide +kernel) dX10_addFour_31 rfl ?_
  refine g_iload_n hk dX10_addFour_34 rfl ?_
  refine g_iload_n hk dX10_addFour_35 rfl ?_
  refine g_iushr hk dX10_addFour_36 rfl ?_
  refine g_topi (fun y574 ey574 => ?_)
  refine g_sipush (v := 255) hk dX10_addFour_37 (by decide) ?_
  refine g_iand hk dX10_addFour_40 ?_
  refine g_topi (fun y575 ey575 => ?_)
  refine sX_0 (j := 6) hk (vp_in_iff.mpr ⟨by decide, by decide⟩) (by decide) dX10_addFour_41 ?_
  refine g_aload_n hk dX10_addFour_42 rfl ?_
  refine g_dup hk dX10_addFour_43 rfl ?_
  refine gX_i0 (v := 6) hk hin10 (by decide +kernel) dX10_addFour_44 rfl ?_
  refine g_iconst (v := 1) hk dX10_addFour_47 (by decide) ?_
  refine g_iadd hk dX10_addFour_48 ?_
  refine g_norm (v := 7) (by decide) ?_
  refine pX_i0 hk hin10 (by decide +kernel) dX10_addFour_49 ?_
  refine g_iinc (v := 0) (lv' := [(2, .int 0), (0, .ref (q 1)), (1, .int a1)]) hk 0 dX10_addFour_52 rfl (by decide) (by decide) rfl ?_
  refine g_goto (tgt := 3) hk dX10_addFour_55 (by decide) ?_
  refine g_iload_n hk dX10_addFour_3 rfl ?_
  refine g_if_lt (tgt := 58) (a := 0) hk dX10_addFour_4 (by decide) rfl (fun z9 => absurd z9 (show ¬ (0 < 0) from by decide)) (fun _ => ?_)
  refine g_aload_n hk dX10_addFour_7 rfl ?_
  refine gX_i0 (v := 7) hk hin10 (by decide +kernel) dX10_addFour_8 rfl ?_
  refine g_if_lt (tgt := 52) (a := 7) hk dX10_addFour_11 (by decide) rfl (fun z9 => absurd z9 (show ¬ (7 < 0) from by decide)) (fun _ => ?_)
  refine g_aload_n hk dX10_addFour_14 rfl ?_
  refine gX_i0 (v := 7) hk hin10 (by decide +kernel) dX10_addFour_15 rfl ?_
  refine g_aload_n hk dX10_addFour_18 rfl ?_
  refine gX_r1_0 hk hin10 (by decide +kernel) dX10_addFour_19 ?_
  refine nX_0 hk dX10_addFour_22 ?_
  refine g_icmp_ge (tgt := 52) (a := 7) (b := 2000) hk dX10_addFour_23 (by decide) rfl rfl (fun z9 => absurd z9 (show ¬ (2000 ≤ 7) from by decide)) (fun _ => ?_)
  refine g_aload_n hk dX10_addFour_26 rfl ?_
  refine gX_r1_0 hk hin10 (by decide +kernel) dX10_addFour_27 ?_
  refine g_aload_n hk dX10_addFour_30 rfl ?_
  refine gX_i0 (v := 7) hk hin10 (by decide +kernel) dX10_addFour_31 rfl ?_
  refine g_iload_n hk dX10_addFour_34 rfl ?_
  refine g_iload_n hk dX10_addFour_35 rfl ?_
  refine g_iushr hk dX10_addFour_36 rfl ?_
  refine g_topi (fun y576 ey576 => ?_)
  refine g_sipush (v := 255) hk dX10_addFour_37 (by decide) ?_
  refine g_iand hk dX10_addFour_40 ?_
  refine g_topi (fun y577 ey577 => ?_)
  refine sX_0 (j := 7) hk (vp_in_iff.mpr ⟨by decide, by decide⟩) (by decide) dX10_addFour_41 ?_
  refine g_aload_n hk dX10_addFour_42 rfl ?_
  refine g_dup hk dX10_addFour_43 rfl ?_
  refine gX_i0 (v := 7) hk hin10 (by decide +kernel) dX10_addFour_44 rfl ?_
  refine g_iconst (v := 1) hk dX10_addFour_47 (by decide) ?_
  refine g_iadd hk dX10_addFour_48 ?_
  refine g_norm (v := 8) (by decide) ?_
  refine pX_i0 hk hin10 (by decide +kernel) dX10_addFour_49 ?_
  refine g_iinc (v := (-8)) (lv' := [(2, .int (-8)), (0, .ref (q 1)), (1, .int a1)]) hk 0 dX10_addFour_52 rfl (by decide) (by decide) rfl ?_
  refine g_goto (tgt := 3) hk dX10_addFour_55 (by decide) ?_
  refine g_iload_n hk dX10_addFour_3 rfl ?_
  refine g_if_lt (tgt := 58) (a := (-8)) hk dX10_addFour_4 (by decide) rfl (fun _ => ?_) (fun z9 => absurd (show (-8) < 0 from by decide) z9)
  exact g_vret hk hR ⟨y571, y573, y575, y577, rfl, rfl⟩ dX10_addFour_58
set_option maxHeartbeats 4000000 in
set_option maxRecDepth 100000 in
theorem m206_X10_addFour (l : Launch) (D : va_G) (zt : Nat × Nat × Nat) (d : Nat → ClassId) (q : Nat → Nat) (y566 : Int32) (y567 : Int32) (y568 : Int32) (y569 : Int32) (y578 : Int32) (y579 : Int32) (y580 : Int32) (y581 : Int32) (a1 : Int32) : GM l D zt (tyX d) yX10_addFour wsX10_addFour ({ frames := 0, cells := 0, slots := 0, locals := 0 } : Room) [.ref (q 1), .int a1] (wX q d (upd (upd (upd (upd (upd (upd (upd (upd iX0 0 1) 0 2) 0 3) 0 4) 0 5) 0 6) 0 7) 0 8) (up3 (up3 (up3 (up3 (up3 (up3 (up3 (up3 aX0 0 0 y566) 0 1 y567) 0 2 y568) 0 3 y569) 0 4 y578) 0 5 y579) 0 6 y580) 0 7 y581)) (fun v _ w' => ∃ (y583 : Int32), ∃ (y585 : Int32), ∃ (y587 : Int32), ∃ (y589 : Int32), v = none ∧ w' = wX q d (upd (upd (upd (upd (upd (upd (upd (upd (upd (upd (upd (upd iX0 0 1) 0 2) 0 3) 0 4) 0 5) 0 6) 0 7) 0 8) 0 9) 0 10) 0 11) 0 12) (up3 (up3 (up3 (up3 (up3 (up3 (up3 (up3 (up3 (up3 (up3 (up3 aX0 0 0 y566) 0 1 y567) 0 2 y568) 0 3 y569) 0 4 y578) 0 5 y579) 0 6 y580) 0 7 y581) 0 8 y583) 0 9 y585) 0 10 y587) 0 11 y589)) 0 0 := by
  refine GM.of (cc := cX10_addFour) (maxL := 3) (ret := none) (own := RX10) (lv := [(0, .ref (q 1)), (1, .int a1)]) (by decide) rfl rfl (Nat.le_of_ble_eq_true rfl) rfl (fun κ sz hk hR hN => ?_)
  have hin10 : ∀ w ∈ u_ws RX10 TX10 7, w ∈ wsX10_addFour := by decide +kernel
  refine g_bipush (v := 24) hk dX10_addFour_0 (by decide) ?_
  refine g_istore_n (lv' := [(2, .int 24), (0, .ref (q 1)), (1, .int a1)]) hk dX10_addFour_2 (by decide) rfl ?_
  refine g_iload_n hk dX10_addFour_3 rfl ?_
  refine g_if_lt (tgt := 58) (a := 24) hk dX10_addFour_4 (by decide) rfl (fun z9 => absurd z9 (show ¬ (24 < 0) from by decide)) (fun _ => ?_)
  refine g_aload_n hk dX10_addFour_7 rfl ?_
  refine gX_i0 (v := 8) hk hin10 (by decide +kernel) dX10_addFour_8 rfl ?_
  refine g_if_lt (tgt := 52) (a := 8) hk dX10_addFour_11 (by decide) rfl (fun z9 => absurd z9 (show ¬ (8 < 0) from by decide)) (fun _ => ?_)
  refine g_aload_n hk dX10_addFour_14 rfl ?_
  refine gX_i0 (v := 8) hk hin10 (by decide +kernel) dX10_addFour_15 rfl ?_
  refine g_aload_n hk dX10_addFour_18 rfl ?_
  refine gX_r1_0 hk hin10 (by decide +kernel) dX10_addFour_19 ?_
  refine nX_0 hk dX10_addFour_22 ?_
  refine g_icmp_ge (tgt := 52) (a := 8) (b := 2000) hk dX10_addFour_23 (by decide) rfl rfl (fun z9 => absurd z9 (show ¬ (2000 ≤ 8) from by decide)) (fun _ => ?_)
  refine g_aload_n hk dX10_addFour_26 rfl ?_
  refine gX_r1_0 hk hin10 (by decide +kernel) dX10_addFour_27 ?_
  refine g_aload_n hk dX10_addFour_30 rfl ?_
  refine gX_i0 (v := 8) hk hin10 (by decide +kernel) dX10_addFour_31 rfl ?_
  refine g_iload_n hk dX10_addFour_34 rfl ?_
  refine g_iload_n hk dX10_addFour_35 rfl ?_
  refine g_iushr hk dX10_addFour_36 rfl ?_
  refine g_topi (fun y582 ey582 => ?_)
  refine g_sipush (v := 255) hk dX10_addFour_37 (by decide) ?_
  refine g_iand hk dX10_addFour_40 ?_
  refine g_topi (fun y583 ey583 => ?_)
  refine sX_0 (j := 8) hk (vp_in_iff.mpr ⟨by decide, by decide⟩) (by decide) dX10_addFour_41 ?_
  refine g_aload_n hk dX10_addFour_42 rfl ?_
  refine g_dup hk dX10_addFour_43 rfl ?_
  refine gX_i0 (v := 8) hk hin10 (by decide +kernel) dX10_addFour_44 rfl ?_
  refine g_iconst (v := 1) hk dX10_addFour_47 (by decide) ?_
  refine g_iadd hk dX10_addFour_48 ?_
  refine g_norm (v := 9) (by decide) ?_
  refine pX_i0 hk hin10 (by decide +kernel) dX10_addFour_49 ?_
  refine g_iinc (v := 16) (lv' := [(2, .int 16), (0, .ref (q 1)), (1, .int a1)]) hk 0 dX10_addFour_52 rfl (by decide) (by decide) rfl ?_
  refine g_goto (tgt := 3) hk dX10_addFour_55 (by decide) ?_
  refine g_iload_n hk dX10_addFour_3 rfl ?_
  refine g_if_lt (tgt := 58) (a := 16) hk dX10_addFour_4 (by decide) rfl (fun z9 => absurd z9 (show ¬ (16 < 0) from by decide)) (fun _ => ?_)
  refine g_aload_n hk dX10_addFour_7 rfl ?_
  refine gX_i0 (v := 9) hk hin10 (by decide +kernel) dX10_addFour_8 rfl ?_
  refine g_if_lt (tgt := 52) (a := 9) hk dX10_addFour_11 (by decide) rfl (fun z9 => absurd z9 (show ¬ (9 < 0) from by decide)) (fun _ => ?_)
  refine g_aload_n hk dX10_addFour_14 rfl ?_
  refine gX_i0 (v := 9) hk hin10 (by decide +kernel) dX10_addFour_15 rfl ?_
  refine g_aload_n hk dX10_addFour_18 rfl ?_
  refine gX_r1_0 hk hin10 (by decide +kernel) dX10_addFour_19 ?_
  refine nX_0 hk dX10_addFour_22 ?_
  refine g_icmp_ge (tgt := 52) (a := 9) (b := 2000) hk dX10_addFour_23 (by decide) rfl rfl (fun z9 => absurd z9 (show ¬ (2000 ≤ 9) from by decide)) (fun _ => ?_)
  refine g_aload_n hk dX10_addFour_26 rfl ?_
  refine gX_r1_0 hk hin10 (by decide +kernel) dX10_addFour_27 ?_
  refine g_aload_n hk dX10_addFour_30 rfl ?_
  refine gX_i0 (v := 9) hk hin10 (by decide +kernel) dX10_addFour_31 rfl ?_
  refine g_iload_n hk dX10_addFour_34 rfl ?_
  refine g_iload_n hk dX10_addFour_35 rfl ?_
  refine g_iushr hk dX10_addFour_36 rfl ?_
  refine g_topi (fun y584 ey584 => ?_)
  refine g_sipush (v := 255) hk dX10_addFour_37 (by decide) ?_
  refine g_iand hk dX10_addFour_40 ?_
  refine g_topi (fun y585 ey585 => ?_)
  refine sX_0 (j := 9) hk (vp_in_iff.mpr ⟨by decide, by decide⟩) (by decide) dX10_addFour_41 ?_
  refine g_aload_n hk dX10_addFour_42 rfl ?_
  refine g_dup hk dX10_addFour_43 rfl ?_
  refine gX_i0 (v := 9) hk hin10 (by decide +kernel) dX10_addFour_44 rfl ?_
  refine g_iconst (v := 1) hk dX10_addFour_47 (by decide) ?_
  refine g_iadd hk dX10_addFour_48 ?_
  refine g_norm (v := 10) (by decide) ?_
  refine pX_i0 hk hin10 (by decide +kernel) dX10_addFour_49 ?_
  refine g_iinc (v := 8) (lv' := [(2, .int 8), (0, .ref (q 1)), (1, .int a1)]) hk 0 dX10_addFour_52 rfl (by decide) (by decide) rfl ?_
  refine g_goto (tgt := 3) hk dX10_addFour_55 (by decide) ?_
  refine g_iload_n hk dX10_addFour_3 rfl ?_
  refine g_if_lt (tgt := 58) (a := 8) hk dX10_addFour_4 (by decide) rfl (fun z9 => absurd z9 (show ¬ (8 < 0) from by decide)) (fun _ => ?_)
  refine g_aload_n hk dX10_addFour_7 rfl ?_
  refine gX_i0 (v := 10) hk hin10 (by decide +kernel) dX10_addFour_8 rfl ?_
  refine g_if_lt (tgt := 52) (a := 10) hk dX10_addFour_11 (by decide) rfl (fun z9 => absurd z9 (show ¬ (10 < 0) from by decide)) (fun _ => ?_)
  refine g_aload_n hk dX10_addFour_14 rfl ?_
  refine gX_i0 (v := 10) hk hin10 (by decide +kernel) dX10_addFour_15 rfl ?_
  refine g_aload_n hk dX10_addFour_18 rfl ?_
  refine gX_r1_0 hk hin10 (by decide +kernel) dX10_addFour_19 ?_
  refine nX_0 hk dX10_addFour_22 ?_
  refine g_icmp_ge (tgt := 52) (a := 10) (b := 2000) hk dX10_addFour_23 (by decide) rfl rfl (fun z9 => absurd z9 (show ¬ (2000 ≤ 10) from by decide)) (fun _ => ?_)
  refine g_aload_n hk dX10_addFour_26 rfl ?_
  refine gX_r1_0 hk hin10 (by decide +kernel) dX10_addFour_27 ?_
  refine g_aload_n hk dX10_addFour_30 rfl ?_
  refine gX_i0 (v := 10) hk hin10 (by decide +kernel) dX10_addFour_31 rfl ?_
  refine g_iload_n hk dX10_addFour_34 rfl ?_
  refine g_iload_n hk dX10_addFour_35 rfl ?_
  refine g_iushr hk dX10_addFour_36 rfl ?_
  refine g_topi (fun y586 ey586 => ?_)
  refine g_sipush (v := 255) hk dX10_addFour_37 (by decide) ?_
  refine g_iand hk dX10_addFour_40 ?_
  refine g_topi (fun y587 ey587 => ?_)
  refine sX_0 (j := 10) hk (vp_in_iff.mpr ⟨by decide, by decide⟩) (by decide) dX10_addFour_41 ?_
  refine g_aload_n hk dX10_addFour_42 rfl ?_
  refine g_dup hk dX10_addFour_43 rfl ?_
  refine gX_i0 (v := 10) hk hin10 (by decide +kernel) dX10_addFour_44 rfl ?_
  refine g_iconst (v := 1) hk dX10_addFour_47 (by decide) ?_
  refine g_iadd hk dX10_addFour_48 ?_
  refine g_norm (v := 11) (by decide) ?_
  refine pX_i0 hk hin10 (by decide +kernel) dX10_addFour_49 ?_
  refine g_iinc (v := 0) (lv' := [(2, .int 0), (0, .ref (q 1)), (1, .int a1)]) hk 0 dX10_addFour_52 rfl (by decide) (by decide) rfl ?_
  refine g_goto (tgt := 3) hk dX10_addFour_55 (by decide) ?_
  refine g_iload_n hk dX10_addFour_3 rfl ?_
  refine g_if_lt (tgt := 58) (a := 0) hk dX10_addFour_4 (by decide) rfl (fun z9 => absurd z9 (show ¬ (0 < 0) from by decide)) (fun _ => ?_)
  refine g_aload_n hk dX10_addFour_7 rfl ?_
  refine gX_i0 (v := 11) hk hin10 (by decide +kernel) dX10_addFour_8 rfl ?_
  refine g_if_lt (tgt := 52) (a := 11) hk dX10_addFour_11 (by decide) rfl (fun z9 => absurd z9 (show ¬ (11 < 0) from by decide)) (fun _ => ?_)
  refine g_aload_n hk dX10_addFour_14 rfl ?_
  refine gX_i0 (v := 11) hk hin10 (by decide +kernel) dX10_addFour_15 rfl ?_
  refine g_aload_n hk dX10_addFour_18 rfl ?_
  refine gX_r1_0 hk hin10 (by decide +kernel) dX10_addFour_19 ?_
  refine nX_0 hk dX10_addFour_22 ?_
  refine g_icmp_ge (tgt := 52) (a := 11) (b := 2000) hk dX10_addFour_23 (by decide) rfl rfl (fun z9 => absurd z9 (show ¬ (2000 ≤ 11) from by decide)) (fun _ => ?_)
  refine g_aload_n hk dX10_addFour_26 rfl ?_
  refine gX_r1_0 hk hin10 (by decide +kernel) dX10_addFour_27 ?_
  refine g_aload_n hk dX10_addFour_30 rfl ?_
  refine gX_i0 (v := 11) hk hin10 (by decide +kernel) dX10_addFour_31 rfl ?_
  refine g_iload_n hk dX10_addFour_34 rfl ?_
  refine g_iload_n hk dX10_addFour_35 rfl ?_
  refine g_iushr hk dX10_addFour_36 rfl ?_
  refine g_topi (fun y588 ey588 => ?_)
  refine g_sipush (v := 255) hk dX10_addFour_37 (by decide) ?_
  refine g_iand hk dX10_addFour_40 ?_
  refine g_topi (fun y589 ey589 => ?_)
  refine sX_0 (j := 11) hk (vp_in_iff.mpr ⟨by decide, by decide⟩) (by decide) dX10_addFour_41 ?_
  refine g_aload_n hk dX10_addFour_42 rfl ?_
  refine g_dup hk dX10_addFour_43 rfl ?_
  refine gX_i0 (v := 11) hk hin10 (by decide +kernel) dX10_addFour_44 rfl ?_
  refine g_iconst (v := 1) hk dX10_addFour_47 (by decide) ?_
  refine g_iadd hk dX10_addFour_48 ?_
  refine g_norm (v := 12) (by decide) ?_
  refine pX_i0 hk hin10 (by decide +kernel) dX10_addFour_49 ?_
  refine g_iinc (v := (-8)) (lv' := [(2, .int (-8)), (0, .ref (q 1)), (1, .int a1)]) hk 0 dX10_addFour_52 rfl (by decide) (by decide) rfl ?_
  refine g_goto (tgt := 3) hk dX10_addFour_55 (by decide) ?_
  refine g_iload_n hk dX10_addFour_3 rfl ?_
  refine g_if_lt (tgt := 58) (a := (-8)) hk dX10_addFour_4 (by decide) rfl (fun _ => ?_) (fun z9 => absurd (show (-8) < 0 from by decide) z9)
  exact g_vret hk hR ⟨y583, y585, y587, y589, rfl, rfl⟩ dX10_addFour_58
set_option maxHeartbeats 4000000 in
set_option maxRecDepth 100000 in
theorem m207_X10_addFour (l : Launch) (D : va_G) (zt : Nat × Nat × Nat) (d : Nat → ClassId) (q : Nat → Nat) (y566 : Int32) (y567 : Int32) (y568 : Int32) (y569 : Int32) (y578 : Int32) (y579 : Int32) (y580 : Int32) (y581 : Int32) (y590 : Int32) (y591 : Int32) (y592 : Int32) (y593 : Int32) (a1 : Int32) : GM l D zt (tyX d) yX10_addFour wsX10_addFour ({ frames := 0, cells := 0, slots := 0, locals := 0 } : Room) [.ref (q 1), .int a1] (wX q d (upd (upd (upd (upd (upd (upd (upd (upd (upd (upd (upd (upd iX0 0 1) 0 2) 0 3) 0 4) 0 5) 0 6) 0 7) 0 8) 0 9) 0 10) 0 11) 0 12) (up3 (up3 (up3 (up3 (up3 (up3 (up3 (up3 (up3 (up3 (up3 (up3 aX0 0 0 y566) 0 1 y567) 0 2 y568) 0 3 y569) 0 4 y578) 0 5 y579) 0 6 y580) 0 7 y581) 0 8 y590) 0 9 y591) 0 10 y592) 0 11 y593)) (fun v _ w' => ∃ (y595 : Int32), ∃ (y597 : Int32), ∃ (y599 : Int32), ∃ (y601 : Int32), v = none ∧ w' = wX q d (upd (upd (upd (upd (upd (upd (upd (upd (upd (upd (upd (upd (upd (upd (upd (upd iX0 0 1) 0 2) 0 3) 0 4) 0 5) 0 6) 0 7) 0 8) 0 9) 0 10) 0 11) 0 12) 0 13) 0 14) 0 15) 0 16) (up3 (up3 (up3 (up3 (up3 (up3 (up3 (up3 (up3 (up3 (up3 (up3 (up3 (up3 (up3 (up3 aX0 0 0 y566) 0 1 y567) 0 2 y568) 0 3 y569) 0 4 y578) 0 5 y579) 0 6 y580) 0 7 y581) 0 8 y590) 0 9 y591) 0 10 y592) 0 11 y593) 0 12 y595) 0 13 y597) 0 14 y599) 0 15 y601)) 0 0 := by
  refine GM.of (cc := cX10_addFour) (maxL := 3) (ret := none) (own := RX10) (lv := [(0, .ref (q 1)), (1, .int a1)]) (by decide) rfl rfl (Nat.le_of_ble_eq_true rfl) rfl (fun κ sz hk hR hN => ?_)
  have hin10 : ∀ w ∈ u_ws RX10 TX10 7, w ∈ wsX10_addFour := by decide +kernel
  refine g_bipush (v := 24) hk dX10_addFour_0 (by decide) ?_
  refine g_istore_n (lv' := [(2, .int 24), (0, .ref (q 1)), (1, .int a1)]) hk dX10_addFour_2 (by decide) rfl ?_
  refine g_iload_n hk dX10_addFour_3 rfl ?_
  refine g_if_lt (tgt := 58) (a := 24) hk dX10_addFour_4 (by decide) rfl (fun z9 => absurd z9 (show ¬ (24 < 0) from by decide)) (fun _ => ?_)
  refine g_aload_n hk dX10_addFour_7 rfl ?_
  refine gX_i0 (v := 12) hk hin10 (by decide +kernel) dX10_addFour_8 rfl ?_
  refine g_if_lt (tgt := 52) (a := 12) hk dX10_addFour_11 (by decide) rfl (fun z9 => absurd z9 (show ¬ (12 < 0) from by decide)) (fun _ => ?_)
  refine g_aload_n hk dX10_addFour_14 rfl ?_
  refine gX_i0 (v := 12) hk hin10 (by decide +kernel) dX10_addFour_15 rfl ?_
  refine g_aload_n hk dX10_addFour_18 rfl ?_
  refine gX_r1_0 hk hin10 (by decide +kernel) dX10_addFour_19 ?_
  refine nX_0 hk dX10_addFour_22 ?_
  refine g_icmp_ge (tgt := 52) (a := 12) (b := 2000) hk dX10_addFour_23 (by decide) rfl rfl (fun z9 => absurd z9 (show ¬ (2000 ≤ 12) from by decide)) (fun _ => ?_)
  refine g_aload_n hk dX10_addFour_26 rfl ?_
  refine gX_r1_0 hk hin10 (by decide +kernel) dX10_addFour_27 ?_
  refine g_aload_n hk dX10_addFour_30 rfl ?_
  refine gX_i0 (v := 12) hk hin10 (by decide +kernel) dX10_addFour_31 rfl ?_
  refine g_iload_n hk dX10_addFour_34 rfl ?_
  refine g_iload_n hk dX10_addFour_35 rfl ?_
  refine g_iushr hk dX10_addFour_36 rfl ?_
  refine g_topi (fun y594 ey594 => ?_)
  refine g_sipush (v := 255) hk dX10_addFour_37 (by decide) ?_
  refine g_iand hk dX10_addFour_40 ?_
  refine g_topi (fun y595 ey595 => ?_)
  refine sX_0 (j := 12) hk (vp_in_iff.mpr ⟨by decide, by decide⟩) (by decide) dX10_addFour_41 ?_
  refine g_aload_n hk dX10_addFour_42 rfl ?_
  refine g_dup hk dX10_addFour_43 rfl ?_
  refine gX_i0 (v := 12) hk hin10 (by decide +kernel) dX10_addFour_44 rfl ?_
  refine g_iconst (v := 1) hk dX10_addFour_47 (by decide) ?_
  refine g_iadd hk dX10_addFour_48 ?_
  refine g_norm (v := 13) (by decide) ?_
  refine pX_i0 hk hin10 (by decide +kernel) dX10_addFour_49 ?_
  refine g_iinc (v := 16) (lv' := [(2, .int 16), (0, .ref (q 1)), (1, .int a1)]) hk 0 dX10_addFour_52 rfl (by decide) (by decide) rfl ?_
  refine g_goto (tgt := 3) hk dX10_addFour_55 (by decide) ?_
  refine g_iload_n hk dX10_addFour_3 rfl ?_
  refine g_if_lt (tgt := 58) (a := 16) hk dX10_addFour_4 (by decide) rfl (fun z9 => absurd z9 (show ¬ (16 < 0) from by decide)) (fun _ => ?_)
  refine g_aload_n hk dX10_addFour_7 rfl ?_
  refine gX_i0 (v := 13) hk hin10 (by decide +kernel) dX10_addFour_8 rfl ?_
  refine g_if_lt (tgt := 52) (a := 13) hk dX10_addFour_11 (by decide) rfl (fun z9 => absurd z9 (show ¬ (13 < 0) from by decide)) (fun _ => ?_)
  refine g_aload_n hk dX10_addFour_14 rfl ?_
  refine gX_i0 (v := 13) hk hin10 (by decide +kernel) dX10_addFour_15 rfl ?_
  refine g_aload_n hk dX10_addFour_18 rfl ?_
  refine gX_r1_0 hk hin10 (by decide +kernel) dX10_addFour_19 ?_
  refine nX_0 hk dX10_addFour_22 ?_
  refine g_icmp_ge (tgt := 52) (a := 13) (b := 2000) hk dX10_addFour_23 (by decide) rfl rfl (fun z9 => absurd z9 (show ¬ (2000 ≤ 13) from by decide)) (fun _ => ?_)
  refine g_aload_n hk dX10_addFour_26 rfl ?_
  refine gX_r1_0 hk hin10 (by decide +kernel) dX10_addFour_27 ?_
  refine g_aload_n hk dX10_addFour_30 rfl ?_
  refine gX_i0 (v := 13) hk hin10 (by decide +kernel) dX10_addFour_31 rfl ?_
  refine g_iload_n hk dX10_addFour_34 rfl ?_
  refine g_iload_n hk dX10_addFour_35 rfl ?_
  refine g_iushr hk dX10_addFour_36 rfl ?_
  refine g_topi (fun y596 ey596 => ?_)
  refine g_sipush (v := 255) hk dX10_addFour_37 (by decide) ?_
  refine g_iand hk dX10_addFour_40 ?_
  refine g_topi (fun y597 ey597 => ?_)
  refine sX_0 (j := 13) hk (vp_in_iff.mpr ⟨by decide, by decide⟩) (by decide) dX10_addFour_41 ?_
  refine g_aload_n hk dX10_addFour_42 rfl ?_
  refine g_dup hk dX10_addFour_43 rfl ?_
  refine gX_i0 (v := 13) hk hin10 (by decide +kernel) dX10_addFour_44 rfl ?_
  refine g_iconst (v := 1) hk dX10_addFour_47 (by decide) ?_
  refine g_iadd hk dX10_addFour_48 ?_
  refine g_norm (v := 14) (by decide) ?_
  refine pX_i0 hk hin10 (by decide +kernel) dX10_addFour_49 ?_
  refine g_iinc (v := 8) (lv' := [(2, .int 8), (0, .ref (q 1)), (1, .int a1)]) hk 0 dX10_addFour_52 rfl (by decide) (by decide) rfl ?_
  refine g_goto (tgt := 3) hk dX10_addFour_55 (by decide) ?_
  refine g_iload_n hk dX10_addFour_3 rfl ?_
  refine g_if_lt (tgt := 58) (a := 8) hk dX10_addFour_4 (by decide) rfl (fun z9 => absurd z9 (show ¬ (8 < 0) from by decide)) (fun _ => ?_)
  refine g_aload_n hk dX10_addFour_7 rfl ?_
  refine gX_i0 (v := 14) hk hin10 (by decide +kernel) dX10_addFour_8 rfl ?_
  refine g_if_lt (tgt := 52) (a := 14) hk dX10_addFour_11 (by decide) rfl (fun z9 => absurd z9 (show ¬ (14 < 0) from by decide)) (fun _ => ?_)
  refine g_aload_n hk dX10_addFour_14 rfl ?_
  refine gX_i0 (v := 14) hk hin10 (by decide +kernel) dX10_addFour_15 rfl ?_
  refine g_aload_n hk dX10_addFour_18 rfl ?_
  refine gX_r1_0 hk hin10 (by decide +kernel) dX10_addFour_19 ?_
  refine nX_0 hk dX10_addFour_22 ?_
  refine g_icmp_ge (tgt := 52) (a := 14) (b := 2000) hk dX10_addFour_23 (by decide) rfl rfl (fun z9 => absurd z9 (show ¬ (2000 ≤ 14) from by decide)) (fun _ => ?_)
  refine g_aload_n hk dX10_addFour_26 rfl ?_
  refine gX_r1_0 hk hin10 (by decide +kernel) dX10_addFour_27 ?_
  refine g_aload_n hk dX10_addFour_30 rfl ?_
  refine gX_i0 (v := 14) hk hin10 (by decide +kernel) dX10_addFour_31 rfl ?_
  refine g_iload_n hk dX10_addFour_34 rfl ?_
  refine g_iload_n hk dX10_addFour_35 rfl ?_
  refine g_iushr hk dX10_addFour_36 rfl ?_
  refine g_topi (fun y598 ey598 => ?_)
  refine g_sipush (v := 255) hk dX10_addFour_37 (by decide) ?_
  refine g_iand hk dX10_addFour_40 ?_
  refine g_topi (fun y599 ey599 => ?_)
  refine sX_0 (j := 14) hk (vp_in_iff.mpr ⟨by decide, by decide⟩) (by decide) dX10_addFour_41 ?_
  refine g_aload_n hk dX10_addFour_42 rfl ?_
  refine g_dup hk dX10_addFour_43 rfl ?_
  refine gX_i0 (v := 14) hk hin10 (by decide +kernel) dX10_addFour_44 rfl ?_
  refine g_iconst (v := 1) hk dX10_addFour_47 (by decide) ?_
  refine g_iadd hk dX10_addFour_48 ?_
  refine g_norm (v := 15) (by decide) ?_
  refine pX_i0 hk hin10 (by decide +kernel) dX10_addFour_49 ?_
  refine g_iinc (v := 0) (lv' := [(2, .int 0), (0, .ref (q 1)), (1, .int a1)]) hk 0 dX10_addFour_52 rfl (by decide) (by decide) rfl ?_
  refine g_goto (tgt := 3) hk dX10_addFour_55 (by decide) ?_
  refine g_iload_n hk dX10_addFour_3 rfl ?_
  refine g_if_lt (tgt := 58) (a := 0) hk dX10_addFour_4 (by decide) rfl (fun z9 => absurd z9 (show ¬ (0 < 0) from by decide)) (fun _ => ?_)
  refine g_aload_n hk dX10_addFour_7 rfl ?_
  refine gX_i0 (v := 15) hk hin10 (by decide +kernel) dX10_addFour_8 rfl ?_
  refine g_if_lt (tgt := 52) (a := 15) hk dX10_addFour_11 (by decide) rfl (fun z9 => absurd z9 (show ¬ (15 < 0) from by decide)) (fun _ => ?_)
  refine g_aload_n hk dX10_addFour_14 rfl ?_
  refine gX_i0 (v := 15) hk hin10 (by decide +kernel) dX10_addFour_15 rfl ?_
  refine g_aload_n hk dX10_addFour_18 rfl ?_
  refine gX_r1_0 hk hin10 (by decide +kernel) dX10_addFour_19 ?_
  refine nX_0 hk dX10_addFour_22 ?_
  refine g_icmp_ge (tgt := 52) (a := 15) (b := 2000) hk dX10_addFour_23 (by decide) rfl rfl (fun z9 => absurd z9 (show ¬ (2000 ≤ 15) from by decide)) (fun _ => ?_)
  refine g_aload_n hk dX10_addFour_26 rfl ?_
  refine gX_r1_0 hk hin10 (by decide +kernel) dX10_addFour_27 ?_
  refine g_aload_n hk dX10_addFour_30 rfl ?_
  refine gX_i0 (v := 15) hk hin10 (by decide +kernel) dX10_addFour_31 rfl ?_
  refine g_iload_n hk dX10_addFour_34 rfl ?_
  refine g_iload_n hk dX10_addFour_35 rfl ?_
  refine g_iushr hk dX10_addFour_36 rfl ?_
  refine g_topi (fun y600 ey600 => ?_)
  refine g_sipush (v := 255) hk dX10_addFour_37 (by decide) ?_
  refine g_iand hk dX10_addFour_40 ?_
  refine g_topi (fun y601 ey601 => ?_)
  refine sX_0 (j := 15) hk (vp_in_iff.mpr ⟨by decide, by decide⟩) (by decide) dX10_addFour_41 ?_
  refine g_aload_n hk dX10_addFour_42 rfl ?_
  refine g_dup hk dX10_addFour_43 rfl ?_
  refine gX_i0 (v := 15) hk hin10 (by decide +kernel) dX10_addFour_44 rfl ?_
  refine g_iconst (v := 1) hk dX10_addFour_47 (by decide) ?_
  refine g_iadd hk dX10_addFour_48 ?_
  refine g_norm (v := 16) (by decide) ?_
  refine pX_i0 hk hin10 (by decide +kernel) dX10_addFour_49 ?_
  refine g_iinc (v := (-8)) (lv' := [(2, .int (-8)), (0, .ref (q 1)), (1, .int a1)]) hk 0 dX10_addFour_52 rfl (by decide) (by decide) rfl ?_
  refine g_goto (tgt := 3) hk dX10_addFour_55 (by decide) ?_
  refine g_iload_n hk dX10_addFour_3 rfl ?_
  refine g_if_lt (tgt := 58) (a := (-8)) hk dX10_addFour_4 (by decide) rfl (fun _ => ?_) (fun z9 => absurd (show (-8) < 0 from by decide) z9)
  exact g_vret hk hR ⟨y595, y597, y599, y601, rfl, rfl⟩ dX10_addFour_58
set_option maxHeartbeats 4000000 in
set_option maxRecDepth 100000 in
theorem m208_X10_addFour (l : Launch) (D : va_G) (zt : Nat × Nat × Nat) (d : Nat → ClassId) (q : Nat → Nat) (y566 : Int32) (y567 : Int32) (y568 : Int32) (y569 : Int32) (y578 : Int32) (y579 : Int32) (y580 : Int32) (y581 : Int32) (y590 : Int32) (y591 : Int32) (y592 : Int32) (y593 : Int32) (y602 : Int32) (y603 : Int32) (y604 : Int32) (y605 : Int32) (a1 : Int32) : GM l D zt (tyX d) yX10_addFour wsX10_addFour ({ frames := 0, cells := 0, slots := 0, locals := 0 } : Room) [.ref (q 1), .int a1] (wX q d (upd (upd (upd (upd (upd (upd (upd (upd (upd (upd (upd (upd (upd (upd (upd (upd iX0 0 1) 0 2) 0 3) 0 4) 0 5) 0 6) 0 7) 0 8) 0 9) 0 10) 0 11) 0 12) 0 13) 0 14) 0 15) 0 16) (up3 (up3 (up3 (up3 (up3 (up3 (up3 (up3 (up3 (up3 (up3 (up3 (up3 (up3 (up3 (up3 aX0 0 0 y566) 0 1 y567) 0 2 y568) 0 3 y569) 0 4 y578) 0 5 y579) 0 6 y580) 0 7 y581) 0 8 y590) 0 9 y591) 0 10 y592) 0 11 y593) 0 12 y602) 0 13 y603) 0 14 y604) 0 15 y605)) (fun v _ w' => ∃ (y607 : Int32), ∃ (y609 : Int32), ∃ (y611 : Int32), ∃ (y613 : Int32), v = none ∧ w' = wX q d (upd (upd (upd (upd (upd (upd (upd (upd (upd (upd (upd (upd (upd (upd (upd (upd (upd (upd (upd (upd iX0 0 1) 0 2) 0 3) 0 4) 0 5) 0 6) 0 7) 0 8) 0 9) 0 10) 0 11) 0 12) 0 13) 0 14) 0 15) 0 16) 0 17) 0 18) 0 19) 0 20) (up3 (up3 (up3 (up3 (up3 (up3 (up3 (up3 (up3 (up3 (up3 (up3 (up3 (up3 (up3 (up3 (up3 (up3 (up3 (up3 aX0 0 0 y566) 0 1 y567) 0 2 y568) 0 3 y569) 0 4 y578) 0 5 y579) 0 6 y580) 0 7 y581) 0 8 y590) 0 9 y591) 0 10 y592) 0 11 y593) 0 12 y602) 0 13 y603) 0 14 y604) 0 15 y605) 0 16 y607) 0 17 y609) 0 18 y611) 0 19 y613)) 0 0 := by
  refine GM.of (cc := cX10_addFour) (maxL := 3) (ret := none) (own := RX10) (lv := [(0, .ref (q 1)), (1, .int a1)]) (by decide) rfl rfl (Nat.le_of_ble_eq_true rfl) rfl (fun κ sz hk hR hN => ?_)
  have hin10 : ∀ w ∈ u_ws RX10 TX10 7, w ∈ wsX10_addFour := by decide +kernel
  refine g_bipush (v := 24) hk dX10_addFour_0 (by decide) ?_
  refine g_istore_n (lv' := [(2, .int 24), (0, .ref (q 1)), (1, .int a1)]) hk dX10_addFour_2 (by decide) rfl ?_
  refine g_iload_n hk dX10_addFour_3 rfl ?_
  refine g_if_lt (tgt := 58) (a := 24) hk dX10_addFour_4 (by decide) rfl (fun z9 => absurd z9 (show ¬ (24 < 0) from by decide)) (fun _ => ?_)
  refine g_aload_n hk dX10_addFour_7 rfl ?_
  refine gX_i0 (v := 16) hk hin10 (by decide +kernel) dX10_addFour_8 rfl ?_
  refine g_if_lt (tgt := 52) (a := 16) hk dX10_addFour_11 (by decide) rfl (fun z9 => absurd z9 (show ¬ (16 < 0) from by decide)) (fun _ => ?_)
  refine g_aload_n hk dX10_addFour_14 rfl ?_
  refine gX_i0 (v := 16) hk hin10 (by decide +kernel) dX10_addFour_15 rfl ?_
  refine g_aload_n hk dX10_addFour_18 rfl ?_
  refine gX_r1_0 hk hin10 (by decide +kernel) dX10_addFour_19 ?_
  refine nX_0 hk dX10_addFour_22 ?_
  refine g_icmp_ge (tgt := 52) (a := 16) (b := 2000) hk dX10_addFour_23 (by decide) rfl rfl (fun z9 => absurd z9 (show ¬ (2000 ≤ 16) from by decide)) (fun _ => ?_)
  refine g_aload_n hk dX10_addFour_26 rfl ?_
  refine gX_r1_0 hk hin10 (by decide +kernel) dX10_addFour_27 ?_
  refine g_aload_n hk dX10_addFour_30 rfl ?_
  refine gX_i0 (v := 16) hk hin10 (by decide +kernel) dX10_addFour_31 rfl ?_
  refine g_iload_n hk dX10_addFour_34 rfl ?_
  refine g_iload_n hk dX10_addFour_35 rfl ?_
  refine g_iushr hk dX10_addFour_36 rfl ?_
  refine g_topi (fun y606 ey606 => ?_)
  refine g_sipush (v := 255) hk dX10_addFour_37 (by decide) ?_
  refine g_iand hk dX10_addFour_40 ?_
  refine g_topi (fun y607 ey607 => ?_)
  refine sX_0 (j := 16) hk (vp_in_iff.mpr ⟨by decide, by decide⟩) (by decide) dX10_addFour_41 ?_
  refine g_aload_n hk dX10_addFour_42 rfl ?_
  refine g_dup hk dX10_addFour_43 rfl ?_
  refine gX_i0 (v := 16) hk hin10 (by decide +kernel) dX10_addFour_44 rfl ?_
  refine g_iconst (v := 1) hk dX10_addFour_47 (by decide) ?_
  refine g_iadd hk dX10_addFour_48 ?_
  refine g_norm (v := 17) (by decide) ?_
  refine pX_i0 hk hin10 (by decide +kernel) dX10_addFour_49 ?_
  refine g_iinc (v := 16) (lv' := [(2, .int 16), (0, .ref (q 1)), (1, .int a1)]) hk 0 dX10_addFour_52 rfl (by decide) (by decide) rfl ?_
  refine g_goto (tgt := 3) hk dX10_addFour_55 (by decide) ?_
  refine g_iload_n hk dX10_addFour_3 rfl ?_
  refine g_if_lt (tgt := 58) (a := 16) hk dX10_addFour_4 (by decide) rfl (fun z9 => absurd z9 (show ¬ (16 < 0) from by decide)) (fun _ => ?_)
  refine g_aload_n hk dX10_addFour_7 rfl ?_
  refine gX_i0 (v := 17) hk hin10 (by decide +kernel) dX10_addFour_8 rfl ?_
  refine g_if_lt (tgt := 52) (a := 17) hk dX10_addFour_11 (by decide) rfl (fun z9 => absurd z9 (show ¬ (17 < 0) from by decide)) (fun _ => ?_)
  refine g_aload_n hk dX10_addFour_14 rfl ?_
  refine gX_i0 (v := 17) hk hin10 (by decide +kernel) dX10_addFour_15 rfl ?_
  refine g_aload_n hk dX10_addFour_18 rfl ?_
  refine gX_r1_0 hk hin10 (by decide +kernel) dX10_addFour_19 ?_
  refine nX_0 hk dX10_addFour_22 ?_
  refine g_icmp_ge (tgt := 52) (a := 17) (b := 2000) hk dX10_addFour_23 (by decide) rfl rfl (fun z9 => absurd z9 (show ¬ (2000 ≤ 17) from by decide)) (fun _ => ?_)
  refine g_aload_n hk dX10_addFour_26 rfl ?_
  refine gX_r1_0 hk hin10 (by decide +kernel) dX10_addFour_27 ?_
  refine g_aload_n hk dX10_addFour_30 rfl ?_
  refine gX_i0 (v := 17) hk hin10 (by decide +kernel) dX10_addFour_31 rfl ?_
  refine g_iload_n hk dX10_addFour_34 rfl ?_
  refine g_iload_n hk dX10_addFour_35 rfl ?_
  refine g_iushr hk dX10_addFour_36 rfl ?_
  refine g_topi (fun y608 ey608 => ?_)
  refine g_sipush (v := 255) hk dX10_addFour_37 (by decide) ?_
  refine g_iand hk dX10_addFour_40 ?_
  refine g_topi (fun y609 ey609 => ?_)
  refine sX_0 (j := 17) hk (vp_in_iff.mpr ⟨by decide, by decide⟩) (by decide) dX10_addFour_41 ?_
  refine g_aload_n hk dX10_addFour_42 rfl ?_
  refine g_dup hk dX10_addFour_43 rfl ?_
  refine gX_i0 (v := 17) hk hin10 (by decide +kernel) dX10_addFour_44 rfl ?_
  refine g_iconst (v := 1) hk dX10_addFour_47 (by decide) ?_
  refine g_iadd hk dX10_addFour_48 ?_
  refine g_norm (v := 18) (by decide) ?_
  refine pX_i0 hk hin10 (by decide +kernel) dX10_addFour_49 ?_
  refine g_iinc (v := 8) (lv' := [(2, .int 8), (0, .ref (q 1)), (1, .int a1)]) hk 0 dX10_addFour_52 rfl (by decide) (by decide) rfl ?_
  refine g_goto (tgt := 3) hk dX10_addFour_55 (by decide) ?_
  refine g_iload_n hk dX10_addFour_3 rfl ?_
  refine g_if_lt (tgt := 58) (a := 8) hk dX10_addFour_4 (by decide) rfl (fun z9 => absurd z9 (show ¬ (8 < 0) from by decide)) (fun _ => ?_)
  refine g_aload_n hk dX10_addFour_7 rfl ?_
  refine gX_i0 (v := 18) hk hin10 (by decide +kernel) dX10_addFour_8 rfl ?_
  refine g_if_lt (tgt := 52) (a := 18) hk dX10_addFour_11 (by decide) rfl (fun z9 => absurd z9 (show ¬ (18 < 0) from by decide)) (fun _ => ?_)
  refine g_aload_n hk dX10_addFour_14 rfl ?_
  refine gX_i0 (v := 18) hk hin10 (by decide +kernel) dX10_addFour_15 rfl ?_
  refine g_aload_n hk dX10_addFour_18 rfl ?_
  refine gX_r1_0 hk hin10 (by decide +kernel) dX10_addFour_19 ?_
  refine nX_0 hk dX10_addFour_22 ?_
  refine g_icmp_ge (tgt := 52) (a := 18) (b := 2000) hk dX10_addFour_23 (by decide) rfl rfl (fun z9 => absurd z9 (show ¬ (2000 ≤ 18) from by decide)) (fun _ => ?_)
  refine g_aload_n hk dX10_addFour_26 rfl ?_
  refine gX_r1_0 hk hin10 (by decide +kernel) dX10_addFour_27 ?_
  refine g_aload_n hk dX10_addFour_30 rfl ?_
  refine gX_i0 (v := 18) hk hin10 (by decide +kernel) dX10_addFour_31 rfl ?_
  refine g_iload_n hk dX10_addFour_34 rfl ?_
  refine g_iload_n hk dX10_addFour_35 rfl ?_
  refine g_iushr hk dX10_addFour_36 rfl ?_
  refine g_topi (fun y610 ey610 => ?_)
  refine g_sipush (v := 255) hk dX10_addFour_37 (by decide) ?_
  refine g_iand hk dX10_addFour_40 ?_
  refine g_topi (fun y611 ey611 => ?_)
  refine sX_0 (j := 18) hk (vp_in_iff.mpr ⟨by decide, by decide⟩) (by decide) dX10_addFour_41 ?_
  refine g_aload_n hk dX10_addFour_42 rfl ?_
  refine g_dup hk dX10_addFour_43 rfl ?_
  refine gX_i0 (v := 18) hk hin10 (by decide +kernel) dX10_addFour_44 rfl ?_
  refine g_iconst (v := 1) hk dX10_addFour_47 (by decide) ?_
  refine g_iadd hk dX10_addFour_48 ?_
  refine g_norm (v := 19) (by decide) ?_
  refine pX_i0 hk hin10 (by decide +kernel) dX10_addFour_49 ?_
  refine g_iinc (v := 0) (lv' := [(2, .int 0), (0, .ref (q 1)), (1, .int a1)]) hk 0 dX10_addFour_52 rfl (by decide) (by decide) rfl ?_
  refine g_goto (tgt := 3) hk dX10_addFour_55 (by decide) ?_
  refine g_iload_n hk dX10_addFour_3 rfl ?_
  refine g_if_lt (tgt := 58) (a := 0) hk dX10_addFour_4 (by decide) rfl (fun z9 => absurd z9 (show ¬ (0 < 0) from by decide)) (fun _ => ?_)
  refine g_aload_n hk dX10_addFour_7 rfl ?_
  refine gX_i0 (v := 19) hk hin10 (by decide +kernel) dX10_addFour_8 rfl ?_
  refine g_if_lt (tgt := 52) (a := 19) hk dX10_addFour_11 (by decide) rfl (fun z9 => absurd z9 (show ¬ (19 < 0) from by decide)) (fun _ => ?_)
  refine g_aload_n hk dX10_addFour_14 rfl ?_
  refine gX_i0 (v := 19) hk hin10 (by decide +kernel) dX10_addFour_15 rfl ?_
  refine g_aload_n hk dX10_addFour_18 rfl ?_
  refine gX_r1_0 hk hin10 (by decide +kernel) dX10_addFour_19 ?_
  refine nX_0 hk dX10_addFour_22 ?_
  refine g_icmp_ge (tgt := 52) (a := 19) (b := 2000) hk dX10_addFour_23 (by decide) rfl rfl (fun z9 => absurd z9 (show ¬ (2000 ≤ 19) from by decide)) (fun _ => ?_)
  refine g_aload_n hk dX10_addFour_26 rfl ?_
  refine gX_r1_0 hk hin10 (by decide +kernel) dX10_addFour_27 ?_
  refine g_aload_n hk dX10_addFour_30 rfl ?_
  refine gX_i0 (v := 19) hk hin10 (by decide +kernel) dX10_addFour_31 rfl ?_
  refine g_iload_n hk dX10_addFour_34 rfl ?_
  refine g_iload_n hk dX10_addFour_35 rfl ?_
  refine g_iushr hk dX10_addFour_36 rfl ?_
  refine g_topi (fun y612 ey612 => ?_)
  refine g_sipush (v := 255) hk dX10_addFour_37 (by decide) ?_
  refine g_iand hk dX10_addFour_40 ?_
  refine g_topi (fun y613 ey613 => ?_)
  refine sX_0 (j := 19) hk (vp_in_iff.mpr ⟨by decide, by decide⟩) (by decide) dX10_addFour_41 ?_
  refine g_aload_n hk dX10_addFour_42 rfl ?_
  refine g_dup hk dX10_addFour_43 rfl ?_
  refine gX_i0 (v := 19) hk hin10 (by decide +kernel) dX10_addFour_44 rfl ?_
  refine g_iconst (v := 1) hk dX10_addFour_47 (by decide) ?_
  refine g_iadd hk dX10_addFour_48 ?_
  refine g_norm (v := 20) (by decide) ?_
  refine pX_i0 hk hin10 (by decide +kernel) dX10_addFour_49 ?_
  refine g_iinc (v := (-8)) (lv' := [(2, .int (-8)), (0, .ref (q 1)), (1, .int a1)]) hk 0 dX10_addFour_52 rfl (by decide) (by decide) rfl ?_
  refine g_goto (tgt := 3) hk dX10_addFour_55 (by decide) ?_
  refine g_iload_n hk dX10_addFour_3 rfl ?_
  refine g_if_lt (tgt := 58) (a := (-8)) hk dX10_addFour_4 (by decide) rfl (fun _ => ?_) (fun z9 => absurd (show (-8) < 0 from by decide) z9)
  exact g_vret hk hR ⟨y607, y609, y611, y613, rfl, rfl⟩ dX10_addFour_58
set_option maxHeartbeats 4000000 in
set_option maxRecDepth 100000 in
theorem m209_X11_feed (l : Launch) (D : va_G) (zt : Nat × Nat × Nat) (d : Nat → ClassId) (q : Nat → Nat) (a1 : Int32) (a2 : Int32) (a3 : Int32) (a4 : Int32) (a5 : Int32) : GM l D zt (tyX d) yX11_feed wsX11_feed ({ frames := 1, cells := 0, slots := 0, locals := 22 } : Room) [.ref (q 0), .int a1, .int a2, .int a3, .int a4, .int a5] (wX q d iX0 aX0) (fun v _ w' => ∃ (y566 : Int32), ∃ (y567 : Int32), ∃ (y568 : Int32), ∃ (y569 : Int32), ∃ (y578 : Int32), ∃ (y579 : Int32), ∃ (y580 : Int32), ∃ (y581 : Int32), ∃ (y590 : Int32), ∃ (y591 : Int32), ∃ (y592 : Int32), ∃ (y593 : Int32), ∃ (y602 : Int32), ∃ (y603 : Int32), ∃ (y604 : Int32), ∃ (y605 : Int32), ∃ (y614 : Int32), ∃ (y615 : Int32), ∃ (y616 : Int32), ∃ (y617 : Int32), v = some (.int 20) ∧ w' = wX q d (upd (upd (upd (upd (upd (upd (upd (upd (upd (upd (upd (upd (upd (upd (upd (upd (upd (upd (upd (upd iX0 0 1) 0 2) 0 3) 0 4) 0 5) 0 6) 0 7) 0 8) 0 9) 0 10) 0 11) 0 12) 0 13) 0 14) 0 15) 0 16) 0 17) 0 18) 0 19) 0 20) (up3 (up3 (up3 (up3 (up3 (up3 (up3 (up3 (up3 (up3 (up3 (up3 (up3 (up3 (up3 (up3 (up3 (up3 (up3 (up3 aX0 0 0 y566) 0 1 y567) 0 2 y568) 0 3 y569) 0 4 y578) 0 5 y579) 0 6 y580) 0 7 y581) 0 8 y590) 0 9 y591) 0 10 y592) 0 11 y593) 0 12 y602) 0 13 y603) 0 14 y604) 0 15 y605) 0 16 y614) 0 17 y615) 0 18 y616) 0 19 y617)) 0 0 := by
  refine GM.of (cc := cX11_feed) (maxL := 6) (ret := (some .int)) (own := RX11) (lv := [(0, .ref (q 0)), (1, .int a1), (2, .int a2), (3, .int a3), (4, .int a4), (5, .int a5)]) (by decide) rfl rfl (Nat.le_of_ble_eq_true rfl) rfl (fun κ sz hk hR hN => ?_)
  have hin10 : ∀ w ∈ u_ws RX10 TX10 7, w ∈ wsX11_feed := by decide +kernel
  have hin11 : ∀ w ∈ u_ws RX11 TX11 10, w ∈ wsX11_feed := by decide +kernel
  refine g_aload_n hk dX11_feed_0 rfl ?_
  refine gX_r0_0 hk hin11 (by decide +kernel) dX11_feed_1 ?_
  refine gX_i0 (v := 0) hk hin10 (by decide +kernel) dX11_feed_4 rfl ?_
  refine g_sipush (v := 1980) hk dX11_feed_7 (by decide) ?_
  refine g_icmp_le (tgt := 15) (a := 0) (b := 1980) hk dX11_feed_10 (by decide) rfl rfl (fun _ => ?_) (fun z9 => absurd (show 0 ≤ 1980 from by decide) z9)
  refine g_aload_n hk dX11_feed_15 rfl ?_
  refine gX_r0_0 hk hin11 (by decide +kernel) dX11_feed_16 ?_
  refine g_iload_n hk dX11_feed_19 rfl ?_
  refine g_callV hk (m204_X10_addFour l D zt d q a1) (SP.same _) (fun _ h => h) gX11_feed_X10_addFour rfl rfl rfl (by decide +kernel) ⟨Nat.le_of_ble_eq_true rfl, Nat.le_of_ble_eq_true rfl⟩ 1 rfl rfl rfl rfl (Nat.le_of_ble_eq_true rfl) ⟨Nat.le_of_ble_eq_true rfl, Nat.le_of_ble_eq_true rfl⟩ dX11_feed_20 (fun v ty' w' hp hk' => ?_)
  obtain ⟨y566, y567, y568, y569, rfl, rfl⟩ := hp
  show GW κ 6 0 0 (wX q d (upd (upd (upd (upd iX0 0 1) 0 2) 0 3) 0 4) (up3 (up3 (up3 (up3 aX0 0 0 y566) 0 1 y567) 0 2 y568) 0 3 y569)) 23 [(0, .ref (q 0)), (1, .int a1), (2, .int a2), (3, .int a3), (4, .int a4), (5, .int a5)] []
  refine g_aload_n hk dX11_feed_23 rfl ?_
  refine gX_r0_0 hk hin11 (by decide +kernel) dX11_feed_24 ?_
  refine g_iload_n hk dX11_feed_27 rfl ?_
  refine g_callV hk (m205_X10_addFour l D zt d q y566 y567 y568 y569 a2) (SP.same _) (fun _ h => h) gX11_feed_X10_addFour rfl rfl rfl (by decide +kernel) ⟨Nat.le_of_ble_eq_true rfl, Nat.le_of_ble_eq_true rfl⟩ 1 rfl rfl rfl rfl (Nat.le_of_ble_eq_true rfl) ⟨Nat.le_of_ble_eq_true rfl, Nat.le_of_ble_eq_true rfl⟩ dX11_feed_28 (fun v ty' w' hp hk' => ?_)
  obtain ⟨y578, y579, y580, y581, rfl, rfl⟩ := hp
  show GW κ 6 0 0 (wX q d (upd (upd (upd (upd (upd (upd (upd (upd iX0 0 1) 0 2) 0 3) 0 4) 0 5) 0 6) 0 7) 0 8) (up3 (up3 (up3 (up3 (up3 (up3 (up3 (up3 aX0 0 0 y566) 0 1 y567) 0 2 y568) 0 3 y569) 0 4 y578) 0 5 y579) 0 6 y580) 0 7 y581)) 31 [(0, .ref (q 0)), (1, .int a1), (2, .int a2), (3, .int a3), (4, .int a4), (5, .int a5)] []
  refine g_aload_n hk dX11_feed_31 rfl ?_
  refine gX_r0_0 hk hin11 (by decide +kernel) dX11_feed_32 ?_
  refine g_iload_n hk dX11_feed_35 rfl ?_
  refine g_callV hk (m206_X10_addFour l D zt d q y566 y567 y568 y569 y578 y579 y580 y581 a3) (SP.same _) (fun _ h => h) gX11_feed_X10_addFour rfl rfl rfl (by decide +kernel) ⟨Nat.le_of_ble_eq_true rfl, Nat.le_of_ble_eq_true rfl⟩ 1 rfl rfl rfl rfl (Nat.le_of_ble_eq_true rfl) ⟨Nat.le_of_ble_eq_true rfl, Nat.le_of_ble_eq_true rfl⟩ dX11_feed_36 (fun v ty' w' hp hk' => ?_)
  obtain ⟨y590, y591, y592, y593, rfl, rfl⟩ := hp
  show GW κ 6 0 0 (wX q d (upd (upd (upd (upd (upd (upd (upd (upd (upd (upd (upd (upd iX0 0 1) 0 2) 0 3) 0 4) 0 5) 0 6) 0 7) 0 8) 0 9) 0 10) 0 11) 0 12) (up3 (up3 (up3 (up3 (up3 (up3 (up3 (up3 (up3 (up3 (up3 (up3 aX0 0 0 y566) 0 1 y567) 0 2 y568) 0 3 y569) 0 4 y578) 0 5 y579) 0 6 y580) 0 7 y581) 0 8 y590) 0 9 y591) 0 10 y592) 0 11 y593)) 39 [(0, .ref (q 0)), (1, .int a1), (2, .int a2), (3, .int a3), (4, .int a4), (5, .int a5)] []
  refine g_aload_n hk dX11_feed_39 rfl ?_
  refine gX_r0_0 hk hin11 (by decide +kernel) dX11_feed_40 ?_
  refine g_iload hk dX11_feed_43 rfl ?_
  refine g_callV hk (m207_X10_addFour l D zt d q y566 y567 y568 y569 y578 y579 y580 y581 y590 y591 y592 y593 a4) (SP.same _) (fun _ h => h) gX11_feed_X10_addFour rfl rfl rfl (by decide +kernel) ⟨Nat.le_of_ble_eq_true rfl, Nat.le_of_ble_eq_true rfl⟩ 1 rfl rfl rfl rfl (Nat.le_of_ble_eq_true rfl) ⟨Nat.le_of_ble_eq_true rfl, Nat.le_of_ble_eq_true rfl⟩ dX11_feed_45 (fun v ty' w' hp hk' => ?_)
  obtain ⟨y602, y603, y604, y605, rfl, rfl⟩ := hp
  show GW κ 6 0 0 (wX q d (upd (upd (upd (upd (upd (upd (upd (upd (upd (upd (upd (upd (upd (upd (upd (upd iX0 0 1) 0 2) 0 3) 0 4) 0 5) 0 6) 0 7) 0 8) 0 9) 0 10) 0 11) 0 12) 0 13) 0 14) 0 15) 0 16) (up3 (up3 (up3 (up3 (up3 (up3 (up3 (up3 (up3 (up3 (up3 (up3 (up3 (up3 (up3 (up3 aX0 0 0 y566) 0 1 y567) 0 2 y568) 0 3 y569) 0 4 y578) 0 5 y579) 0 6 y580) 0 7 y581) 0 8 y590) 0 9 y591) 0 10 y592) 0 11 y593) 0 12 y602) 0 13 y603) 0 14 y604) 0 15 y605)) 48 [(0, .ref (q 0)), (1, .int a1), (2, .int a2), (3, .int a3), (4, .int a4), (5, .int a5)] []
  refine g_aload_n hk dX11_feed_48 rfl ?_
  refine gX_r0_0 hk hin11 (by decide +kernel) dX11_feed_49 ?_
  refine g_iload hk dX11_feed_52 rfl ?_
  refine g_callV hk (m208_X10_addFour l D zt d q y566 y567 y568 y569 y578 y579 y580 y581 y590 y591 y592 y593 y602 y603 y604 y605 a5) (SP.same _) (fun _ h => h) gX11_feed_X10_addFour rfl rfl rfl (by decide +kernel) ⟨Nat.le_of_ble_eq_true rfl, Nat.le_of_ble_eq_true rfl⟩ 1 rfl rfl rfl rfl (Nat.le_of_ble_eq_true rfl) ⟨Nat.le_of_ble_eq_true rfl, Nat.le_of_ble_eq_true rfl⟩ dX11_feed_54 (fun v ty' w' hp hk' => ?_)
  obtain ⟨y614, y615, y616, y617, rfl, rfl⟩ := hp
  show GW κ 6 0 0 (wX q d (upd (upd (upd (upd (upd (upd (upd (upd (upd (upd (upd (upd (upd (upd (upd (upd (upd (upd (upd (upd iX0 0 1) 0 2) 0 3) 0 4) 0 5) 0 6) 0 7) 0 8) 0 9) 0 10) 0 11) 0 12) 0 13) 0 14) 0 15) 0 16) 0 17) 0 18) 0 19) 0 20) (up3 (up3 (up3 (up3 (up3 (up3 (up3 (up3 (up3 (up3 (up3 (up3 (up3 (up3 (up3 (up3 (up3 (up3 (up3 (up3 aX0 0 0 y566) 0 1 y567) 0 2 y568) 0 3 y569) 0 4 y578) 0 5 y579) 0 6 y580) 0 7 y581) 0 8 y590) 0 9 y591) 0 10 y592) 0 11 y593) 0 12 y602) 0 13 y603) 0 14 y604) 0 15 y605) 0 16 y614) 0 17 y615) 0 18 y616) 0 19 y617)) 57 [(0, .ref (q 0)), (1, .int a1), (2, .int a2), (3, .int a3), (4, .int a4), (5, .int a5)] []
  refine g_aload_n hk dX11_feed_57 rfl ?_
  refine gX_r0_0 hk hin11 (by decide +kernel) dX11_feed_58 ?_
  refine gX_i0 (v := 20) hk hin10 (by decide +kernel) dX11_feed_61 rfl ?_
  exact g_iret hk hR rfl ⟨y566, y567, y568, y569, y578, y579, y580, y581, y590, y591, y592, y593, y602, y603, y604, y605, y614, y615, y616, y617, rfl, rfl⟩ dX11_feed_64
set_option maxHeartbeats 4000000 in
set_option maxRecDepth 100000 in
theorem m210_X11_back (l : Launch) (D : va_G) (zt : Nat × Nat × Nat) (d : Nat → ClassId) (q : Nat → Nat) (a1 : Int32) : GM l D zt (tyX d) yX11_back wsX11_back ({ frames := 0, cells := 0, slots := 0, locals := 0 } : Room) [.ref (q 0), .int a1] (wX q d iX0 aX0) (fun v _ w' => ((a1.toInt < 0) ∧ v = some (.int (-1)) ∧ w' = wX q d iX0 aX0) ∨ ((¬ (a1.toInt < 0)) ∧ (a1.toInt ≤ 0) ∧ (a1.toInt = 0) ∧ v = some (.int 0) ∧ w' = wX q d iX0 aX0) ∨ ((¬ (a1.toInt < 0)) ∧ (¬ (a1.toInt ≤ 0)) ∧ v = some (.int (-1)) ∧ w' = wX q d iX0 aX0)) 0 0 := by
  refine GM.of (cc := cX11_back) (maxL := 2) (ret := (some .int)) (own := RX11) (lv := [(0, .ref (q 0)), (1, .int a1)]) (by decide) rfl rfl (Nat.le_of_ble_eq_true rfl) rfl (fun κ sz hk hR hN => ?_)
  have hin10 : ∀ w ∈ u_ws RX10 TX10 7, w ∈ wsX11_back := by decide +kernel
  have hin11 : ∀ w ∈ u_ws RX11 TX11 10, w ∈ wsX11_back := by decide +kernel
  refine g_iload_n hk dX11_back_0 rfl ?_
  refine g_if_lt (tgt := 15) (a := a1.toInt) hk dX11_back_1 (by decide) rfl (fun c618 => ?_) (fun c618 => ?_)
  · skip
    refine g_iconst (v := (-1)) hk dX11_back_15 (by decide) ?_
    exact g_iret hk hR rfl (Or.inl ⟨c618, rfl, rfl⟩) dX11_back_16
  · skip
    refine g_iload_n hk dX11_back_4 rfl ?_
    refine g_aload_n hk dX11_back_5 rfl ?_
    refine gX_r0_0 hk hin11 (by decide +kernel) dX11_back_6 ?_
    refine gX_i0 (v := 0) hk hin10 (by decide +kernel) dX11_back_9 rfl ?_
    refine g_icmp_le (tgt := 17) (a := a1.toInt) (b := 0) hk dX11_back_12 (by decide) rfl rfl (fun c619 => ?_) (fun c619 => ?_)
    · skip
      refine g_aload_n hk dX11_back_17 rfl ?_
      refine gX_r0_0 hk hin11 (by decide +kernel) dX11_back_18 ?_
      refine g_dup hk dX11_back_21 rfl ?_
      refine gX_i0 (v := 0) hk hin10 (by decide +kernel) dX11_back_22 rfl ?_
      refine g_iload_n hk dX11_back_25 rfl ?_
      by_cases c620 : a1.toInt = 0
      · obtain rfl : a1 = 0 := Int32.toInt_inj.mp c620
        refine g_isub hk dX11_back_26 ?_
        refine g_norm (v := 0) (by decide) ?_
        refine pX_i0 hk hin10 (by decide +kernel) dX11_back_27 ?_
        refine gX_sameI rfl ?_
        refine g_aload_n hk dX11_back_30 rfl ?_
        refine gX_r0_0 hk hin11 (by decide +kernel) dX11_back_31 ?_
        refine gX_i0 (v := 0) hk hin10 (by decide +kernel) dX11_back_34 rfl ?_
        exact g_iret hk hR rfl (Or.inr (Or.inl ⟨c618, c619, c620, rfl, rfl⟩)) dX11_back_37
      exfalso; omega
    · skip
      refine g_iconst (v := (-1)) hk dX11_back_15 (by decide) ?_
      exact g_iret hk hR rfl (Or.inr (Or.inr (⟨c618, c619, rfl, rfl⟩))) dX11_back_16
set_option maxHeartbeats 4000000 in
set_option maxRecDepth 100000 in
theorem m211_X7_put (l : Launch) (D : va_G) (zt : Nat × Nat × Nat) (d : Nat → ClassId) (q : Nat → Nat) : GM l D zt (tyX d) yX7_put wsX7_put ({ frames := 0, cells := 0, slots := 0, locals := 0 } : Room) [.ref (q 6), .int 0, .int 2] (wX q d iX0 aX0) (fun v _ w' => v = none ∧ w' = wX q d iX0 aX0) 0 0 := by
  refine GM.of (cc := cX7_put) (maxL := 3) (ret := none) (own := RX7) (lv := [(0, .ref (q 6)), (1, .int 0), (2, .int 2)]) (by decide) rfl rfl (Nat.le_of_ble_eq_true rfl) rfl (fun κ sz hk hR hN => ?_)
  have hin7 : ∀ w ∈ u_ws RX7 TX7 1, w ∈ wsX7_put := by decide +kernel
  refine g_iload_n hk dX7_put_0 rfl ?_
  refine g_if_lt (tgt := 20) (a := 0) hk dX7_put_1 (by decide) rfl (fun z9 => absurd z9 (show ¬ (0 < 0) from by decide)) (fun _ => ?_)
  refine g_iload_n hk dX7_put_4 rfl ?_
  refine g_aload_n hk dX7_put_5 rfl ?_
  refine gX_r6_0 hk hin7 (by decide +kernel) dX7_put_6 ?_
  refine nX_2 hk dX7_put_9 ?_
  refine g_icmp_ge (tgt := 20) (a := 0) (b := 4) hk dX7_put_10 (by decide) rfl rfl (fun z9 => absurd z9 (show ¬ (4 ≤ 0) from by decide)) (fun _ => ?_)
  refine g_aload_n hk dX7_put_13 rfl ?_
  refine gX_r6_0 hk hin7 (by decide +kernel) dX7_put_14 ?_
  refine g_iload_n hk dX7_put_17 rfl ?_
  refine g_iload_n hk dX7_put_18 rfl ?_
  refine sX_2 (j := 0) hk (vp_in_iff.mpr ⟨by decide, by decide⟩) (by decide) dX7_put_19 ?_
  refine gX_same rfl ?_
  exact g_vret hk hR ⟨rfl, rfl⟩ dX7_put_20
set_option maxHeartbeats 4000000 in
set_option maxRecDepth 100000 in
theorem m212_X7_put (l : Launch) (D : va_G) (zt : Nat × Nat × Nat) (d : Nat → ClassId) (q : Nat → Nat) : GM l D zt (tyX d) yX7_put wsX7_put ({ frames := 0, cells := 0, slots := 0, locals := 0 } : Room) [.ref (q 6), .int 1, .int 0] (wX q d iX0 aX0) (fun v _ w' => v = none ∧ w' = wX q d iX0 aX0) 0 0 := by
  refine GM.of (cc := cX7_put) (maxL := 3) (ret := none) (own := RX7) (lv := [(0, .ref (q 6)), (1, .int 1), (2, .int 0)]) (by decide) rfl rfl (Nat.le_of_ble_eq_true rfl) rfl (fun κ sz hk hR hN => ?_)
  have hin7 : ∀ w ∈ u_ws RX7 TX7 1, w ∈ wsX7_put := by decide +kernel
  refine g_iload_n hk dX7_put_0 rfl ?_
  refine g_if_lt (tgt := 20) (a := 1) hk dX7_put_1 (by decide) rfl (fun z9 => absurd z9 (show ¬ (1 < 0) from by decide)) (fun _ => ?_)
  refine g_iload_n hk dX7_put_4 rfl ?_
  refine g_aload_n hk dX7_put_5 rfl ?_
  refine gX_r6_0 hk hin7 (by decide +kernel) dX7_put_6 ?_
  refine nX_2 hk dX7_put_9 ?_
  refine g_icmp_ge (tgt := 20) (a := 1) (b := 4) hk dX7_put_10 (by decide) rfl rfl (fun z9 => absurd z9 (show ¬ (4 ≤ 1) from by decide)) (fun _ => ?_)
  refine g_aload_n hk dX7_put_13 rfl ?_
  refine gX_r6_0 hk hin7 (by decide +kernel) dX7_put_14 ?_
  refine g_iload_n hk dX7_put_17 rfl ?_
  refine g_iload_n hk dX7_put_18 rfl ?_
  refine sX_2 (j := 1) hk (vp_in_iff.mpr ⟨by decide, by decide⟩) (by decide) dX7_put_19 ?_
  refine gX_same rfl ?_
  exact g_vret hk hR ⟨rfl, rfl⟩ dX7_put_20
set_option maxHeartbeats 4000000 in
set_option maxRecDepth 100000 in
theorem m213_X7_put (l : Launch) (D : va_G) (zt : Nat × Nat × Nat) (d : Nat → ClassId) (q : Nat → Nat) : GM l D zt (tyX d) yX7_put wsX7_put ({ frames := 0, cells := 0, slots := 0, locals := 0 } : Room) [.ref (q 6), .int 2, .int 0] (wX q d iX0 aX0) (fun v _ w' => v = none ∧ w' = wX q d iX0 aX0) 0 0 := by
  refine GM.of (cc := cX7_put) (maxL := 3) (ret := none) (own := RX7) (lv := [(0, .ref (q 6)), (1, .int 2), (2, .int 0)]) (by decide) rfl rfl (Nat.le_of_ble_eq_true rfl) rfl (fun κ sz hk hR hN => ?_)
  have hin7 : ∀ w ∈ u_ws RX7 TX7 1, w ∈ wsX7_put := by decide +kernel
  refine g_iload_n hk dX7_put_0 rfl ?_
  refine g_if_lt (tgt := 20) (a := 2) hk dX7_put_1 (by decide) rfl (fun z9 => absurd z9 (show ¬ (2 < 0) from by decide)) (fun _ => ?_)
  refine g_iload_n hk dX7_put_4 rfl ?_
  refine g_aload_n hk dX7_put_5 rfl ?_
  refine gX_r6_0 hk hin7 (by decide +kernel) dX7_put_6 ?_
  refine nX_2 hk dX7_put_9 ?_
  refine g_icmp_ge (tgt := 20) (a := 2) (b := 4) hk dX7_put_10 (by decide) rfl rfl (fun z9 => absurd z9 (show ¬ (4 ≤ 2) from by decide)) (fun _ => ?_)
  refine g_aload_n hk dX7_put_13 rfl ?_
  refine gX_r6_0 hk hin7 (by decide +kernel) dX7_put_14 ?_
  refine g_iload_n hk dX7_put_17 rfl ?_
  refine g_iload_n hk dX7_put_18 rfl ?_
  refine sX_2 (j := 2) hk (vp_in_iff.mpr ⟨by decide, by decide⟩) (by decide) dX7_put_19 ?_
  refine gX_same rfl ?_
  exact g_vret hk hR ⟨rfl, rfl⟩ dX7_put_20
set_option maxHeartbeats 4000000 in
set_option maxRecDepth 100000 in
theorem m214_X7_put (l : Launch) (D : va_G) (zt : Nat × Nat × Nat) (d : Nat → ClassId) (q : Nat → Nat) : GM l D zt (tyX d) yX7_put wsX7_put ({ frames := 0, cells := 0, slots := 0, locals := 0 } : Room) [.ref (q 6), .int 3, .int 8] (wX q d iX0 aX0) (fun v _ w' => v = none ∧ w' = wX q d iX0 aX0) 0 0 := by
  refine GM.of (cc := cX7_put) (maxL := 3) (ret := none) (own := RX7) (lv := [(0, .ref (q 6)), (1, .int 3), (2, .int 8)]) (by decide) rfl rfl (Nat.le_of_ble_eq_true rfl) rfl (fun κ sz hk hR hN => ?_)
  have hin7 : ∀ w ∈ u_ws RX7 TX7 1, w ∈ wsX7_put := by decide +kernel
  refine g_iload_n hk dX7_put_0 rfl ?_
  refine g_if_lt (tgt := 20) (a := 3) hk dX7_put_1 (by decide) rfl (fun z9 => absurd z9 (show ¬ (3 < 0) from by decide)) (fun _ => ?_)
  refine g_iload_n hk dX7_put_4 rfl ?_
  refine g_aload_n hk dX7_put_5 rfl ?_
  refine gX_r6_0 hk hin7 (by decide +kernel) dX7_put_6 ?_
  refine nX_2 hk dX7_put_9 ?_
  refine g_icmp_ge (tgt := 20) (a := 3) (b := 4) hk dX7_put_10 (by decide) rfl rfl (fun z9 => absurd z9 (show ¬ (4 ≤ 3) from by decide)) (fun _ => ?_)
  refine g_aload_n hk dX7_put_13 rfl ?_
  refine gX_r6_0 hk hin7 (by decide +kernel) dX7_put_14 ?_
  refine g_iload_n hk dX7_put_17 rfl ?_
  refine g_iload_n hk dX7_put_18 rfl ?_
  refine sX_2 (j := 3) hk (vp_in_iff.mpr ⟨by decide, by decide⟩) (by decide) dX7_put_19 ?_
  refine gX_same rfl ?_
  exact g_vret hk hR ⟨rfl, rfl⟩ dX7_put_20
set_option maxHeartbeats 4000000 in
set_option maxRecDepth 100000 in
theorem m215_X7_clear (l : Launch) (D : va_G) (zt : Nat × Nat × Nat) (d : Nat → ClassId) (q : Nat → Nat) : GM l D zt (tyX d) yX7_clear wsX7_clear ({ frames := 1, cells := 0, slots := 0, locals := 22 } : Room) [.ref (q 6)] (wX q d iX0 aX0) (fun v _ w' => v = none ∧ w' = wX q d iX0 aX0) 0 0 := by
  refine GM.of (cc := cX7_clear) (maxL := 2) (ret := none) (own := RX7) (lv := [(0, .ref (q 6))]) (by decide) rfl rfl (Nat.le_of_ble_eq_true rfl) rfl (fun κ sz hk hR hN => ?_)
  refine g_iconst (v := 0) hk dX7_clear_0 (by decide) ?_
  refine g_istore_n (lv' := [(1, .int 0), (0, .ref (q 6))]) hk dX7_clear_1 (by decide) rfl ?_
  refine g_iload_n hk dX7_clear_2 rfl ?_
  refine g_getsU hk (by decide +kernel) dX7_clear_3 ?_
  refine g_lenU hk dX7_clear_6 ?_
  refine g_icmp_ge (tgt := 26) (a := 0) (b := 4) hk dX7_clear_7 (by decide) rfl rfl (fun z9 => absurd z9 (show ¬ (4 ≤ 0) from by decide)) (fun _ => ?_)
  refine g_aload_n hk dX7_clear_10 rfl ?_
  refine g_iload_n hk dX7_clear_11 rfl ?_
  refine g_getsU hk (by decide +kernel) dX7_clear_12 ?_
  refine g_iload_n hk dX7_clear_15 rfl ?_
  refine g_sU (v := .int 2) hk (vp_in_iff.mpr ⟨by decide, by decide⟩) rfl dX7_clear_16 ?_
  refine g_callV hk (m211_X7_put l D zt d q) (SP.same _) (fun _ h => h) gX7_clear_X7_put rfl rfl rfl (by decide +kernel) ⟨Nat.le_of_ble_eq_true rfl, Nat.le_of_ble_eq_true rfl⟩ 6 rfl rfl rfl rfl (Nat.le_of_ble_eq_true rfl) ⟨Nat.le_of_ble_eq_true rfl, Nat.le_of_ble_eq_true rfl⟩ dX7_clear_17 (fun v ty' w' hp hk' => ?_)
  obtain ⟨rfl, rfl⟩ := hp
  show GW κ 2 0 0 (wX q d iX0 aX0) 20 [(1, .int 0), (0, .ref (q 6))] []
  refine g_iinc (v := 1) (lv' := [(1, .int 1), (0, .ref (q 6))]) hk 0 dX7_clear_20 rfl (by decide) (by decide) rfl ?_
  refine g_goto (tgt := 2) hk dX7_clear_23 (by decide) ?_
  refine g_iload_n hk dX7_clear_2 rfl ?_
  refine g_getsU hk (by decide +kernel) dX7_clear_3 ?_
  refine g_lenU hk dX7_clear_6 ?_
  refine g_icmp_ge (tgt := 26) (a := 1) (b := 4) hk dX7_clear_7 (by decide) rfl rfl (fun z9 => absurd z9 (show ¬ (4 ≤ 1) from by decide)) (fun _ => ?_)
  refine g_aload_n hk dX7_clear_10 rfl ?_
  refine g_iload_n hk dX7_clear_11 rfl ?_
  refine g_getsU hk (by decide +kernel) dX7_clear_12 ?_
  refine g_iload_n hk dX7_clear_15 rfl ?_
  refine g_sU (v := .int 0) hk (vp_in_iff.mpr ⟨by decide, by decide⟩) rfl dX7_clear_16 ?_
  refine g_callV hk (m212_X7_put l D zt d q) (SP.same _) (fun _ h => h) gX7_clear_X7_put rfl rfl rfl (by decide +kernel) ⟨Nat.le_of_ble_eq_true rfl, Nat.le_of_ble_eq_true rfl⟩ 6 rfl rfl rfl rfl (Nat.le_of_ble_eq_true rfl) ⟨Nat.le_of_ble_eq_true rfl, Nat.le_of_ble_eq_true rfl⟩ dX7_clear_17 (fun v ty' w' hp hk' => ?_)
  obtain ⟨rfl, rfl⟩ := hp
  show GW κ 2 0 0 (wX q d iX0 aX0) 20 [(1, .int 1), (0, .ref (q 6))] []
  refine g_iinc (v := 2) (lv' := [(1, .int 2), (0, .ref (q 6))]) hk 0 dX7_clear_20 rfl (by decide) (by decide) rfl ?_
  refine g_goto (tgt := 2) hk dX7_clear_23 (by decide) ?_
  refine g_iload_n hk dX7_clear_2 rfl ?_
  refine g_getsU hk (by decide +kernel) dX7_clear_3 ?_
  refine g_lenU hk dX7_clear_6 ?_
  refine g_icmp_ge (tgt := 26) (a := 2) (b := 4) hk dX7_clear_7 (by decide) rfl rfl (fun z9 => absurd z9 (show ¬ (4 ≤ 2) from by decide)) (fun _ => ?_)
  refine g_aload_n hk dX7_clear_10 rfl ?_
  refine g_iload_n hk dX7_clear_11 rfl ?_
  refine g_getsU hk (by decide +kernel) dX7_clear_12 ?_
  refine g_iload_n hk dX7_clear_15 rfl ?_
  refine g_sU (v := .int 0) hk (vp_in_iff.mpr ⟨by decide, by decide⟩) rfl dX7_clear_16 ?_
  refine g_callV hk (m213_X7_put l D zt d q) (SP.same _) (fun _ h => h) gX7_clear_X7_put rfl rfl rfl (by decide +kernel) ⟨Nat.le_of_ble_eq_true rfl, Nat.le_of_ble_eq_true rfl⟩ 6 rfl rfl rfl rfl (Nat.le_of_ble_eq_true rfl) ⟨Nat.le_of_ble_eq_true rfl, Nat.le_of_ble_eq_true rfl⟩ dX7_clear_17 (fun v ty' w' hp hk' => ?_)
  obtain ⟨rfl, rfl⟩ := hp
  show GW κ 2 0 0 (wX q d iX0 aX0) 20 [(1, .int 2), (0, .ref (q 6))] []
  refine g_iinc (v := 3) (lv' := [(1, .int 3), (0, .ref (q 6))]) hk 0 dX7_clear_20 rfl (by decide) (by decide) rfl ?_
  refine g_goto (tgt := 2) hk dX7_clear_23 (by decide) ?_
  refine g_iload_n hk dX7_clear_2 rfl ?_
  refine g_getsU hk (by decide +kernel) dX7_clear_3 ?_
  refine g_lenU hk dX7_clear_6 ?_
  refine g_icmp_ge (tgt := 26) (a := 3) (b := 4) hk dX7_clear_7 (by decide) rfl rfl (fun z9 => absurd z9 (show ¬ (4 ≤ 3) from by decide)) (fun _ => ?_)
  refine g_aload_n hk dX7_clear_10 rfl ?_
  refine g_iload_n hk dX7_clear_11 rfl ?_
  refine g_getsU hk (by decide +kernel) dX7_clear_12 ?_
  refine g_iload_n hk dX7_clear_15 rfl ?_
  refine g_sU (v := .int 8) hk (vp_in_iff.mpr ⟨by decide, by decide⟩) rfl dX7_clear_16 ?_
  refine g_callV hk (m214_X7_put l D zt d q) (SP.same _) (fun _ h => h) gX7_clear_X7_put rfl rfl rfl (by decide +kernel) ⟨Nat.le_of_ble_eq_true rfl, Nat.le_of_ble_eq_true rfl⟩ 6 rfl rfl rfl rfl (Nat.le_of_ble_eq_true rfl) ⟨Nat.le_of_ble_eq_true rfl, Nat.le_of_ble_eq_true rfl⟩ dX7_clear_17 (fun v ty' w' hp hk' => ?_)
  obtain ⟨rfl, rfl⟩ := hp
  show GW κ 2 0 0 (wX q d iX0 aX0) 20 [(1, .int 3), (0, .ref (q 6))] []
  refine g_iinc (v := 4) (lv' := [(1, .int 4), (0, .ref (q 6))]) hk 0 dX7_clear_20 rfl (by decide) (by decide) rfl ?_
  refine g_goto (tgt := 2) hk dX7_clear_23 (by decide) ?_
  refine g_iload_n hk dX7_clear_2 rfl ?_
  refine g_getsU hk (by decide +kernel) dX7_clear_3 ?_
  refine g_lenU hk dX7_clear_6 ?_
  refine g_icmp_ge (tgt := 26) (a := 4) (b := 4) hk dX7_clear_7 (by decide) rfl rfl (fun _ => ?_) (fun z9 => absurd (show 4 ≤ 4 from by decide) z9)
  exact g_vret hk hR ⟨rfl, rfl⟩ dX7_clear_26
set_option maxHeartbeats 4000000 in
set_option maxRecDepth 100000 in
theorem m216_X8_clear (l : Launch) (D : va_G) (zt : Nat × Nat × Nat) (d : Nat → ClassId) (q : Nat → Nat) : GM l D zt (tyX d) yX8_clear wsX8_clear ({ frames := 2, cells := 0, slots := 0, locals := 43 } : Room) [.ref (q 4)] (wX q d iX0 aX0) (fun v _ w' => v = none ∧ w' = wX q d iX0 aX0) 0 0 := by
  refine GM.of (cc := cX8_clear) (maxL := 1) (ret := none) (own := RX8) (lv := [(0, .ref (q 4))]) (by decide) rfl rfl (Nat.le_of_ble_eq_true rfl) rfl (fun κ sz hk hR hN => ?_)
  have hin8 : ∀ w ∈ u_ws RX8 TX8 4, w ∈ wsX8_clear := by decide +kernel
  refine g_aload_n hk dX8_clear_0 rfl ?_
  refine g_iconst (v := 0) hk dX8_clear_1 (by decide) ?_
  refine pX_i14 hk hin8 (by decide +kernel) dX8_clear_2 ?_
  refine gX_sameI rfl ?_
  refine g_aload_n hk dX8_clear_5 rfl ?_
  refine gX_r4_2 hk hin8 (by decide +kernel) dX8_clear_6 ?_
  refine g_callV hk (m215_X7_clear l D zt d q) (SP.same _) (fun _ h => h) gX8_clear_X7_clear rfl rfl rfl (by decide +kernel) ⟨Nat.le_of_ble_eq_true rfl, Nat.le_of_ble_eq_true rfl⟩ 6 rfl rfl rfl rfl (Nat.le_of_ble_eq_true rfl) ⟨Nat.le_of_ble_eq_true rfl, Nat.le_of_ble_eq_true rfl⟩ dX8_clear_9 (fun v ty' w' hp hk' => ?_)
  obtain ⟨rfl, rfl⟩ := hp
  show GW κ 1 0 0 (wX q d iX0 aX0) 12 [(0, .ref (q 4))] []
  exact g_vret hk hR ⟨rfl, rfl⟩ dX8_clear_12
set_option maxHeartbeats 4000000 in
set_option maxRecDepth 100000 in
theorem m217_X10_behindBlanks (l : Launch) (D : va_G) (zt : Nat × Nat × Nat) (d : Nat → ClassId) (q : Nat → Nat) : GM l D zt (tyX d) yX10_behindBlanks wsX10_behindBlanks ({ frames := 0, cells := 0, slots := 0, locals := 0 } : Room) [.ref (q 1), .int 0] (wX q d iX0 aX0) (fun v _ w' => v = some (.int 0) ∧ w' = wX q d iX0 aX0) 0 0 := by
  refine GM.of (cc := cX10_behindBlanks) (maxL := 4) (ret := (some .int)) (own := RX10) (lv := [(0, .ref (q 1)), (1, .int 0)]) (by decide) rfl rfl (Nat.le_of_ble_eq_true rfl) rfl (fun κ sz hk hR hN => ?_)
  have hin10 : ∀ w ∈ u_ws RX10 TX10 7, w ∈ wsX10_behindBlanks := by decide +kernel
  refine g_iload_n hk dX10_behindBlanks_0 rfl ?_
  refine g_istore_n (lv' := [(2, .int 0), (0, .ref (q 1)), (1, .int 0)]) hk dX10_behindBlanks_1 (by decide) rfl ?_
  refine g_iload_n hk dX10_behindBlanks_2 rfl ?_
  refine g_aload_n hk dX10_behindBlanks_3 rfl ?_
  refine gX_i0 (v := 0) hk hin10 (by decide +kernel) dX10_behindBlanks_4 rfl ?_
  refine g_icmp_ge (tgt := 48) (a := 0) (b := 0) hk dX10_behindBlanks_7 (by decide) rfl rfl (fun _ => ?_) (fun z9 => absurd (show 0 ≤ 0 from by decide) z9)
  refine g_aload_n hk dX10_behindBlanks_48 rfl ?_
  refine gX_i0 (v := 0) hk hin10 (by decide +kernel) dX10_behindBlanks_49 rfl ?_
  exact g_iret hk hR rfl ⟨rfl, rfl⟩ dX10_behindBlanks_52
set_option maxHeartbeats 4000000 in
set_option maxRecDepth 100000 in
theorem m218_X10_byteAt (l : Launch) (D : va_G) (zt : Nat × Nat × Nat) (d : Nat → ClassId) (q : Nat → Nat) : GM l D zt (tyX d) yX10_byteAt wsX10_byteAt ({ frames := 0, cells := 0, slots := 0, locals := 0 } : Room) [.ref (q 1), .int 0] (wX q d (upd iX0 4 1) aX0) (fun v _ w' => v = some (.int (-1)) ∧ w' = wX q d (upd iX0 4 1) aX0) 0 0 := by
  refine GM.of (cc := cX10_byteAt) (maxL := 2) (ret := (some .int)) (own := RX10) (lv := [(0, .ref (q 1)), (1, .int 0)]) (by decide) rfl rfl (Nat.le_of_ble_eq_true rfl) rfl (fun κ sz hk hR hN => ?_)
  have hin10 : ∀ w ∈ u_ws RX10 TX10 7, w ∈ wsX10_byteAt := by decide +kernel
  refine g_iload_n hk dX10_byteAt_0 rfl ?_
  refine g_if_lt (tgt := 30) (a := 0) hk dX10_byteAt_1 (by decide) rfl (fun z9 => absurd z9 (show ¬ (0 < 0) from by decide)) (fun _ => ?_)
  refine g_iload_n hk dX10_byteAt_4 rfl ?_
  refine g_aload_n hk dX10_byteAt_5 rfl ?_
  refine gX_i0 (v := 0) hk hin10 (by decide +kernel) dX10_byteAt_6 rfl ?_
  refine g_icmp_ge (tgt := 30) (a := 0) (b := 0) hk dX10_byteAt_9 (by decide) rfl rfl (fun _ => ?_) (fun z9 => absurd (show 0 ≤ 0 from by decide) z9)
  refine g_iconst (v := (-1)) hk dX10_byteAt_30 (by decide) ?_
  exact g_iret hk hR rfl ⟨rfl, rfl⟩ dX10_byteAt_31
set_option maxHeartbeats 4000000 in
set_option maxRecDepth 100000 in
theorem m219_X10_toNextToken (l : Launch) (D : va_G) (zt : Nat × Nat × Nat) (d : Nat → ClassId) (q : Nat → Nat) : GM l D zt (tyX d) yX10_toNextToken wsX10_toNextToken ({ frames := 1, cells := 0, slots := 0, locals := 23 } : Room) [.ref (q 1)] (wX q d iX0 aX0) (fun v _ w' => v = none ∧ w' = wX q d (upd iX0 4 1) aX0) 0 0 := by
  refine GM.of (cc := cX10_toNextToken) (maxL := 2) (ret := none) (own := RX10) (lv := [(0, .ref (q 1))]) (by decide) rfl rfl (Nat.le_of_ble_eq_true rfl) rfl (fun κ sz hk hR hN => ?_)
  have hin10 : ∀ w ∈ u_ws RX10 TX10 7, w ∈ wsX10_toNextToken := by decide +kernel
  refine g_aload_n hk dX10_toNextToken_0 rfl ?_
  refine g_aload_n hk dX10_toNextToken_1 rfl ?_
  refine g_aload_n hk dX10_toNextToken_2 rfl ?_
  refine gX_i5 (v := 0) hk hin10 (by decide +kernel) dX10_toNextToken_3 rfl ?_
  refine g_callV hk (m217_X10_behindBlanks l D zt d q) (SP.same _) (fun _ h => h) gX10_toNextToken_X10_behindBlanks rfl rfl rfl (by decide +kernel) ⟨Nat.le_of_ble_eq_true rfl, Nat.le_of_ble_eq_true rfl⟩ 1 rfl rfl rfl rfl (Nat.le_of_ble_eq_true rfl) ⟨Nat.le_of_ble_eq_true rfl, Nat.le_of_ble_eq_true rfl⟩ dX10_toNextToken_6 (fun v ty' w' hp hk' => ?_)
  obtain ⟨rfl, rfl⟩ := hp
  show GW κ 2 0 0 (wX q d iX0 aX0) 9 [(0, .ref (q 1))] [.int 0, .ref (q 1)]
  refine pX_i2 hk hin10 (by decide +kernel) dX10_toNextToken_9 ?_
  refine gX_sameI rfl ?_
  refine g_aload_n hk dX10_toNextToken_12 rfl ?_
  refine g_dup hk dX10_toNextToken_13 rfl ?_
  refine gX_i4 (v := 0) hk hin10 (by decide +kernel) dX10_toNextToken_14 rfl ?_
  refine g_iconst (v := 1) hk dX10_toNextToken_17 (by decide) ?_
  refine g_iadd hk dX10_toNextToken_18 ?_
  refine g_norm (v := 1) (by decide) ?_
  refine pX_i4 hk hin10 (by decide +kernel) dX10_toNextToken_19 ?_
  refine g_aload_n hk dX10_toNextToken_22 rfl ?_
  refine g_iconst (v := 0) hk dX10_toNextToken_23 (by decide) ?_
  refine pX_i3 hk hin10 (by decide +kernel) dX10_toNextToken_24 ?_
  refine gX_sameI rfl ?_
  refine g_aload_n hk dX10_toNextToken_27 rfl ?_
  refine g_aload_n hk dX10_toNextToken_28 rfl ?_
  refine gX_i2 (v := 0) hk hin10 (by decide +kernel) dX10_toNextToken_29 rfl ?_
  refine g_callV hk (m218_X10_byteAt l D zt d q) (SP.same _) (fun _ h => h) gX10_toNextToken_X10_byteAt rfl rfl rfl (by decide +kernel) ⟨Nat.le_of_ble_eq_true rfl, Nat.le_of_ble_eq_true rfl⟩ 1 rfl rfl rfl rfl (Nat.le_of_ble_eq_true rfl) ⟨Nat.le_of_ble_eq_true rfl, Nat.le_of_ble_eq_true rfl⟩ dX10_toNextToken_32 (fun v ty' w' hp hk' => ?_)
  obtain ⟨rfl, rfl⟩ := hp
  show GW κ 2 0 0 (wX q d (upd iX0 4 1) aX0) 35 [(0, .ref (q 1))] [.int (-1)]
  refine g_istore_n (lv' := [(1, .int (-1)), (0, .ref (q 1))]) hk dX10_toNextToken_35 (by decide) rfl ?_
  refine g_iload_n hk dX10_toNextToken_36 rfl ?_
  refine g_if_ge (tgt := 56) (a := (-1)) hk dX10_toNextToken_37 (by decide) rfl (fun z9 => absurd z9 (show ¬ (0 ≤ (-1)) from by decide)) (fun _ => ?_)
  refine g_aload_n hk dX10_toNextToken_40 rfl ?_
  refine g_iconst (v := 0) hk dX10_toNextToken_41 (by decide) ?_
  refine pX_i1 hk hin10 (by decide +kernel) dX10_toNextToken_42 ?_
  refine gX_sameI rfl ?_
  refine g_aload_n hk dX10_toNextToken_45 rfl ?_
  refine g_aload_n hk dX10_toNextToken_46 rfl ?_
  refine gX_i2 (v := 0) hk hin10 (by decide +kernel) dX10_toNextToken_47 rfl ?_
  refine pX_i5 hk hin10 (by decide +kernel) dX10_toNextToken_50 ?_
  refine gX_sameI rfl ?_
  refine g_goto (tgt := 119) hk dX10_toNextToken_53 (by decide) ?_
  exact g_vret hk hR ⟨rfl, rfl⟩ dX10_toNextToken_119
set_option maxHeartbeats 4000000 in
set_option maxRecDepth 100000 in
theorem m220_X10_toFirstToken (l : Launch) (D : va_G) (zt : Nat × Nat × Nat) (d : Nat → ClassId) (q : Nat → Nat) : GM l D zt (tyX d) yX10_toFirstToken wsX10_toFirstToken ({ frames := 2, cells := 0, slots := 0, locals := 44 } : Room) [.ref (q 1)] (wX q d iX0 aX0) (fun v _ w' => v = none ∧ w' = wX q d (upd iX0 4 1) aX0) 0 0 := by
  refine GM.of (cc := cX10_toFirstToken) (maxL := 1) (ret := none) (own := RX10) (lv := [(0, .ref (q 1))]) (by decide) rfl rfl (Nat.le_of_ble_eq_true rfl) rfl (fun κ sz hk hR hN => ?_)
  have hin10 : ∀ w ∈ u_ws RX10 TX10 7, w ∈ wsX10_toFirstToken := by decide +kernel
  refine g_aload_n hk dX10_toFirstToken_0 rfl ?_
  refine g_iconst (v := 0) hk dX10_toFirstToken_1 (by decide) ?_
  refine pX_i5 hk hin10 (by decide +kernel) dX10_toFirstToken_2 ?_
  refine gX_sameI rfl ?_
  refine g_aload_n hk dX10_toFirstToken_5 rfl ?_
  refine g_iconst (v := 0) hk dX10_toFirstToken_6 (by decide) ?_
  refine pX_i4 hk hin10 (by decide +kernel) dX10_toFirstToken_7 ?_
  refine gX_sameI rfl ?_
  refine g_aload_n hk dX10_toFirstToken_10 rfl ?_
  refine g_callV hk (m219_X10_toNextToken l D zt d q) (SP.same _) (fun _ h => h) gX10_toFirstToken_X10_toNextToken rfl rfl rfl (by decide +kernel) ⟨Nat.le_of_ble_eq_true rfl, Nat.le_of_ble_eq_true rfl⟩ 1 rfl rfl rfl rfl (Nat.le_of_ble_eq_true rfl) ⟨Nat.le_of_ble_eq_true rfl, Nat.le_of_ble_eq_true rfl⟩ dX10_toFirstToken_11 (fun v ty' w' hp hk' => ?_)
  obtain ⟨rfl, rfl⟩ := hp
  show GW κ 1 0 0 (wX q d (upd iX0 4 1) aX0) 14 [(0, .ref (q 1))] []
  exact g_vret hk hR ⟨rfl, rfl⟩ dX10_toFirstToken_14
