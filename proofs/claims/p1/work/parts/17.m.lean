set_option maxHeartbeats 4000000 in
set_option maxRecDepth 100000 in
theorem m286_X11_alike (l : Launch) (D : va_G) (zt : Nat × Nat × Nat) (d : Nat → ClassId) (q : Nat → Nat) (a1 : Int32) (a2 : Int32) : GM l D zt (tyX d) yX11_alike wsX11_alike ({ frames := 1, cells := 0, slots := 0, locals := 21 } : Room) [.ref (q 0), .int a1, .int a2] (wX q d iX0 aX0) (fun v _ w' => v = some (.int (-1)) ∧ w' = wX q d iX0 aX0) 0 0 := by
  refine GM.of (cc := cX11_alike) (maxL := 3) (ret := (some .int)) (own := RX11) (lv := [(0, .ref (q 0)), (1, .int a1), (2, .int a2)]) (by decide) rfl rfl (Nat.le_of_ble_eq_true rfl) rfl (fun κ sz hk hR hN => ?_)
  have hin11 : ∀ w ∈ u_ws RX11 TX11 10, w ∈ wsX11_alike := by decide +kernel
  refine g_aload_n hk dX11_alike_0 rfl ?_
  refine gX_r0_3 hk hin11 (by decide +kernel) dX11_alike_1 ?_
  refine g_iload_n hk dX11_alike_4 rfl ?_
  refine g_callV hk (m237_X4_has l D zt d q a1) (SP.same _) (fun _ h => h) gX11_alike_X4_has rfl rfl rfl (by decide +kernel) ⟨Nat.le_of_ble_eq_true rfl, Nat.le_of_ble_eq_true rfl⟩ 15 rfl rfl rfl rfl (Nat.le_of_ble_eq_true rfl) ⟨Nat.le_of_ble_eq_true rfl, Nat.le_of_ble_eq_true rfl⟩ dX11_alike_5 (fun v ty' w' hp hk' => ?_)
  obtain ⟨rfl, rfl⟩ := hp
  show GW κ 3 0 0 (wX q d iX0 aX0) 8 [(0, .ref (q 0)), (1, .int a1), (2, .int a2)] [.int 0]
  refine g_if_eq (tgt := 22) (a := 0) hk dX11_alike_8 (by decide) rfl (fun _ => ?_) (fun z9 => absurd (show 0 = 0 from by decide) z9)
  refine g_iconst (v := (-1)) hk dX11_alike_22 (by decide) ?_
  exact g_iret hk hR rfl ⟨rfl, rfl⟩ dX11_alike_23
set_option maxHeartbeats 4000000 in
set_option maxRecDepth 100000 in
theorem m287_X11_near (l : Launch) (D : va_G) (zt : Nat × Nat × Nat) (d : Nat → ClassId) (q : Nat → Nat) (a1 : Int32) (a2 : Int32) (a3 : Int32) : GM l D zt (tyX d) yX11_near wsX11_near ({ frames := 1, cells := 0, slots := 0, locals := 23 } : Room) [.ref (q 0), .int a1, .int a2, .int a3] (wX q d iX0 aX0) (fun v _ w' => v = some (.int (-1)) ∧ w' = wX q d iX0 aX0) 0 0 := by
  refine GM.of (cc := cX11_near) (maxL := 4) (ret := (some .int)) (own := RX11) (lv := [(0, .ref (q 0)), (1, .int a1), (2, .int a2), (3, .int a3)]) (by decide) rfl rfl (Nat.le_of_ble_eq_true rfl) rfl (fun κ sz hk hR hN => ?_)
  have hin11 : ∀ w ∈ u_ws RX11 TX11 10, w ∈ wsX11_near := by decide +kernel
  refine g_iload_n hk dX11_near_0 rfl ?_
  refine g_callS hk (m272_X11_isStretch l D zt d q a2) (SP.same _) (fun _ h => h) gX11_near_X11_isStretch rfl rfl rfl (by decide +kernel) ⟨Nat.le_of_ble_eq_true rfl, Nat.le_of_ble_eq_true rfl⟩ rfl rfl (Nat.le_of_ble_eq_true rfl) ⟨Nat.le_of_ble_eq_true rfl, Nat.le_of_ble_eq_true rfl⟩ dX11_near_1 (fun v ty' w' hp hk' => ?_)
  rcases hp with ⟨c731, rfl, rfl⟩ | ⟨c732, c733, rfl, rfl⟩ | ⟨c734, c735, rfl, rfl⟩
  · show GW κ 4 0 0 (wX q d iX0 aX0) 4 [(0, .ref (q 0)), (1, .int a1), (2, .int a2), (3, .int a3)] [.int 0]
    refine g_if_eq (tgt := 28) (a := 0) hk dX11_near_4 (by decide) rfl (fun _ => ?_) (fun z9 => absurd (show 0 = 0 from by decide) z9)
    refine g_iconst (v := (-1)) hk dX11_near_28 (by decide) ?_
    exact g_iret hk hR rfl ⟨rfl, rfl⟩ dX11_near_29
  · show GW κ 4 0 0 (wX q d iX0 aX0) 4 [(0, .ref (q 0)), (1, .int a1), (2, .int a2), (3, .int a3)] [.int 0]
    refine g_if_eq (tgt := 28) (a := 0) hk dX11_near_4 (by decide) rfl (fun _ => ?_) (fun z9 => absurd (show 0 = 0 from by decide) z9)
    refine g_iconst (v := (-1)) hk dX11_near_28 (by decide) ?_
    exact g_iret hk hR rfl ⟨rfl, rfl⟩ dX11_near_29
  · show GW κ 4 0 0 (wX q d iX0 aX0) 4 [(0, .ref (q 0)), (1, .int a1), (2, .int a2), (3, .int a3)] [.int 1]
    refine g_if_eq (tgt := 28) (a := 1) hk dX11_near_4 (by decide) rfl (fun z9 => absurd z9 (show ¬ (1 = 0) from by decide)) (fun _ => ?_)
    refine g_iload_n hk dX11_near_7 rfl ?_
    refine g_if_lt (tgt := 28) (a := a3.toInt) hk dX11_near_8 (by decide) rfl (fun c736 => ?_) (fun c736 => ?_)
    · skip
      refine g_iconst (v := (-1)) hk dX11_near_28 (by decide) ?_
      exact g_iret hk hR rfl ⟨rfl, rfl⟩ dX11_near_29
    · skip
      refine g_iload_n hk dX11_near_11 rfl ?_
      refine g_iconst (v := 1) hk dX11_near_12 (by decide) ?_
      refine g_icmp_gt (tgt := 28) (a := a3.toInt) (b := 1) hk dX11_near_13 (by decide) rfl rfl (fun c737 => ?_) (fun c737 => ?_)
      · skip
        refine g_iconst (v := (-1)) hk dX11_near_28 (by decide) ?_
        exact g_iret hk hR rfl ⟨rfl, rfl⟩ dX11_near_29
      · skip
        refine g_aload_n hk dX11_near_16 rfl ?_
        refine gX_r0_2 hk hin11 (by decide +kernel) dX11_near_17 ?_
        refine g_iload_n hk dX11_near_20 rfl ?_
        refine g_iload_n hk dX11_near_21 rfl ?_
        refine g_callV hk (m273_X6_hasWindow l D zt d q a1 a2 (by omega) (by omega)) (SP.same _) (fun _ h => h) gX11_near_X6_hasWindow rfl rfl rfl (by decide +kernel) ⟨Nat.le_of_ble_eq_true rfl, Nat.le_of_ble_eq_true rfl⟩ 13 rfl rfl rfl rfl (Nat.le_of_ble_eq_true rfl) ⟨Nat.le_of_ble_eq_true rfl, Nat.le_of_ble_eq_true rfl⟩ dX11_near_22 (fun v ty' w' hp hk' => ?_)
        obtain ⟨rfl, rfl⟩ := hp
        show GW κ 4 0 0 (wX q d iX0 aX0) 25 [(0, .ref (q 0)), (1, .int a1), (2, .int a2), (3, .int a3)] [.int 0]
        refine g_if_ne (tgt := 30) (a := 0) hk dX11_near_25 (by decide) rfl (fun z9 => absurd z9 (show ¬ (0 ≠ 0) from by decide)) (fun _ => ?_)
        refine g_iconst (v := (-1)) hk dX11_near_28 (by decide) ?_
        exact g_iret hk hR rfl ⟨rfl, rfl⟩ dX11_near_29
set_option maxHeartbeats 4000000 in
set_option maxRecDepth 100000 in
theorem m288_X9_bringAll (l : Launch) (D : va_G) (zt : Nat × Nat × Nat) (d : Nat → ClassId) (q : Nat → Nat) (a1 : Int32) (h0 : 2 ≤ a1.toInt) (h1 : a1.toInt ≤ 16) : GM l D zt (tyX d) yX9_bringAll wsX9_bringAll ({ frames := 0, cells := 0, slots := 0, locals := 0 } : Room) [.ref (q 49), .int a1] (wX q d (upd (upd (upd iX0 40 (-2)) 41 (-2)) 42 (-2)) aX0) (fun v _ w' => v = none ∧ w' = wX q d (upd (upd (upd iX0 40 (-2)) 41 (-2)) 42 (-2)) aX0) 0 0 := by
  refine GM.of (cc := cX9_bringAll) (maxL := 3) (ret := none) (own := RX9) (lv := [(0, .ref (q 49)), (1, .int a1)]) (by decide) rfl rfl (Nat.le_of_ble_eq_true rfl) rfl (fun κ sz hk hR hN => ?_)
  refine g_iconst (v := 0) hk dX9_bringAll_0 (by decide) ?_
  refine g_istore_n (lv' := [(2, .int 0), (0, .ref (q 49)), (1, .int a1)]) hk dX9_bringAll_1 (by decide) rfl ?_
  have lp745 : ∀ (n747 k746 : Nat), k746 + n747 = 160 → GW κ 3 0 0 (wX q d (upd (upd (upd iX0 40 (-2)) 41 (-2)) 42 (-2)) aX0) 2 [(2, .int (nI k746)), (0, .ref (q 49)), (1, .int a1)] [] := by
    intro n747
    induction n747 with
    | zero =>
      intro k746 hk746
      obtain rfl : k746 = 160 := by omega
      show GW κ 3 0 0 (wX q d (upd (upd (upd iX0 40 (-2)) 41 (-2)) 42 (-2)) aX0) 2 [(2, .int 160), (0, .ref (q 49)), (1, .int a1)] []
      refine g_iload_n hk dX9_bringAll_2 rfl ?_
      refine g_sipush (v := 160) hk dX9_bringAll_3 (by decide) ?_
      refine g_icmp_ge (tgt := 66) (a := 160) (b := 160) hk dX9_bringAll_6 (by decide) rfl rfl (fun _ => ?_) (fun z9 => absurd (show 160 ≤ 160 from by decide) z9)
      exact g_vret hk hR ⟨rfl, rfl⟩ dX9_bringAll_66
    | succ n747 ih =>
      intro k746 hk746
      obtain ⟨x748, ex748⟩ : ∃ x : Int32, x = nI k746 := ⟨_, rfl⟩
      have hx748 : x748.toInt = (k746 : Int) := by rw [ex748]; exact nI_toInt (by omega)
      rw [← ex748]
      rw [ex748]
      exact g_lv (List.forall_mem_cons.mpr ⟨List.mem_of_getElem? (i := 0) rfl, (List.forall_mem_cons.mpr ⟨List.mem_of_getElem? (i := 1) rfl, (List.forall_mem_cons.mpr ⟨List.mem_of_getElem? (i := 2) rfl, (fun _ h => absurd h List.not_mem_nil)⟩)⟩)⟩) (ih (k746) (by omega))
  exact lp745 160 0 (by omega)
set_option maxHeartbeats 4000000 in
set_option maxRecDepth 100000 in
theorem m289_X9_findPair (l : Launch) (D : va_G) (zt : Nat × Nat × Nat) (d : Nat → ClassId) (q : Nat → Nat) (a1 : Int32) (h0 : 2 ≤ a1.toInt) (h1 : a1.toInt ≤ 16) : GM l D zt (tyX d) yX9_findPair wsX9_findPair ({ frames := 1, cells := 0, slots := 0, locals := 22 } : Room) [.ref (q 49), .int a1] (wX q d iX0 aX0) (fun v _ w' => v = none ∧ w' = wX q d (upd (upd (upd iX0 40 (-2)) 41 (-2)) 42 (-2)) aX0) 0 0 := by
  refine GM.of (cc := cX9_findPair) (maxL := 3) (ret := none) (own := RX9) (lv := [(0, .ref (q 49)), (1, .int a1)]) (by decide) rfl rfl (Nat.le_of_ble_eq_true rfl) rfl (fun κ sz hk hR hN => ?_)
  have hin9 : ∀ w ∈ u_ws RX9 TX9 11, w ∈ wsX9_findPair := by decide +kernel
  refine g_aload_n hk dX9_findPair_0 rfl ?_
  refine g_bipush (v := (-2)) hk dX9_findPair_1 (by decide) ?_
  refine pX_i40 hk hin9 (by decide +kernel) dX9_findPair_3 ?_
  refine g_aload_n hk dX9_findPair_6 rfl ?_
  refine g_bipush (v := (-2)) hk dX9_findPair_7 (by decide) ?_
  refine pX_i41 hk hin9 (by decide +kernel) dX9_findPair_9 ?_
  refine g_aload_n hk dX9_findPair_12 rfl ?_
  refine g_bipush (v := (-2)) hk dX9_findPair_13 (by decide) ?_
  refine pX_i42 hk hin9 (by decide +kernel) dX9_findPair_15 ?_
  refine g_aload_n hk dX9_findPair_18 rfl ?_
  refine g_iload_n hk dX9_findPair_19 rfl ?_
  refine g_callV hk (m288_X9_bringAll l D zt d q a1 (by omega) (by omega)) (SP.same _) (fun _ h => h) gX9_findPair_X9_bringAll rfl rfl rfl (by decide +kernel) ⟨Nat.le_of_ble_eq_true rfl, Nat.le_of_ble_eq_true rfl⟩ 49 rfl rfl rfl rfl (Nat.le_of_ble_eq_true rfl) ⟨Nat.le_of_ble_eq_true rfl, Nat.le_of_ble_eq_true rfl⟩ dX9_findPair_20 (fun v ty' w' hp hk' => ?_)
  obtain ⟨rfl, rfl⟩ := hp
  show GW κ 3 0 0 (wX q d (upd (upd (upd iX0 40 (-2)) 41 (-2)) 42 (-2)) aX0) 23 [(0, .ref (q 49)), (1, .int a1)] []
  refine g_iconst (v := 0) hk dX9_findPair_23 (by decide) ?_
  refine g_istore_n (lv' := [(2, .int 0), (0, .ref (q 49)), (1, .int a1)]) hk dX9_findPair_24 (by decide) rfl ?_
  have lp749 : ∀ (n751 k750 : Nat), k750 + n751 = 160 → GW κ 3 0 0 (wX q d (upd (upd (upd iX0 40 (-2)) 41 (-2)) 42 (-2)) aX0) 25 [(2, .int (nI k750)), (0, .ref (q 49)), (1, .int a1)] [] := by
    intro n751
    induction n751 with
    | zero =>
      intro k750 hk750
      obtain rfl : k750 = 160 := by omega
      show GW κ 3 0 0 (wX q d (upd (upd (upd iX0 40 (-2)) 41 (-2)) 42 (-2)) aX0) 25 [(2, .int 160), (0, .ref (q 49)), (1, .int a1)] []
      refine g_iload_n hk dX9_findPair_25 rfl ?_
      refine g_sipush (v := 160) hk dX9_findPair_26 (by decide) ?_
      refine g_icmp_ge (tgt := 68) (a := 160) (b := 160) hk dX9_findPair_29 (by decide) rfl rfl (fun _ => ?_) (fun z9 => absurd (show 160 ≤ 160 from by decide) z9)
      exact g_vret hk hR ⟨rfl, rfl⟩ dX9_findPair_68
    | succ n751 ih =>
      intro k750 hk750
      obtain ⟨x752, ex752⟩ : ∃ x : Int32, x = nI k750 := ⟨_, rfl⟩
      have hx752 : x752.toInt = (k750 : Int) := by rw [ex752]; exact nI_toInt (by omega)
      rw [← ex752]
      rw [ex752]
      exact g_lv (List.forall_mem_cons.mpr ⟨List.mem_of_getElem? (i := 0) rfl, (List.forall_mem_cons.mpr ⟨List.mem_of_getElem? (i := 1) rfl, (List.forall_mem_cons.mpr ⟨List.mem_of_getElem? (i := 2) rfl, (fun _ h => absurd h List.not_mem_nil)⟩)⟩)⟩) (ih (k750) (by omega))
  exact lp749 160 0 (by omega)
set_option maxHeartbeats 4000000 in
set_option maxRecDepth 100000 in
theorem m290_X11_pair (l : Launch) (D : va_G) (zt : Nat × Nat × Nat) (d : Nat → ClassId) (q : Nat → Nat) (a1 : Int32) (a2 : Int32) : GM l D zt (tyX d) yX11_pair wsX11_pair ({ frames := 2, cells := 0, slots := 0, locals := 44 } : Room) [.ref (q 0), .int a1, .int a2] (wX q d iX0 aX0) (fun v _ w' => ((a1.toInt < 2) ∧ v = some (.int (-1)) ∧ w' = wX q d iX0 aX0) ∨ ((¬ (a1.toInt < 2)) ∧ (16 < a1.toInt) ∧ v = some (.int (-1)) ∧ w' = wX q d iX0 aX0) ∨ ((¬ (a1.toInt < 2)) ∧ (¬ (16 < a1.toInt)) ∧ (a2.toInt < 0) ∧ v = some (.int (-1)) ∧ w' = wX q d iX0 aX0) ∨ ((¬ (a1.toInt < 2)) ∧ (¬ (16 < a1.toInt)) ∧ (¬ (a2.toInt < 0)) ∧ (a2.toInt ≤ 2) ∧ (a2.toInt ≠ 2) ∧ (a2.toInt ≠ 0) ∧ v = some (.int (-2)) ∧ w' = wX q d (upd (upd (upd iX0 40 (-2)) 41 (-2)) 42 (-2)) aX0) ∨ ((¬ (a1.toInt < 2)) ∧ (¬ (16 < a1.toInt)) ∧ (¬ (a2.toInt < 0)) ∧ (a2.toInt ≤ 2) ∧ (a2.toInt ≠ 2) ∧ (¬ (a2.toInt ≠ 0)) ∧ v = some (.int (-2)) ∧ w' = wX q d (upd (upd (upd iX0 40 (-2)) 41 (-2)) 42 (-2)) aX0) ∨ ((¬ (a1.toInt < 2)) ∧ (¬ (16 < a1.toInt)) ∧ (¬ (a2.toInt < 0)) ∧ (a2.toInt ≤ 2) ∧ (¬ (a2.toInt ≠ 2)) ∧ v = some (.int (-2)) ∧ w' = wX q d (upd (upd (upd iX0 40 (-2)) 41 (-2)) 42 (-2)) aX0) ∨ ((¬ (a1.toInt < 2)) ∧ (¬ (16 < a1.toInt)) ∧ (¬ (a2.toInt < 0)) ∧ (¬ (a2.toInt ≤ 2)) ∧ v = some (.int (-1)) ∧ w' = wX q d iX0 aX0)) 0 0 := by
  refine GM.of (cc := cX11_pair) (maxL := 3) (ret := (some .int)) (own := RX11) (lv := [(0, .ref (q 0)), (1, .int a1), (2, .int a2)]) (by decide) rfl rfl (Nat.le_of_ble_eq_true rfl) rfl (fun κ sz hk hR hN => ?_)
  have hin9 : ∀ w ∈ u_ws RX9 TX9 11, w ∈ wsX11_pair := by decide +kernel
  have hin11 : ∀ w ∈ u_ws RX11 TX11 10, w ∈ wsX11_pair := by decide +kernel
  refine g_iload_n hk dX11_pair_0 rfl ?_
  refine g_callS hk (m272_X11_isStretch l D zt d q a1) (SP.same _) (fun _ h => h) gX11_pair_X11_isStretch rfl rfl rfl (by decide +kernel) ⟨Nat.le_of_ble_eq_true rfl, Nat.le_of_ble_eq_true rfl⟩ rfl rfl (Nat.le_of_ble_eq_true rfl) ⟨Nat.le_of_ble_eq_true rfl, Nat.le_of_ble_eq_true rfl⟩ dX11_pair_1 (fun v ty' w' hp hk' => ?_)
  rcases hp with ⟨c738, rfl, rfl⟩ | ⟨c739, c740, rfl, rfl⟩ | ⟨c741, c742, rfl, rfl⟩
  · show GW κ 3 0 0 (wX q d iX0 aX0) 4 [(0, .ref (q 0)), (1, .int a1), (2, .int a2)] [.int 0]
    refine g_if_eq (tgt := 16) (a := 0) hk dX11_pair_4 (by decide) rfl (fun _ => ?_) (fun z9 => absurd (show 0 = 0 from by decide) z9)
    refine g_iconst (v := (-1)) hk dX11_pair_16 (by decide) ?_
    exact g_iret hk hR rfl (Or.inl ⟨c738, rfl, rfl⟩) dX11_pair_17
  · show GW κ 3 0 0 (wX q d iX0 aX0) 4 [(0, .ref (q 0)), (1, .int a1), (2, .int a2)] [.int 0]
    refine g_if_eq (tgt := 16) (a := 0) hk dX11_pair_4 (by decide) rfl (fun _ => ?_) (fun z9 => absurd (show 0 = 0 from by decide) z9)
    refine g_iconst (v := (-1)) hk dX11_pair_16 (by decide) ?_
    exact g_iret hk hR rfl (Or.inr (Or.inl ⟨c739, c740, rfl, rfl⟩)) dX11_pair_17
  · show GW κ 3 0 0 (wX q d iX0 aX0) 4 [(0, .ref (q 0)), (1, .int a1), (2, .int a2)] [.int 1]
    refine g_if_eq (tgt := 16) (a := 1) hk dX11_pair_4 (by decide) rfl (fun z9 => absurd z9 (show ¬ (1 = 0) from by decide)) (fun _ => ?_)
    refine g_iload_n hk dX11_pair_7 rfl ?_
    refine g_if_lt (tgt := 16) (a := a2.toInt) hk dX11_pair_8 (by decide) rfl (fun c743 => ?_) (fun c743 => ?_)
    · skip
      refine g_iconst (v := (-1)) hk dX11_pair_16 (by decide) ?_
      exact g_iret hk hR rfl (Or.inr (Or.inr (Or.inl ⟨c741, c742, c743, rfl, rfl⟩))) dX11_pair_17
    · skip
      refine g_iload_n hk dX11_pair_11 rfl ?_
      refine g_iconst (v := 2) hk dX11_pair_12 (by decide) ?_
      refine g_icmp_le (tgt := 18) (a := a2.toInt) (b := 2) hk dX11_pair_13 (by decide) rfl rfl (fun c744 => ?_) (fun c744 => ?_)
      · skip
        refine g_aload_n hk dX11_pair_18 rfl ?_
        refine gX_r0_9 hk hin11 (by decide +kernel) dX11_pair_19 ?_
        refine g_iload_n hk dX11_pair_22 rfl ?_
        refine g_callV hk (m289_X9_findPair l D zt d q a1 (by omega) (by omega)) (SP.same _) (fun _ h => h) gX11_pair_X9_findPair rfl rfl rfl (by decide +kernel) ⟨Nat.le_of_ble_eq_true rfl, Nat.le_of_ble_eq_true rfl⟩ 49 rfl rfl rfl rfl (Nat.le_of_ble_eq_true rfl) ⟨Nat.le_of_ble_eq_true rfl, Nat.le_of_ble_eq_true rfl⟩ dX11_pair_23 (fun v ty' w' hp hk' => ?_)
        obtain ⟨rfl, rfl⟩ := hp
        show GW κ 3 0 0 (wX q d (upd (upd (upd iX0 40 (-2)) 41 (-2)) 42 (-2)) aX0) 26 [(0, .ref (q 0)), (1, .int a1), (2, .int a2)] []
        refine g_iload_n hk dX11_pair_26 rfl ?_
        refine g_iconst (v := 2) hk dX11_pair_27 (by decide) ?_
        refine g_icmp_ne (tgt := 39) (a := a2.toInt) (b := 2) hk dX11_pair_28 (by decide) rfl rfl (fun c753 => ?_) (fun c753 => ?_)
        · skip
          refine g_iload_n hk dX11_pair_39 rfl ?_
          refine g_if_ne (tgt := 53) (a := a2.toInt) hk dX11_pair_40 (by decide) rfl (fun c754 => ?_) (fun c754 => ?_)
          · skip
            refine g_aload_n hk dX11_pair_53 rfl ?_
            refine gX_r0_9 hk hin11 (by decide +kernel) dX11_pair_54 ?_
            refine gX_i41 (v := (-2)) hk hin9 (by decide +kernel) dX11_pair_57 rfl ?_
            exact g_iret hk hR rfl (Or.inr (Or.inr (Or.inr (Or.inl ⟨c741, c742, c743, c744, c753, c754, rfl, rfl⟩)))) dX11_pair_60
          · skip
            refine g_aload_n hk dX11_pair_43 rfl ?_
            refine gX_r0_9 hk hin11 (by decide +kernel) dX11_pair_44 ?_
            refine gX_i40 (v := (-2)) hk hin9 (by decide +kernel) dX11_pair_47 rfl ?_
            refine g_goto (tgt := 60) hk dX11_pair_50 (by decide) ?_
            exact g_iret hk hR rfl (Or.inr (Or.inr (Or.inr (Or.inr (Or.inl ⟨c741, c742, c743, c744, c753, c754, rfl, rfl⟩))))) dX11_pair_60
        · skip
          refine g_aload_n hk dX11_pair_31 rfl ?_
          refine gX_r0_9 hk hin11 (by decide +kernel) dX11_pair_32 ?_
          refine gX_i42 (v := (-2)) hk hin9 (by decide +kernel) dX11_pair_35 rfl ?_
          exact g_iret hk hR rfl (Or.inr (Or.inr (Or.inr (Or.inr (Or.inr (Or.inl ⟨c741, c742, c743, c744, c753, rfl, rfl⟩)))))) dX11_pair_38
      · skip
        refine g_iconst (v := (-1)) hk dX11_pair_16 (by decide) ?_
        exact g_iret hk hR rfl (Or.inr (Or.inr (Or.inr (Or.inr (Or.inr (Or.inr (⟨c741, c742, c743, c744, rfl, rfl⟩))))))) dX11_pair_17
set_option maxHeartbeats 4000000 in
set_option maxRecDepth 100000 in
theorem m291_X9_bringAll (l : Launch) (D : va_G) (zt : Nat × Nat × Nat) (d : Nat → ClassId) (q : Nat → Nat) (a1 : Int32) (h0 : 2 ≤ a1.toInt) (h1 : a1.toInt ≤ 16) : GM l D zt (tyX d) yX9_bringAll wsX9_bringAll ({ frames := 0, cells := 0, slots := 0, locals := 0 } : Room) [.ref (q 49), .int a1] (wX q d (upd (upd iX0 43 (-2)) 44 (-2)) aX0) (fun v _ w' => v = none ∧ w' = wX q d (upd (upd iX0 43 (-2)) 44 (-2)) aX0) 0 0 := by
  refine GM.of (cc := cX9_bringAll) (maxL := 3) (ret := none) (own := RX9) (lv := [(0, .ref (q 49)), (1, .int a1)]) (by decide) rfl rfl (Nat.le_of_ble_eq_true rfl) rfl (fun κ sz hk hR hN => ?_)
  refine g_iconst (v := 0) hk dX9_bringAll_0 (by decide) ?_
  refine g_istore_n (lv' := [(2, .int 0), (0, .ref (q 49)), (1, .int a1)]) hk dX9_bringAll_1 (by decide) rfl ?_
  have lp762 : ∀ (n764 k763 : Nat), k763 + n764 = 160 → GW κ 3 0 0 (wX q d (upd (upd iX0 43 (-2)) 44 (-2)) aX0) 2 [(2, .int (nI k763)), (0, .ref (q 49)), (1, .int a1)] [] := by
    intro n764
    induction n764 with
    | zero =>
      intro k763 hk763
      obtain rfl : k763 = 160 := by omega
      show GW κ 3 0 0 (wX q d (upd (upd iX0 43 (-2)) 44 (-2)) aX0) 2 [(2, .int 160), (0, .ref (q 49)), (1, .int a1)] []
      refine g_iload_n hk dX9_bringAll_2 rfl ?_
      refine g_sipush (v := 160) hk dX9_bringAll_3 (by decide) ?_
      refine g_icmp_ge (tgt := 66) (a := 160) (b := 160) hk dX9_bringAll_6 (by decide) rfl rfl (fun _ => ?_) (fun z9 => absurd (show 160 ≤ 160 from by decide) z9)
      exact g_vret hk hR ⟨rfl, rfl⟩ dX9_bringAll_66
    | succ n764 ih =>
      intro k763 hk763
      obtain ⟨x765, ex765⟩ : ∃ x : Int32, x = nI k763 := ⟨_, rfl⟩
      have hx765 : x765.toInt = (k763 : Int) := by rw [ex765]; exact nI_toInt (by omega)
      rw [← ex765]
      rw [ex765]
      exact g_lv (List.forall_mem_cons.mpr ⟨List.mem_of_getElem? (i := 0) rfl, (List.forall_mem_cons.mpr ⟨List.mem_of_getElem? (i := 1) rfl, (List.forall_mem_cons.mpr ⟨List.mem_of_getElem? (i := 2) rfl, (fun _ h => absurd h List.not_mem_nil)⟩)⟩)⟩) (ih (k763) (by omega))
  exact lp762 160 0 (by omega)
set_option maxHeartbeats 4000000 in
set_option maxRecDepth 100000 in
theorem m292_X9_findOdd (l : Launch) (D : va_G) (zt : Nat × Nat × Nat) (d : Nat → ClassId) (q : Nat → Nat) (a1 : Int32) (h0 : 2 ≤ a1.toInt) (h1 : a1.toInt ≤ 16) : GM l D zt (tyX d) yX9_findOdd wsX9_findOdd ({ frames := 1, cells := 0, slots := 0, locals := 22 } : Room) [.ref (q 49), .int a1] (wX q d iX0 aX0) (fun v _ w' => v = none ∧ w' = wX q d (upd (upd iX0 43 (-2)) 44 (-2)) aX0) 0 0 := by
  refine GM.of (cc := cX9_findOdd) (maxL := 3) (ret := none) (own := RX9) (lv := [(0, .ref (q 49)), (1, .int a1)]) (by decide) rfl rfl (Nat.le_of_ble_eq_true rfl) rfl (fun κ sz hk hR hN => ?_)
  have hin9 : ∀ w ∈ u_ws RX9 TX9 11, w ∈ wsX9_findOdd := by decide +kernel
  refine g_aload_n hk dX9_findOdd_0 rfl ?_
  refine g_bipush (v := (-2)) hk dX9_findOdd_1 (by decide) ?_
  refine pX_i43 hk hin9 (by decide +kernel) dX9_findOdd_3 ?_
  refine g_aload_n hk dX9_findOdd_6 rfl ?_
  refine g_bipush (v := (-2)) hk dX9_findOdd_7 (by decide) ?_
  refine pX_i44 hk hin9 (by decide +kernel) dX9_findOdd_9 ?_
  refine g_aload_n hk dX9_findOdd_12 rfl ?_
  refine g_iload_n hk dX9_findOdd_13 rfl ?_
  refine g_callV hk (m291_X9_bringAll l D zt d q a1 (by omega) (by omega)) (SP.same _) (fun _ h => h) gX9_findOdd_X9_bringAll rfl rfl rfl (by decide +kernel) ⟨Nat.le_of_ble_eq_true rfl, Nat.le_of_ble_eq_true rfl⟩ 49 rfl rfl rfl rfl (Nat.le_of_ble_eq_true rfl) ⟨Nat.le_of_ble_eq_true rfl, Nat.le_of_ble_eq_true rfl⟩ dX9_findOdd_14 (fun v ty' w' hp hk' => ?_)
  obtain ⟨rfl, rfl⟩ := hp
  show GW κ 3 0 0 (wX q d (upd (upd iX0 43 (-2)) 44 (-2)) aX0) 17 [(0, .ref (q 49)), (1, .int a1)] []
  refine g_iconst (v := 0) hk dX9_findOdd_17 (by decide) ?_
  refine g_istore_n (lv' := [(2, .int 0), (0, .ref (q 49)), (1, .int a1)]) hk dX9_findOdd_18 (by decide) rfl ?_
  have lp766 : ∀ (n768 k767 : Nat), k767 + n768 = 160 → GW κ 3 0 0 (wX q d (upd (upd iX0 43 (-2)) 44 (-2)) aX0) 19 [(2, .int (nI k767)), (0, .ref (q 49)), (1, .int a1)] [] := by
    intro n768
    induction n768 with
    | zero =>
      intro k767 hk767
      obtain rfl : k767 = 160 := by omega
      show GW κ 3 0 0 (wX q d (upd (upd iX0 43 (-2)) 44 (-2)) aX0) 19 [(2, .int 160), (0, .ref (q 49)), (1, .int a1)] []
      refine g_iload_n hk dX9_findOdd_19 rfl ?_
      refine g_sipush (v := 160) hk dX9_findOdd_20 (by decide) ?_
      refine g_icmp_ge (tgt := 85) (a := 160) (b := 160) hk dX9_findOdd_23 (by decide) rfl rfl (fun _ => ?_) (fun z9 => absurd (show 160 ≤ 160 from by decide) z9)
      exact g_vret hk hR ⟨rfl, rfl⟩ dX9_findOdd_85
    | succ n768 ih =>
      intro k767 hk767
      obtain ⟨x769, ex769⟩ : ∃ x : Int32, x = nI k767 := ⟨_, rfl⟩
      have hx769 : x769.toInt = (k767 : Int) := by rw [ex769]; exact nI_toInt (by omega)
      rw [← ex769]
      rw [ex769]
      exact g_lv (List.forall_mem_cons.mpr ⟨List.mem_of_getElem? (i := 0) rfl, (List.forall_mem_cons.mpr ⟨List.mem_of_getElem? (i := 1) rfl, (List.forall_mem_cons.mpr ⟨List.mem_of_getElem? (i := 2) rfl, (fun _ h => absurd h List.not_mem_nil)⟩)⟩)⟩) (ih (k767) (by omega))
  exact lp766 160 0 (by omega)
set_option maxHeartbeats 4000000 in
set_option maxRecDepth 100000 in
theorem m293_X11_odd (l : Launch) (D : va_G) (zt : Nat × Nat × Nat) (d : Nat → ClassId) (q : Nat → Nat) (a1 : Int32) (a2 : Int32) : GM l D zt (tyX d) yX11_odd wsX11_odd ({ frames := 2, cells := 0, slots := 0, locals := 44 } : Room) [.ref (q 0), .int a1, .int a2] (wX q d iX0 aX0) (fun v _ w' => ((a1.toInt < 2) ∧ v = some (.int (-1)) ∧ w' = wX q d iX0 aX0) ∨ ((¬ (a1.toInt < 2)) ∧ (16 < a1.toInt) ∧ v = some (.int (-1)) ∧ w' = wX q d iX0 aX0) ∨ ((¬ (a1.toInt < 2)) ∧ (¬ (16 < a1.toInt)) ∧ (a2.toInt < 0) ∧ v = some (.int (-1)) ∧ w' = wX q d iX0 aX0) ∨ ((¬ (a1.toInt < 2)) ∧ (¬ (16 < a1.toInt)) ∧ (¬ (a2.toInt < 0)) ∧ (a2.toInt ≤ 1) ∧ (a2.toInt ≠ 0) ∧ v = some (.int (-2)) ∧ w' = wX q d (upd (upd iX0 43 (-2)) 44 (-2)) aX0) ∨ ((¬ (a1.toInt < 2)) ∧ (¬ (16 < a1.toInt)) ∧ (¬ (a2.toInt < 0)) ∧ (a2.toInt ≤ 1) ∧ (¬ (a2.toInt ≠ 0)) ∧ v = some (.int (-2)) ∧ w' = wX q d (upd (upd iX0 43 (-2)) 44 (-2)) aX0) ∨ ((¬ (a1.toInt < 2)) ∧ (¬ (16 < a1.toInt)) ∧ (¬ (a2.toInt < 0)) ∧ (¬ (a2.toInt ≤ 1)) ∧ v = some (.int (-1)) ∧ w' = wX q d iX0 aX0)) 0 0 := by
  refine GM.of (cc := cX11_odd) (maxL := 3) (ret := (some .int)) (own := RX11) (lv := [(0, .ref (q 0)), (1, .int a1), (2, .int a2)]) (by decide) rfl rfl (Nat.le_of_ble_eq_true rfl) rfl (fun κ sz hk hR hN => ?_)
  have hin9 : ∀ w ∈ u_ws RX9 TX9 11, w ∈ wsX11_odd := by decide +kernel
  have hin11 : ∀ w ∈ u_ws RX11 TX11 10, w ∈ wsX11_odd := by decide +kernel
  refine g_iload_n hk dX11_odd_0 rfl ?_
  refine g_callS hk (m272_X11_isStretch l D zt d q a1) (SP.same _) (fun _ h => h) gX11_odd_X11_isStretch rfl rfl rfl (by decide +kernel) ⟨Nat.le_of_ble_eq_true rfl, Nat.le_of_ble_eq_true rfl⟩ rfl rfl (Nat.le_of_ble_eq_true rfl) ⟨Nat.le_of_ble_eq_true rfl, Nat.le_of_ble_eq_true rfl⟩ dX11_odd_1 (fun v ty' w' hp hk' => ?_)
  rcases hp with ⟨c755, rfl, rfl⟩ | ⟨c756, c757, rfl, rfl⟩ | ⟨c758, c759, rfl, rfl⟩
  · show GW κ 3 0 0 (wX q d iX0 aX0) 4 [(0, .ref (q 0)), (1, .int a1), (2, .int a2)] [.int 0]
    refine g_if_eq (tgt := 16) (a := 0) hk dX11_odd_4 (by decide) rfl (fun _ => ?_) (fun z9 => absurd (show 0 = 0 from by decide) z9)
    refine g_iconst (v := (-1)) hk dX11_odd_16 (by decide) ?_
    exact g_iret hk hR rfl (Or.inl ⟨c755, rfl, rfl⟩) dX11_odd_17
  · show GW κ 3 0 0 (wX q d iX0 aX0) 4 [(0, .ref (q 0)), (1, .int a1), (2, .int a2)] [.int 0]
    refine g_if_eq (tgt := 16) (a := 0) hk dX11_odd_4 (by decide) rfl (fun _ => ?_) (fun z9 => absurd (show 0 = 0 from by decide) z9)
    refine g_iconst (v := (-1)) hk dX11_odd_16 (by decide) ?_
    exact g_iret hk hR rfl (Or.inr (Or.inl ⟨c756, c757, rfl, rfl⟩)) dX11_odd_17
  · show GW κ 3 0 0 (wX q d iX0 aX0) 4 [(0, .ref (q 0)), (1, .int a1), (2, .int a2)] [.int 1]
    refine g_if_eq (tgt := 16) (a := 1) hk dX11_odd_4 (by decide) rfl (fun z9 => absurd z9 (show ¬ (1 = 0) from by decide)) (fun _ => ?_)
    refine g_iload_n hk dX11_odd_7 rfl ?_
    refine g_if_lt (tgt := 16) (a := a2.toInt) hk dX11_odd_8 (by decide) rfl (fun c760 => ?_) (fun c760 => ?_)
    · skip
      refine g_iconst (v := (-1)) hk dX11_odd_16 (by decide) ?_
      exact g_iret hk hR rfl (Or.inr (Or.inr (Or.inl ⟨c758, c759, c760, rfl, rfl⟩))) dX11_odd_17
    · skip
      refine g_iload_n hk dX11_odd_11 rfl ?_
      refine g_iconst (v := 1) hk dX11_odd_12 (by decide) ?_
      refine g_icmp_le (tgt := 18) (a := a2.toInt) (b := 1) hk dX11_odd_13 (by decide) rfl rfl (fun c761 => ?_) (fun c761 => ?_)
      · skip
        refine g_aload_n hk dX11_odd_18 rfl ?_
        refine gX_r0_9 hk hin11 (by decide +kernel) dX11_odd_19 ?_
        refine g_iload_n hk dX11_odd_22 rfl ?_
        refine g_callV hk (m292_X9_findOdd l D zt d q a1 (by omega) (by omega)) (SP.same _) (fun _ h => h) gX11_odd_X9_findOdd rfl rfl rfl (by decide +kernel) ⟨Nat.le_of_ble_eq_true rfl, Nat.le_of_ble_eq_true rfl⟩ 49 rfl rfl rfl rfl (Nat.le_of_ble_eq_true rfl) ⟨Nat.le_of_ble_eq_true rfl, Nat.le_of_ble_eq_true rfl⟩ dX11_odd_23 (fun v ty' w' hp hk' => ?_)
        obtain ⟨rfl, rfl⟩ := hp
        show GW κ 3 0 0 (wX q d (upd (upd iX0 43 (-2)) 44 (-2)) aX0) 26 [(0, .ref (q 0)), (1, .int a1), (2, .int a2)] []
        refine g_iload_n hk dX11_odd_26 rfl ?_
        refine g_if_ne (tgt := 40) (a := a2.toInt) hk dX11_odd_27 (by decide) rfl (fun c770 => ?_) (fun c770 => ?_)
        · skip
          refine g_aload_n hk dX11_odd_40 rfl ?_
          refine gX_r0_9 hk hin11 (by decide +kernel) dX11_odd_41 ?_
          refine gX_i44 (v := (-2)) hk hin9 (by decide +kernel) dX11_odd_44 rfl ?_
          exact g_iret hk hR rfl (Or.inr (Or.inr (Or.inr (Or.inl ⟨c758, c759, c760, c761, c770, rfl, rfl⟩)))) dX11_odd_47
        · skip
          refine g_aload_n hk dX11_odd_30 rfl ?_
          refine gX_r0_9 hk hin11 (by decide +kernel) dX11_odd_31 ?_
          refine gX_i43 (v := (-2)) hk hin9 (by decide +kernel) dX11_odd_34 rfl ?_
          refine g_goto (tgt := 47) hk dX11_odd_37 (by decide) ?_
          exact g_iret hk hR rfl (Or.inr (Or.inr (Or.inr (Or.inr (Or.inl ⟨c758, c759, c760, c761, c770, rfl, rfl⟩))))) dX11_odd_47
      · skip
        refine g_iconst (v := (-1)) hk dX11_odd_16 (by decide) ?_
        exact g_iret hk hR rfl (Or.inr (Or.inr (Or.inr (Or.inr (Or.inr (⟨c758, c759, c760, c761, rfl, rfl⟩)))))) dX11_odd_17
set_option maxHeartbeats 4000000 in
set_option maxRecDepth 100000 in
theorem m294_X11_cover (l : Launch) (D : va_G) (zt : Nat × Nat × Nat) (d : Nat → ClassId) (q : Nat → Nat) (a1 : Int32) (a2 : Int32) : GM l D zt (tyX d) yX11_cover wsX11_cover ({ frames := 1, cells := 0, slots := 0, locals := 21 } : Room) [.ref (q 0), .int a1, .int a2] (wX q d iX0 aX0) (fun v _ w' => v = some (.int (-1)) ∧ w' = wX q d iX0 aX0) 0 0 := by
  refine GM.of (cc := cX11_cover) (maxL := 3) (ret := (some .int)) (own := RX11) (lv := [(0, .ref (q 0)), (1, .int a1), (2, .int a2)]) (by decide) rfl rfl (Nat.le_of_ble_eq_true rfl) rfl (fun κ sz hk hR hN => ?_)
  have hin11 : ∀ w ∈ u_ws RX11 TX11 10, w ∈ wsX11_cover := by decide +kernel
  refine g_iload_n hk dX11_cover_0 rfl ?_
  refine g_if_lt (tgt := 15) (a := a2.toInt) hk dX11_cover_1 (by decide) rfl (fun c771 => ?_) (fun c771 => ?_)
  · skip
    refine g_iconst (v := (-1)) hk dX11_cover_15 (by decide) ?_
    exact g_iret hk hR rfl ⟨rfl, rfl⟩ dX11_cover_16
  · skip
    refine g_aload_n hk dX11_cover_4 rfl ?_
    refine gX_r0_3 hk hin11 (by decide +kernel) dX11_cover_5 ?_
    refine g_iload_n hk dX11_cover_8 rfl ?_
    refine g_callV hk (m237_X4_has l D zt d q a1) (SP.same _) (fun _ h => h) gX11_cover_X4_has rfl rfl rfl (by decide +kernel) ⟨Nat.le_of_ble_eq_true rfl, Nat.le_of_ble_eq_true rfl⟩ 15 rfl rfl rfl rfl (Nat.le_of_ble_eq_true rfl) ⟨Nat.le_of_ble_eq_true rfl, Nat.le_of_ble_eq_true rfl⟩ dX11_cover_9 (fun v ty' w' hp hk' => ?_)
    obtain ⟨rfl, rfl⟩ := hp
    show GW κ 3 0 0 (wX q d iX0 aX0) 12 [(0, .ref (q 0)), (1, .int a1), (2, .int a2)] [.int 0]
    refine g_if_ne (tgt := 17) (a := 0) hk dX11_cover_12 (by decide) rfl (fun z9 => absurd z9 (show ¬ (0 ≠ 0) from by decide)) (fun _ => ?_)
    refine g_iconst (v := (-1)) hk dX11_cover_15 (by decide) ?_
    exact g_iret hk hR rfl ⟨rfl, rfl⟩ dX11_cover_16
set_option maxHeartbeats 4000000 in
set_option maxRecDepth 100000 in
theorem m295_X11_lean (l : Launch) (D : va_G) (zt : Nat × Nat × Nat) (d : Nat → ClassId) (q : Nat → Nat) (a1 : Int32) (a2 : Int32) (a3 : Int32) : GM l D zt (tyX d) yX11_lean wsX11_lean ({ frames := 3, cells := 0, slots := 0, locals := 65 } : Room) [.ref (q 0), .int a1, .int a2, .int a3] (wX q d iX0 aX0) (fun v _ w' => v = some (.int (-1)) ∧ w' = wX q d iX0 aX0) 0 0 := by
  refine GM.of (cc := cX11_lean) (maxL := 4) (ret := (some .int)) (own := RX11) (lv := [(0, .ref (q 0)), (1, .int a1), (2, .int a2), (3, .int a3)]) (by decide) rfl rfl (Nat.le_of_ble_eq_true rfl) rfl (fun κ sz hk hR hN => ?_)
  have hin11 : ∀ w ∈ u_ws RX11 TX11 10, w ∈ wsX11_lean := by decide +kernel
  refine g_iload_n hk dX11_lean_0 rfl ?_
  refine g_if_lt (tgt := 21) (a := a3.toInt) hk dX11_lean_1 (by decide) rfl (fun c772 => ?_) (fun c772 => ?_)
  · skip
    refine g_iconst (v := (-1)) hk dX11_lean_21 (by decide) ?_
    exact g_iret hk hR rfl ⟨rfl, rfl⟩ dX11_lean_22
  · skip
    refine g_iload_n hk dX11_lean_4 rfl ?_
    refine g_iconst (v := 1) hk dX11_lean_5 (by decide) ?_
    refine g_icmp_gt (tgt := 21) (a := a3.toInt) (b := 1) hk dX11_lean_6 (by decide) rfl rfl (fun c773 => ?_) (fun c773 => ?_)
    · skip
      refine g_iconst (v := (-1)) hk dX11_lean_21 (by decide) ?_
      exact g_iret hk hR rfl ⟨rfl, rfl⟩ dX11_lean_22
    · skip
      refine g_aload_n hk dX11_lean_9 rfl ?_
      refine gX_r0_7 hk hin11 (by decide +kernel) dX11_lean_10 ?_
      refine g_iload_n hk dX11_lean_13 rfl ?_
      refine g_iload_n hk dX11_lean_14 rfl ?_
      refine g_callV hk (m276_X0_openBoth l D zt d q a1 a2) (SP.same _) (fun _ h => h) gX11_lean_X0_openBoth rfl rfl rfl (by decide +kernel) ⟨Nat.le_of_ble_eq_true rfl, Nat.le_of_ble_eq_true rfl⟩ 37 rfl rfl rfl rfl (Nat.le_of_ble_eq_true rfl) ⟨Nat.le_of_ble_eq_true rfl, Nat.le_of_ble_eq_true rfl⟩ dX11_lean_15 (fun v ty' w' hp hk' => ?_)
      obtain ⟨rfl, rfl⟩ := hp
      show GW κ 4 0 0 (wX q d iX0 aX0) 18 [(0, .ref (q 0)), (1, .int a1), (2, .int a2), (3, .int a3)] [.int 0]
      refine g_if_ne (tgt := 23) (a := 0) hk dX11_lean_18 (by decide) rfl (fun z9 => absurd z9 (show ¬ (0 ≠ 0) from by decide)) (fun _ => ?_)
      refine g_iconst (v := (-1)) hk dX11_lean_21 (by decide) ?_
      exact g_iret hk hR rfl ⟨rfl, rfl⟩ dX11_lean_22
set_option maxHeartbeats 4000000 in
set_option maxRecDepth 100000 in
theorem m296_X6_hasWindow (l : Launch) (D : va_G) (zt : Nat × Nat × Nat) (d : Nat → ClassId) (q : Nat → Nat) (a1 : Int32) (a2 : Int32) : GM l D zt (tyX d) yX6_hasWindow wsX6_hasWindow ({ frames := 0, cells := 0, slots := 0, locals := 0 } : Room) [.ref (q 13), .int a1, .int a2] (wX q d iX0 aX0) (fun v _ w' => v = some (.int 0) ∧ w' = wX q d iX0 aX0) 0 0 := by
  refine GM.of (cc := cX6_hasWindow) (maxL := 4) (ret := (some .boolean)) (own := RX6) (lv := [(0, .ref (q 13)), (1, .int a1), (2, .int a2)]) (by decide) rfl rfl (Nat.le_of_ble_eq_true rfl) rfl (fun κ sz hk hR hN => ?_)
  have hin6 : ∀ w ∈ u_ws RX6 TX6 3, w ∈ wsX6_hasWindow := by decide +kernel
  refine g_iload_n hk dX6_hasWindow_0 rfl ?_
  refine g_if_lt (tgt := 27) (a := a1.toInt) hk dX6_hasWindow_1 (by decide) rfl (fun c774 => ?_) (fun c774 => ?_)
  · skip
    refine g_iconst (v := 0) hk dX6_hasWindow_27 (by decide) ?_
    exact g_iret hk hR rfl ⟨rfl, rfl⟩ dX6_hasWindow_28
  · skip
    refine g_iload_n hk dX6_hasWindow_4 rfl ?_
    refine g_aload_n hk dX6_hasWindow_5 rfl ?_
    refine gX_i18 (v := 0) hk hin6 (by decide +kernel) dX6_hasWindow_6 rfl ?_
    refine g_icmp_ge (tgt := 27) (a := a1.toInt) (b := 0) hk dX6_hasWindow_9 (by decide) rfl rfl (fun _ => ?_) (fun z9 => absurd (show 0 ≤ a1.toInt from by omega) z9)
    refine g_iconst (v := 0) hk dX6_hasWindow_27 (by decide) ?_
    exact g_iret hk hR rfl ⟨rfl, rfl⟩ dX6_hasWindow_28
set_option maxHeartbeats 4000000 in
set_option maxRecDepth 100000 in
theorem m297_X11_whose (l : Launch) (D : va_G) (zt : Nat × Nat × Nat) (d : Nat → ClassId) (q : Nat → Nat) (a1 : Int32) (a2 : Int32) : GM l D zt (tyX d) yX11_whose wsX11_whose ({ frames := 1, cells := 0, slots := 0, locals := 23 } : Room) [.ref (q 0), .int a1, .int a2] (wX q d iX0 aX0) (fun v _ w' => v = some (.int (-1)) ∧ w' = wX q d iX0 aX0) 0 0 := by
  refine GM.of (cc := cX11_whose) (maxL := 3) (ret := (some .int)) (own := RX11) (lv := [(0, .ref (q 0)), (1, .int a1), (2, .int a2)]) (by decide) rfl rfl (Nat.le_of_ble_eq_true rfl) rfl (fun κ sz hk hR hN => ?_)
  have hin11 : ∀ w ∈ u_ws RX11 TX11 10, w ∈ wsX11_whose := by decide +kernel
  refine g_aload_n hk dX11_whose_0 rfl ?_
  refine gX_r0_2 hk hin11 (by decide +kernel) dX11_whose_1 ?_
  refine g_iload_n hk dX11_whose_4 rfl ?_
  refine g_iload_n hk dX11_whose_5 rfl ?_
  refine g_callV hk (m296_X6_hasWindow l D zt d q a1 a2) (SP.same _) (fun _ h => h) gX11_whose_X6_hasWindow rfl rfl rfl (by decide +kernel) ⟨Nat.le_of_ble_eq_true rfl, Nat.le_of_ble_eq_true rfl⟩ 13 rfl rfl rfl rfl (Nat.le_of_ble_eq_true rfl) ⟨Nat.le_of_ble_eq_true rfl, Nat.le_of_ble_eq_true rfl⟩ dX11_whose_6 (fun v ty' w' hp hk' => ?_)
  obtain ⟨rfl, rfl⟩ := hp
  show GW κ 3 0 0 (wX q d iX0 aX0) 9 [(0, .ref (q 0)), (1, .int a1), (2, .int a2)] [.int 0]
  refine g_if_eq (tgt := 24) (a := 0) hk dX11_whose_9 (by decide) rfl (fun _ => ?_) (fun z9 => absurd (show 0 = 0 from by decide) z9)
  refine g_iconst (v := (-1)) hk dX11_whose_24 (by decide) ?_
  exact g_iret hk hR rfl ⟨rfl, rfl⟩ dX11_whose_25
set_option maxHeartbeats 4000000 in
set_option maxRecDepth 100000 in
theorem m298_X11_rank (l : Launch) (D : va_G) (zt : Nat × Nat × Nat) (d : Nat → ClassId) (q : Nat → Nat) (a1 : Int32) (a2 : Int32) : GM l D zt (tyX d) yX11_rank wsX11_rank ({ frames := 2, cells := 0, slots := 0, locals := 43 } : Room) [.ref (q 0), .int a1, .int a2] (wX q d iX0 aX0) (fun v _ w' => v = some (.int (-1)) ∧ w' = wX q d iX0 aX0) 0 0 := by
  refine GM.of (cc := cX11_rank) (maxL := 3) (ret := (some .int)) (own := RX11) (lv := [(0, .ref (q 0)), (1, .int a1), (2, .int a2)]) (by decide) rfl rfl (Nat.le_of_ble_eq_true rfl) rfl (fun κ sz hk hR hN => ?_)
  have hin11 : ∀ w ∈ u_ws RX11 TX11 10, w ∈ wsX11_rank := by decide +kernel
  refine g_aload_n hk dX11_rank_0 rfl ?_
  refine gX_r0_7 hk hin11 (by decide +kernel) dX11_rank_1 ?_
  refine g_iload_n hk dX11_rank_4 rfl ?_
  refine g_iload_n hk dX11_rank_5 rfl ?_
  refine g_callV hk (m275_X0_hasBoth l D zt d q a1 a2) (SP.same _) (fun _ h => h) gX11_rank_X0_hasBoth rfl rfl rfl (by decide +kernel) ⟨Nat.le_of_ble_eq_true rfl, Nat.le_of_ble_eq_true rfl⟩ 37 rfl rfl rfl rfl (Nat.le_of_ble_eq_true rfl) ⟨Nat.le_of_ble_eq_true rfl, Nat.le_of_ble_eq_true rfl⟩ dX11_rank_6 (fun v ty' w' hp hk' => ?_)
  obtain ⟨rfl, rfl⟩ := hp
  show GW κ 3 0 0 (wX q d iX0 aX0) 9 [(0, .ref (q 0)), (1, .int a1), (2, .int a2)] [.int 0]
  refine g_if_ne (tgt := 14) (a := 0) hk dX11_rank_9 (by decide) rfl (fun z9 => absurd z9 (show ¬ (0 ≠ 0) from by decide)) (fun _ => ?_)
  refine g_iconst (v := (-1)) hk dX11_rank_12 (by decide) ?_
  exact g_iret hk hR rfl ⟨rfl, rfl⟩ dX11_rank_13
set_option maxHeartbeats 4000000 in
set_option maxRecDepth 100000 in
theorem m299_X11_kth (l : Launch) (D : va_G) (zt : Nat × Nat × Nat) (d : Nat → ClassId) (q : Nat → Nat) (a1 : Int32) (a2 : Int32) (a3 : Int32) : GM l D zt (tyX d) yX11_kth wsX11_kth ({ frames := 1, cells := 0, slots := 0, locals := 21 } : Room) [.ref (q 0), .int a1, .int a2, .int a3] (wX q d iX0 aX0) (fun v _ w' => v = some (.int (-1)) ∧ w' = wX q d iX0 aX0) 0 0 := by
  refine GM.of (cc := cX11_kth) (maxL := 5) (ret := (some .int)) (own := RX11) (lv := [(0, .ref (q 0)), (1, .int a1), (2, .int a2), (3, .int a3)]) (by decide) rfl rfl (Nat.le_of_ble_eq_true rfl) rfl (fun κ sz hk hR hN => ?_)
  have hin11 : ∀ w ∈ u_ws RX11 TX11 10, w ∈ wsX11_kth := by decide +kernel
  refine g_iload_n hk dX11_kth_0 rfl ?_
  refine g_if_lt (tgt := 24) (a := a2.toInt) hk dX11_kth_1 (by decide) rfl (fun c775 => ?_) (fun c775 => ?_)
  · skip
    refine g_iconst (v := (-1)) hk dX11_kth_24 (by decide) ?_
    exact g_iret hk hR rfl ⟨rfl, rfl⟩ dX11_kth_25
  · skip
    refine g_iload_n hk dX11_kth_4 rfl ?_
    refine g_if_lt (tgt := 24) (a := a3.toInt) hk dX11_kth_5 (by decide) rfl (fun c776 => ?_) (fun c776 => ?_)
    · skip
      refine g_iconst (v := (-1)) hk dX11_kth_24 (by decide) ?_
      exact g_iret hk hR rfl ⟨rfl, rfl⟩ dX11_kth_25
    · skip
      refine g_iload_n hk dX11_kth_8 rfl ?_
      refine g_iconst (v := 1) hk dX11_kth_9 (by decide) ?_
      refine g_icmp_gt (tgt := 24) (a := a3.toInt) (b := 1) hk dX11_kth_10 (by decide) rfl rfl (fun c777 => ?_) (fun c777 => ?_)
      · skip
        refine g_iconst (v := (-1)) hk dX11_kth_24 (by decide) ?_
        exact g_iret hk hR rfl ⟨rfl, rfl⟩ dX11_kth_25
      · skip
        refine g_aload_n hk dX11_kth_13 rfl ?_
        refine gX_r0_3 hk hin11 (by decide +kernel) dX11_kth_14 ?_
        refine g_iload_n hk dX11_kth_17 rfl ?_
        refine g_callV hk (m237_X4_has l D zt d q a1) (SP.same _) (fun _ h => h) gX11_kth_X4_has rfl rfl rfl (by decide +kernel) ⟨Nat.le_of_ble_eq_true rfl, Nat.le_of_ble_eq_true rfl⟩ 15 rfl rfl rfl rfl (Nat.le_of_ble_eq_true rfl) ⟨Nat.le_of_ble_eq_true rfl, Nat.le_of_ble_eq_true rfl⟩ dX11_kth_18 (fun v ty' w' hp hk' => ?_)
        obtain ⟨rfl, rfl⟩ := hp
        show GW κ 5 0 0 (wX q d iX0 aX0) 21 [(0, .ref (q 0)), (1, .int a1), (2, .int a2), (3, .int a3)] [.int 0]
        refine g_if_ne (tgt := 26) (a := 0) hk dX11_kth_21 (by decide) rfl (fun z9 => absurd z9 (show ¬ (0 ≠ 0) from by decide)) (fun _ => ?_)
        refine g_iconst (v := (-1)) hk dX11_kth_24 (by decide) ?_
        exact g_iret hk hR rfl ⟨rfl, rfl⟩ dX11_kth_25
set_option maxHeartbeats 4000000 in
set_option maxRecDepth 100000 in
theorem m300_X11_slack (l : Launch) (D : va_G) (zt : Nat × Nat × Nat) (d : Nat → ClassId) (q : Nat → Nat) (a1 : Int32) : GM l D zt (tyX d) yX11_slack wsX11_slack ({ frames := 1, cells := 0, slots := 0, locals := 21 } : Room) [.ref (q 0), .int a1] (wX q d iX0 aX0) (fun v _ w' => v = some (.int (-1)) ∧ w' = wX q d iX0 aX0) 0 0 := by
  refine GM.of (cc := cX11_slack) (maxL := 2) (ret := (some .int)) (own := RX11) (lv := [(0, .ref (q 0)), (1, .int a1)]) (by decide) rfl rfl (Nat.le_of_ble_eq_true rfl) rfl (fun κ sz hk hR hN => ?_)
  have hin11 : ∀ w ∈ u_ws RX11 TX11 10, w ∈ wsX11_slack := by decide +kernel
  refine g_aload_n hk dX11_slack_0 rfl ?_
  refine gX_r0_3 hk hin11 (by decide +kernel) dX11_slack_1 ?_
  refine g_iload_n hk dX11_slack_4 rfl ?_
  refine g_callV hk (m237_X4_has l D zt d q a1) (SP.same _) (fun _ h => h) gX11_slack_X4_has rfl rfl rfl (by decide +kernel) ⟨Nat.le_of_ble_eq_true rfl, Nat.le_of_ble_eq_true rfl⟩ 15 rfl rfl rfl rfl (Nat.le_of_ble_eq_true rfl) ⟨Nat.le_of_ble_eq_true rfl, Nat.le_of_ble_eq_true rfl⟩ dX11_slack_5 (fun v ty' w' hp hk' => ?_)
  obtain ⟨rfl, rfl⟩ := hp
  show GW κ 2 0 0 (wX q d iX0 aX0) 8 [(0, .ref (q 0)), (1, .int a1)] [.int 0]
  refine g_if_eq (tgt := 22) (a := 0) hk dX11_slack_8 (by decide) rfl (fun _ => ?_) (fun z9 => absurd (show 0 = 0 from by decide) z9)
  refine g_iconst (v := (-1)) hk dX11_slack_22 (by decide) ?_
  exact g_iret hk hR rfl ⟨rfl, rfl⟩ dX11_slack_23
set_option maxHeartbeats 4000000 in
set_option maxRecDepth 100000 in
theorem m301_X11_turns (l : Launch) (D : va_G) (zt : Nat × Nat × Nat) (d : Nat → ClassId) (q : Nat → Nat) (a1 : Int32) : GM l D zt (tyX d) yX11_turns wsX11_turns ({ frames := 1, cells := 0, slots := 0, locals := 21 } : Room) [.ref (q 0), .int a1] (wX q d iX0 aX0) (fun v _ w' => v = some (.int (-1)) ∧ w' = wX q d iX0 aX0) 0 0 := by
  refine GM.of (cc := cX11_turns) (maxL := 2) (ret := (some .int)) (own := RX11) (lv := [(0, .ref (q 0)), (1, .int a1)]) (by decide) rfl rfl (Nat.le_of_ble_eq_true rfl) rfl (fun κ sz hk hR hN => ?_)
  have hin11 : ∀ w ∈ u_ws RX11 TX11 10, w ∈ wsX11_turns := by decide +kernel
  refine g_aload_n hk dX11_turns_0 rfl ?_
  refine gX_r0_3 hk hin11 (by decide +kernel) dX11_turns_1 ?_
  refine g_iload_n hk dX11_turns_4 rfl ?_
  refine g_callV hk (m237_X4_has l D zt d q a1) (SP.same _) (fun _ h => h) gX11_turns_X4_has rfl rfl rfl (by decide +kernel) ⟨Nat.le_of_ble_eq_true rfl, Nat.le_of_ble_eq_true rfl⟩ 15 rfl rfl rfl rfl (Nat.le_of_ble_eq_true rfl) ⟨Nat.le_of_ble_eq_true rfl, Nat.le_of_ble_eq_true rfl⟩ dX11_turns_5 (fun v ty' w' hp hk' => ?_)
  obtain ⟨rfl, rfl⟩ := hp
  show GW κ 2 0 0 (wX q d iX0 aX0) 8 [(0, .ref (q 0)), (1, .int a1)] [.int 0]
  refine g_if_ne (tgt := 13) (a := 0) hk dX11_turns_8 (by decide) rfl (fun z9 => absurd z9 (show ¬ (0 ≠ 0) from by decide)) (fun _ => ?_)
  refine g_iconst (v := (-1)) hk dX11_turns_11 (by decide) ?_
  exact g_iret hk hR rfl ⟨rfl, rfl⟩ dX11_turns_12
set_option maxHeartbeats 4000000 in
set_option maxRecDepth 100000 in
theorem m302_X6_flatWindows (l : Launch) (D : va_G) (zt : Nat × Nat × Nat) (d : Nat → ClassId) (q : Nat → Nat) (a1 : Int32) (h0 : 1 ≤ a1.toInt) (h1 : a1.toInt ≤ 160) : GM l D zt (tyX d) yX6_flatWindows wsX6_flatWindows ({ frames := 0, cells := 0, slots := 0, locals := 0 } : Room) [.ref (q 13), .int a1] (wX q d iX0 aX0) (fun v _ w' => v = some (.int 0) ∧ w' = wX q d iX0 aX0) 0 0 := by
  refine GM.of (cc := cX6_flatWindows) (maxL := 5) (ret := (some .int)) (own := RX6) (lv := [(0, .ref (q 13)), (1, .int a1)]) (by decide) rfl rfl (Nat.le_of_ble_eq_true rfl) rfl (fun κ sz hk hR hN => ?_)
  have hin6 : ∀ w ∈ u_ws RX6 TX6 3, w ∈ wsX6_flatWindows := by decide +kernel
  refine g_iconst (v := 0) hk dX6_flatWindows_0 (by decide) ?_
  refine g_istore_n (lv' := [(2, .int 0), (0, .ref (q 13)), (1, .int a1)]) hk dX6_flatWindows_1 (by decide) rfl ?_
  refine g_iconst (v := 0) hk dX6_flatWindows_2 (by decide) ?_
  refine g_istore_n (lv' := [(3, .int 0), (2, .int 0), (0, .ref (q 13)), (1, .int a1)]) hk dX6_flatWindows_3 (by decide) rfl ?_
  refine g_iconst (v := 0) hk dX6_flatWindows_4 (by decide) ?_
  refine g_istore (lv' := [(4, .int 0), (3, .int 0), (2, .int 0), (0, .ref (q 13)), (1, .int a1)]) hk dX6_flatWindows_5 (by decide) rfl ?_
  refine g_iload hk dX6_flatWindows_7 rfl ?_
  refine g_aload_n hk dX6_flatWindows_9 rfl ?_
  refine gX_i18 (v := 0) hk hin6 (by decide +kernel) dX6_flatWindows_10 rfl ?_
  refine g_icmp_ge (tgt := 73) (a := 0) (b := 0) hk dX6_flatWindows_13 (by decide) rfl rfl (fun _ => ?_) (fun z9 => absurd (show 0 ≤ 0 from by decide) z9)
  refine g_iload_n hk dX6_flatWindows_73 rfl ?_
  exact g_iret hk hR rfl ⟨rfl, rfl⟩ dX6_flatWindows_74
set_option maxHeartbeats 4000000 in
set_option maxRecDepth 100000 in
theorem m303_X11_flat (l : Launch) (D : va_G) (zt : Nat × Nat × Nat) (d : Nat → ClassId) (q : Nat → Nat) (a1 : Int32) : GM l D zt (tyX d) yX11_flat wsX11_flat ({ frames := 1, cells := 0, slots := 0, locals := 24 } : Room) [.ref (q 0), .int a1] (wX q d iX0 aX0) (fun v _ w' => ((a1.toInt < 1) ∧ v = some (.int (-1)) ∧ w' = wX q d iX0 aX0) ∨ ((¬ (a1.toInt < 1)) ∧ (a1.toInt ≤ 160) ∧ v = some (.int 0) ∧ w' = wX q d iX0 aX0) ∨ ((¬ (a1.toInt < 1)) ∧ (¬ (a1.toInt ≤ 160)) ∧ v = some (.int (-1)) ∧ w' = wX q d iX0 aX0)) 0 0 := by
  refine GM.of (cc := cX11_flat) (maxL := 2) (ret := (some .int)) (own := RX11) (lv := [(0, .ref (q 0)), (1, .int a1)]) (by decide) rfl rfl (Nat.le_of_ble_eq_true rfl) rfl (fun κ sz hk hR hN => ?_)
  have hin11 : ∀ w ∈ u_ws RX11 TX11 10, w ∈ wsX11_flat := by decide +kernel
  refine g_iload_n hk dX11_flat_0 rfl ?_
  refine g_iconst (v := 1) hk dX11_flat_1 (by decide) ?_
  refine g_icmp_lt (tgt := 12) (a := a1.toInt) (b := 1) hk dX11_flat_2 (by decide) rfl rfl (fun c778 => ?_) (fun c778 => ?_)
  · skip
    refine g_iconst (v := (-1)) hk dX11_flat_12 (by decide) ?_
    refine g_goto (tgt := 24) hk dX11_flat_13 (by decide) ?_
    exact g_iret hk hR rfl (Or.inl ⟨c778, rfl, rfl⟩) dX11_flat_24
  · skip
    refine g_iload_n hk dX11_flat_5 rfl ?_
    refine g_sipush (v := 160) hk dX11_flat_6 (by decide) ?_
    refine g_icmp_le (tgt := 16) (a := a1.toInt) (b := 160) hk dX11_flat_9 (by decide) rfl rfl (fun c779 => ?_) (fun c779 => ?_)
    · skip
      refine g_aload_n hk dX11_flat_16 rfl ?_
      refine gX_r0_2 hk hin11 (by decide +kernel) dX11_flat_17 ?_
      refine g_iload_n hk dX11_flat_20 rfl ?_
      refine g_callV hk (m302_X6_flatWindows l D zt d q a1 (by omega) (by omega)) (SP.same _) (fun _ h => h) gX11_flat_X6_flatWindows rfl rfl rfl (by decide +kernel) ⟨Nat.le_of_ble_eq_true rfl, Nat.le_of_ble_eq_true rfl⟩ 13 rfl rfl rfl rfl (Nat.le_of_ble_eq_true rfl) ⟨Nat.le_of_ble_eq_true rfl, Nat.le_of_ble_eq_true rfl⟩ dX11_flat_21 (fun v ty' w' hp hk' => ?_)
      obtain ⟨rfl, rfl⟩ := hp
      show GW κ 2 0 0 (wX q d iX0 aX0) 24 [(0, .ref (q 0)), (1, .int a1)] [.int 0]
      exact g_iret hk hR rfl (Or.inr (Or.inl ⟨c778, c779, rfl, rfl⟩)) dX11_flat_24
    · skip
      refine g_iconst (v := (-1)) hk dX11_flat_12 (by decide) ?_
      refine g_goto (tgt := 24) hk dX11_flat_13 (by decide) ?_
      exact g_iret hk hR rfl (Or.inr (Or.inr (⟨c778, c779, rfl, rfl⟩))) dX11_flat_24
set_option maxHeartbeats 4000000 in
set_option maxRecDepth 100000 in
theorem m304_X6_longestRunFirst (l : Launch) (D : va_G) (zt : Nat × Nat × Nat) (d : Nat → ClassId) (q : Nat → Nat) : GM l D zt (tyX d) yX6_longestRunFirst wsX6_longestRunFirst ({ frames := 0, cells := 0, slots := 0, locals := 0 } : Room) [.ref (q 13)] (wX q d iX0 aX0) (fun v _ w' => v = some (.int (-2)) ∧ w' = wX q d iX0 aX0) 0 0 := by
  refine GM.of (cc := cX6_longestRunFirst) (maxL := 5) (ret := (some .int)) (own := RX6) (lv := [(0, .ref (q 13))]) (by decide) rfl rfl (Nat.le_of_ble_eq_true rfl) rfl (fun κ sz hk hR hN => ?_)
  have hin6 : ∀ w ∈ u_ws RX6 TX6 3, w ∈ wsX6_longestRunFirst := by decide +kernel
  refine g_bipush (v := (-2)) hk dX6_longestRunFirst_0 (by decide) ?_
  refine g_istore_n (lv' := [(1, .int (-2)), (0, .ref (q 13))]) hk dX6_longestRunFirst_2 (by decide) rfl ?_
  refine g_iconst (v := 0) hk dX6_longestRunFirst_3 (by decide) ?_
  refine g_istore_n (lv' := [(2, .int 0), (1, .int (-2)), (0, .ref (q 13))]) hk dX6_longestRunFirst_4 (by decide) rfl ?_
  refine g_iconst (v := 0) hk dX6_longestRunFirst_5 (by decide) ?_
  refine g_istore_n (lv' := [(3, .int 0), (2, .int 0), (1, .int (-2)), (0, .ref (q 13))]) hk dX6_longestRunFirst_6 (by decide) rfl ?_
  refine g_iload_n hk dX6_longestRunFirst_7 rfl ?_
  refine g_aload_n hk dX6_longestRunFirst_8 rfl ?_
  refine gX_i18 (v := 0) hk hin6 (by decide +kernel) dX6_longestRunFirst_9 rfl ?_
  refine g_icmp_ge (tgt := 39) (a := 0) (b := 0) hk dX6_longestRunFirst_12 (by decide) rfl rfl (fun _ => ?_) (fun z9 => absurd (show 0 ≤ 0 from by decide) z9)
  refine g_iload_n hk dX6_longestRunFirst_39 rfl ?_
  exact g_iret hk hR rfl ⟨rfl, rfl⟩ dX6_longestRunFirst_40
set_option maxHeartbeats 4000000 in
set_option maxRecDepth 100000 in
theorem m305_X11_whole (l : Launch) (D : va_G) (zt : Nat × Nat × Nat) (d : Nat → ClassId) (q : Nat → Nat) (a1 : Int32) : GM l D zt (tyX d) yX11_whole wsX11_whole ({ frames := 1, cells := 0, slots := 0, locals := 24 } : Room) [.ref (q 0), .int a1] (wX q d iX0 aX0) (fun v _ w' => ((a1.toInt < 0) ∧ v = some (.int (-1)) ∧ w' = wX q d iX0 aX0) ∨ ((¬ (a1.toInt < 0)) ∧ (a1.toInt ≤ 1) ∧ v = some (.int (-2)) ∧ w' = wX q d iX0 aX0) ∨ ((¬ (a1.toInt < 0)) ∧ (¬ (a1.toInt ≤ 1)) ∧ v = some (.int (-1)) ∧ w' = wX q d iX0 aX0)) 0 0 := by
  refine GM.of (cc := cX11_whole) (maxL := 3) (ret := (some .int)) (own := RX11) (lv := [(0, .ref (q 0)), (1, .int a1)]) (by decide) rfl rfl (Nat.le_of_ble_eq_true rfl) rfl (fun κ sz hk hR hN => ?_)
  have hin11 : ∀ w ∈ u_ws RX11 TX11 10, w ∈ wsX11_whole := by decide +kernel
  refine g_iload_n hk dX11_whole_0 rfl ?_
  refine g_if_lt (tgt := 9) (a := a1.toInt) hk dX11_whole_1 (by decide) rfl (fun c780 => ?_) (fun c780 => ?_)
  · skip
    refine g_iconst (v := (-1)) hk dX11_whole_9 (by decide) ?_
    exact g_iret hk hR rfl (Or.inl ⟨c780, rfl, rfl⟩) dX11_whole_10
  · skip
    refine g_iload_n hk dX11_whole_4 rfl ?_
    refine g_iconst (v := 1) hk dX11_whole_5 (by decide) ?_
    refine g_icmp_le (tgt := 11) (a := a1.toInt) (b := 1) hk dX11_whole_6 (by decide) rfl rfl (fun c781 => ?_) (fun c781 => ?_)
    · skip
      refine g_aload_n hk dX11_whole_11 rfl ?_
      refine gX_r0_2 hk hin11 (by decide +kernel) dX11_whole_12 ?_
      refine g_callV hk (m304_X6_longestRunFirst l D zt d q) (SP.same _) (fun _ h => h) gX11_whole_X6_longestRunFirst rfl rfl rfl (by decide +kernel) ⟨Nat.le_of_ble_eq_true rfl, Nat.le_of_ble_eq_true rfl⟩ 13 rfl rfl rfl rfl (Nat.le_of_ble_eq_true rfl) ⟨Nat.le_of_ble_eq_true rfl, Nat.le_of_ble_eq_true rfl⟩ dX11_whole_15 (fun v ty' w' hp hk' => ?_)
      obtain ⟨rfl, rfl⟩ := hp
      show GW κ 3 0 0 (wX q d iX0 aX0) 18 [(0, .ref (q 0)), (1, .int a1)] [.int (-2)]
      refine g_istore_n (lv' := [(2, .int (-2)), (0, .ref (q 0)), (1, .int a1)]) hk dX11_whole_18 (by decide) rfl ?_
      refine g_iload_n hk dX11_whole_19 rfl ?_
      refine g_if_lt (tgt := 27) (a := (-2)) hk dX11_whole_20 (by decide) rfl (fun _ => ?_) (fun z9 => absurd (show (-2) < 0 from by decide) z9)
      refine g_iload_n hk dX11_whole_27 rfl ?_
      exact g_iret hk hR rfl (Or.inr (Or.inl ⟨c780, c781, rfl, rfl⟩)) dX11_whole_28
    · skip
      refine g_iconst (v := (-1)) hk dX11_whole_9 (by decide) ?_
      exact g_iret hk hR rfl (Or.inr (Or.inr (⟨c780, c781, rfl, rfl⟩))) dX11_whole_10
set_option maxHeartbeats 4000000 in
set_option maxRecDepth 100000 in
theorem m306_X1_firedBits (l : Launch) (D : va_G) (zt : Nat × Nat × Nat) (d : Nat → ClassId) (q : Nat → Nat) (a1 : Int32) (h0 : 0 ≤ a1.toInt) : GM l D zt (tyX d) yX1_firedBits wsX1_firedBits ({ frames := 0, cells := 0, slots := 0, locals := 0 } : Room) [.ref (q 43), .int a1] (wX q d iX0 aX0) (fun v _ w' => v = some (.int 0) ∧ w' = wX q d iX0 aX0) 0 0 := by
  refine GM.of (cc := cX1_firedBits) (maxL := 5) (ret := (some .int)) (own := RX1) (lv := [(0, .ref (q 43)), (1, .int a1)]) (by decide) rfl rfl (Nat.le_of_ble_eq_true rfl) rfl (fun κ sz hk hR hN => ?_)
  have hin1 : ∀ w ∈ u_ws RX1 TX1 11, w ∈ wsX1_firedBits := by decide +kernel
  have hin4 : ∀ w ∈ u_ws RX4 TX4 3, w ∈ wsX1_firedBits := by decide +kernel
  refine g_iconst (v := 0) hk dX1_firedBits_0 (by decide) ?_
  refine g_istore_n (lv' := [(2, .int 0), (0, .ref (q 43)), (1, .int a1)]) hk dX1_firedBits_1 (by decide) rfl ?_
  refine g_iconst (v := 0) hk dX1_firedBits_2 (by decide) ?_
  refine g_istore_n (lv' := [(3, .int 0), (2, .int 0), (0, .ref (q 43)), (1, .int a1)]) hk dX1_firedBits_3 (by decide) rfl ?_
  refine g_iload_n hk dX1_firedBits_4 rfl ?_
  refine g_aload_n hk dX1_firedBits_5 rfl ?_
  refine gX_r43_2 hk hin1 (by decide +kernel) dX1_firedBits_6 ?_
  refine gX_i19 (v := 0) hk hin4 (by decide +kernel) dX1_firedBits_9 rfl ?_
  refine g_icmp_ge (tgt := 72) (a := 0) (b := 0) hk dX1_firedBits_12 (by decide) rfl rfl (fun _ => ?_) (fun z9 => absurd (show 0 ≤ 0 from by decide) z9)
  refine g_iload_n hk dX1_firedBits_72 rfl ?_
  exact g_iret hk hR rfl ⟨rfl, rfl⟩ dX1_firedBits_73
set_option maxHeartbeats 4000000 in
set_option maxRecDepth 100000 in
theorem m307_X11_fired (l : Launch) (D : va_G) (zt : Nat × Nat × Nat) (d : Nat → ClassId) (q : Nat → Nat) (a1 : Int32) : GM l D zt (tyX d) yX11_fired wsX11_fired ({ frames := 1, cells := 0, slots := 0, locals := 24 } : Room) [.ref (q 0), .int a1] (wX q d iX0 aX0) (fun v _ w' => ((0 ≤ a1.toInt) ∧ v = some (.int 0) ∧ w' = wX q d iX0 aX0) ∨ ((¬ (0 ≤ a1.toInt)) ∧ v = some (.int (-1)) ∧ w' = wX q d iX0 aX0)) 0 0 := by
  refine GM.of (cc := cX11_fired) (maxL := 2) (ret := (some .int)) (own := RX11) (lv := [(0, .ref (q 0)), (1, .int a1)]) (by decide) rfl rfl (Nat.le_of_ble_eq_true rfl) rfl (fun κ sz hk hR hN => ?_)
  have hin11 : ∀ w ∈ u_ws RX11 TX11 10, w ∈ wsX11_fired := by decide +kernel
  refine g_iload_n hk dX11_fired_0 rfl ?_
  refine g_if_ge (tgt := 8) (a := a1.toInt) hk dX11_fired_1 (by decide) rfl (fun c782 => ?_) (fun c782 => ?_)
  · skip
    refine g_aload_n hk dX11_fired_8 rfl ?_
    refine gX_r0_8 hk hin11 (by decide +kernel) dX11_fired_9 ?_
    refine g_iload_n hk dX11_fired_12 rfl ?_
    refine g_callV hk (m306_X1_firedBits l D zt d q a1 (by omega)) (SP.same _) (fun _ h => h) gX11_fired_X1_firedBits rfl rfl rfl (by decide +kernel) ⟨Nat.le_of_ble_eq_true rfl, Nat.le_of_ble_eq_true rfl⟩ 43 rfl rfl rfl rfl (Nat.le_of_ble_eq_true rfl) ⟨Nat.le_of_ble_eq_true rfl, Nat.le_of_ble_eq_true rfl⟩ dX11_fired_13 (fun v ty' w' hp hk' => ?_)
    obtain ⟨rfl, rfl⟩ := hp
    show GW κ 2 0 0 (wX q d iX0 aX0) 16 [(0, .ref (q 0)), (1, .int a1)] [.int 0]
    exact g_iret hk hR rfl (Or.inl ⟨c782, rfl, rfl⟩) dX11_fired_16
  · skip
    refine g_iconst (v := (-1)) hk dX11_fired_4 (by decide) ?_
    refine g_goto (tgt := 16) hk dX11_fired_5 (by decide) ?_
    exact g_iret hk hR rfl (Or.inr (⟨c782, rfl, rfl⟩)) dX11_fired_16
set_option maxHeartbeats 4000000 in
set_option maxRecDepth 100000 in
theorem m308_X6_copyInto (l : Launch) (D : va_G) (zt : Nat × Nat × Nat) (d : Nat → ClassId) (q : Nat → Nat) : GM l D zt (tyX d) yX6_copyInto wsX6_copyInto ({ frames := 0, cells := 0, slots := 0, locals := 0 } : Room) [.ref (q 13), .ref (q 25)] (wX q d iX0 aX0) (fun v _ w' => v = none ∧ w' = wX q d iX0 aX0) 0 0 := by
  refine GM.of (cc := cX6_copyInto) (maxL := 3) (ret := none) (own := RX6) (lv := [(0, .ref (q 13)), (1, .ref (q 25))]) (by decide) rfl rfl (Nat.le_of_ble_eq_true rfl) rfl (fun κ sz hk hR hN => ?_)
  have hin6 : ∀ w ∈ u_ws RX6 TX6 3, w ∈ wsX6_copyInto := by decide +kernel
  have hin8 : ∀ w ∈ u_ws RX8 TX8 4, w ∈ wsX6_copyInto := by decide +kernel
  refine g_aload_n hk dX6_copyInto_0 rfl ?_
  refine g_iconst (v := 0) hk dX6_copyInto_1 (by decide) ?_
  refine pX_i22 hk hin8 (by decide +kernel) dX6_copyInto_2 ?_
  refine gX_sameI rfl ?_
  refine g_iconst (v := 0) hk dX6_copyInto_5 (by decide) ?_
  refine g_istore_n (lv' := [(2, .int 0), (0, .ref (q 13)), (1, .ref (q 25))]) hk dX6_copyInto_6 (by decide) rfl ?_
  refine g_iload_n hk dX6_copyInto_7 rfl ?_
  refine g_aload_n hk dX6_copyInto_8 rfl ?_
  refine gX_i18 (v := 0) hk hin6 (by decide +kernel) dX6_copyInto_9 rfl ?_
  refine g_icmp_ge (tgt := 30) (a := 0) (b := 0) hk dX6_copyInto_12 (by decide) rfl rfl (fun _ => ?_) (fun z9 => absurd (show 0 ≤ 0 from by decide) z9)
  exact g_vret hk hR ⟨rfl, rfl⟩ dX6_copyInto_30
set_option maxHeartbeats 4000000 in
set_option maxRecDepth 100000 in
theorem m309_X7_valueOf (l : Launch) (D : va_G) (zt : Nat × Nat × Nat) (d : Nat → ClassId) (q : Nat → Nat) : GM l D zt (tyX d) yX7_valueOf wsX7_valueOf ({ frames := 0, cells := 0, slots := 0, locals := 0 } : Room) [.ref (q 18), .int 0] (wX q d iX0 aX0) (fun v _ w' => v = some (.int 2) ∧ w' = wX q d iX0 aX0) 0 0 := by
  refine GM.of (cc := cX7_valueOf) (maxL := 2) (ret := (some .int)) (own := RX7) (lv := [(0, .ref (q 18)), (1, .int 0)]) (by decide) rfl rfl (Nat.le_of_ble_eq_true rfl) rfl (fun κ sz hk hR hN => ?_)
  have hin7 : ∀ w ∈ u_ws RX7 TX7 1, w ∈ wsX7_valueOf := by decide +kernel
  refine g_iload_n hk dX7_valueOf_0 rfl ?_
  refine g_if_lt (tgt := 22) (a := 0) hk dX7_valueOf_1 (by decide) rfl (fun z9 => absurd z9 (show ¬ (0 < 0) from by decide)) (fun _ => ?_)
  refine g_iload_n hk dX7_valueOf_4 rfl ?_
  refine g_aload_n hk dX7_valueOf_5 rfl ?_
  refine gX_r18_0 hk hin7 (by decide +kernel) dX7_valueOf_6 ?_
  refine nX_10 hk dX7_valueOf_9 ?_
  refine g_icmp_ge (tgt := 22) (a := 0) (b := 4) hk dX7_valueOf_10 (by decide) rfl rfl (fun z9 => absurd z9 (show ¬ (4 ≤ 0) from by decide)) (fun _ => ?_)
  refine g_aload_n hk dX7_valueOf_13 rfl ?_
  refine gX_r18_0 hk hin7 (by decide +kernel) dX7_valueOf_14 ?_
  refine g_iload_n hk dX7_valueOf_17 rfl ?_
  refine lX_10 (v := 2) hk (vp_in_iff.mpr ⟨by decide, by decide⟩) rfl dX7_valueOf_18 ?_
  refine g_goto (tgt := 23) hk dX7_valueOf_19 (by decide) ?_
  exact g_iret hk hR rfl ⟨rfl, rfl⟩ dX7_valueOf_23
set_option maxHeartbeats 4000000 in
set_option maxRecDepth 100000 in
theorem m310_X7_valueOf (l : Launch) (D : va_G) (zt : Nat × Nat × Nat) (d : Nat → ClassId) (q : Nat → Nat) : GM l D zt (tyX d) yX7_valueOf wsX7_valueOf ({ frames := 0, cells := 0, slots := 0, locals := 0 } : Room) [.ref (q 18), .int 1] (wX q d iX0 aX0) (fun v _ w' => v = some (.int 0) ∧ w' = wX q d iX0 aX0) 0 0 := by
  refine GM.of (cc := cX7_valueOf) (maxL := 2) (ret := (some .int)) (own := RX7) (lv := [(0, .ref (q 18)), (1, .int 1)]) (by decide) rfl rfl (Nat.le_of_ble_eq_true rfl) rfl (fun κ sz hk hR hN => ?_)
  have hin7 : ∀ w ∈ u_ws RX7 TX7 1, w ∈ wsX7_valueOf := by decide +kernel
  refine g_iload_n hk dX7_valueOf_0 rfl ?_
  refine g_if_lt (tgt := 22) (a := 1) hk dX7_valueOf_1 (by decide) rfl (fun z9 => absurd z9 (show ¬ (1 < 0) from by decide)) (fun _ => ?_)
  refine g_iload_n hk dX7_valueOf_4 rfl ?_
  refine g_aload_n hk dX7_valueOf_5 rfl ?_
  refine gX_r18_0 hk hin7 (by decide +kernel) dX7_valueOf_6 ?_
  refine nX_10 hk dX7_valueOf_9 ?_
  refine g_icmp_ge (tgt := 22) (a := 1) (b := 4) hk dX7_valueOf_10 (by decide) rfl rfl (fun z9 => absurd z9 (show ¬ (4 ≤ 1) from by decide)) (fun _ => ?_)
  refine g_aload_n hk dX7_valueOf_13 rfl ?_
  refine gX_r18_0 hk hin7 (by decide +kernel) dX7_valueOf_14 ?_
  refine g_iload_n hk dX7_valueOf_17 rfl ?_
  refine lX_10 (v := 0) hk (vp_in_iff.mpr ⟨by decide, by decide⟩) rfl dX7_valueOf_18 ?_
  refine g_goto (tgt := 23) hk dX7_valueOf_19 (by decide) ?_
  exact g_iret hk hR rfl ⟨rfl, rfl⟩ dX7_valueOf_23
set_option maxHeartbeats 4000000 in
set_option maxRecDepth 100000 in
theorem m311_X7_valueOf (l : Launch) (D : va_G) (zt : Nat × Nat × Nat) (d : Nat → ClassId) (q : Nat → Nat) : GM l D zt (tyX d) yX7_valueOf wsX7_valueOf ({ frames := 0, cells := 0, slots := 0, locals := 0 } : Room) [.ref (q 18), .int 2] (wX q d iX0 aX0) (fun v _ w' => v = some (.int 0) ∧ w' = wX q d iX0 aX0) 0 0 := by
  refine GM.of (cc := cX7_valueOf) (maxL := 2) (ret := (some .int)) (own := RX7) (lv := [(0, .ref (q 18)), (1, .int 2)]) (by decide) rfl rfl (Nat.le_of_ble_eq_true rfl) rfl (fun κ sz hk hR hN => ?_)
  have hin7 : ∀ w ∈ u_ws RX7 TX7 1, w ∈ wsX7_valueOf := by decide +kernel
  refine g_iload_n hk dX7_valueOf_0 rfl ?_
  refine g_if_lt (tgt := 22) (a := 2) hk dX7_valueOf_1 (by decide) rfl (fun z9 => absurd z9 (show ¬ (2 < 0) from by decide)) (fun _ => ?_)
  refine g_iload_n hk dX7_valueOf_4 rfl ?_
  refine g_aload_n hk dX7_valueOf_5 rfl ?_
  refine gX_r18_0 hk hin7 (by decide +kernel) dX7_valueOf_6 ?_
  refine nX_10 hk dX7_valueOf_9 ?_
  refine g_icmp_ge (tgt := 22) (a := 2) (b := 4) hk dX7_valueOf_10 (by decide) rfl rfl (fun z9 => absurd z9 (show ¬ (4 ≤ 2) from by decide)) (fun _ => ?_)
  refine g_aload_n hk dX7_valueOf_13 rfl ?_
  refine gX_r18_0 hk hin7 (by decide +kernel) dX7_valueOf_14 ?_
  refine g_iload_n hk dX7_valueOf_17 rfl ?_
  refine lX_10 (v := 0) hk (vp_in_iff.mpr ⟨by decide, by decide⟩) rfl dX7_valueOf_18 ?_
  refine g_goto (tgt := 23) hk dX7_valueOf_19 (by decide) ?_
  exact g_iret hk hR rfl ⟨rfl, rfl⟩ dX7_valueOf_23
set_option maxHeartbeats 4000000 in
set_option maxRecDepth 100000 in
theorem m312_X7_valueOf (l : Launch) (D : va_G) (zt : Nat × Nat × Nat) (d : Nat → ClassId) (q : Nat → Nat) : GM l D zt (tyX d) yX7_valueOf wsX7_valueOf ({ frames := 0, cells := 0, slots := 0, locals := 0 } : Room) [.ref (q 18), .int 3] (wX q d iX0 aX0) (fun v _ w' => v = some (.int 8) ∧ w' = wX q d iX0 aX0) 0 0 := by
  refine GM.of (cc := cX7_valueOf) (maxL := 2) (ret := (some .int)) (own := RX7) (lv := [(0, .ref (q 18)), (1, .int 3)]) (by decide) rfl rfl (Nat.le_of_ble_eq_true rfl) rfl (fun κ sz hk hR hN => ?_)
  have hin7 : ∀ w ∈ u_ws RX7 TX7 1, w ∈ wsX7_valueOf := by decide +kernel
  refine g_iload_n hk dX7_valueOf_0 rfl ?_
  refine g_if_lt (tgt := 22) (a := 3) hk dX7_valueOf_1 (by decide) rfl (fun z9 => absurd z9 (show ¬ (3 < 0) from by decide)) (fun _ => ?_)
  refine g_iload_n hk dX7_valueOf_4 rfl ?_
  refine g_aload_n hk dX7_valueOf_5 rfl ?_
  refine gX_r18_0 hk hin7 (by decide +kernel) dX7_valueOf_6 ?_
  refine nX_10 hk dX7_valueOf_9 ?_
  refine g_icmp_ge (tgt := 22) (a := 3) (b := 4) hk dX7_valueOf_10 (by decide) rfl rfl (fun z9 => absurd z9 (show ¬ (4 ≤ 3) from by decide)) (fun _ => ?_)
  refine g_aload_n hk dX7_valueOf_13 rfl ?_
  refine gX_r18_0 hk hin7 (by decide +kernel) dX7_valueOf_14 ?_
  refine g_iload_n hk dX7_valueOf_17 rfl ?_
  refine lX_10 (v := 8) hk (vp_in_iff.mpr ⟨by decide, by decide⟩) rfl dX7_valueOf_18 ?_
  refine g_goto (tgt := 23) hk dX7_valueOf_19 (by decide) ?_
  exact g_iret hk hR rfl ⟨rfl, rfl⟩ dX7_valueOf_23
set_option maxHeartbeats 4000000 in
set_option maxRecDepth 100000 in
theorem m313_X7_takeFrom (l : Launch) (D : va_G) (zt : Nat × Nat × Nat) (d : Nat → ClassId) (q : Nat → Nat) : GM l D zt (tyX d) yX7_takeFrom wsX7_takeFrom ({ frames := 1, cells := 0, slots := 0, locals := 21 } : Room) [.ref (q 27), .ref (q 18)] (wX q d iX0 aX0) (fun v _ w' => v = none ∧ w' = wX q d iX0 aX0) 0 0 := by
  refine GM.of (cc := cX7_takeFrom) (maxL := 3) (ret := none) (own := RX7) (lv := [(0, .ref (q 27)), (1, .ref (q 18))]) (by decide) rfl rfl (Nat.le_of_ble_eq_true rfl) rfl (fun κ sz hk hR hN => ?_)
  have hin7 : ∀ w ∈ u_ws RX7 TX7 1, w ∈ wsX7_takeFrom := by decide +kernel
  refine g_iconst (v := 0) hk dX7_takeFrom_0 (by decide) ?_
  refine g_istore_n (lv' := [(2, .int 0), (0, .ref (q 27)), (1, .ref (q 18))]) hk dX7_takeFrom_1 (by decide) rfl ?_
  refine g_iload_n hk dX7_takeFrom_2 rfl ?_
  refine g_aload_n hk dX7_takeFrom_3 rfl ?_
  refine gX_r27_0 hk hin7 (by decide +kernel) dX7_takeFrom_4 ?_
  refine nX_16 hk dX7_takeFrom_7 ?_
  refine g_icmp_ge (tgt := 28) (a := 0) (b := 4) hk dX7_takeFrom_8 (by decide) rfl rfl (fun z9 => absurd z9 (show ¬ (4 ≤ 0) from by decide)) (fun _ => ?_)
  refine g_aload_n hk dX7_takeFrom_11 rfl ?_
  refine gX_r27_0 hk hin7 (by decide +kernel) dX7_takeFrom_12 ?_
  refine g_iload_n hk dX7_takeFrom_15 rfl ?_
  refine g_aload_n hk dX7_takeFrom_16 rfl ?_
  refine g_iload_n hk dX7_takeFrom_17 rfl ?_
  refine g_callV hk (m309_X7_valueOf l D zt d q) (SP.same _) (fun _ h => h) gX7_takeFrom_X7_valueOf rfl rfl rfl (by decide +kernel) ⟨Nat.le_of_ble_eq_true rfl, Nat.le_of_ble_eq_true rfl⟩ 18 rfl rfl rfl rfl (Nat.le_of_ble_eq_true rfl) ⟨Nat.le_of_ble_eq_true rfl, Nat.le_of_ble_eq_true rfl⟩ dX7_takeFrom_18 (fun v ty' w' hp hk' => ?_)
  obtain ⟨rfl, rfl⟩ := hp
  show GW κ 3 0 0 (wX q d iX0 aX0) 21 [(2, .int 0), (0, .ref (q 27)), (1, .ref (q 18))] [.int 2, .int 0, .ref (q 28)]
  refine sX_16 (j := 0) hk (vp_in_iff.mpr ⟨by decide, by decide⟩) (by decide) dX7_takeFrom_21 ?_
  refine gX_same rfl ?_
  refine g_iinc (v := 1) (lv' := [(2, .int 1), (0, .ref (q 27)), (1, .ref (q 18))]) hk 0 dX7_takeFrom_22 rfl (by decide) (by decide) rfl ?_
  refine g_goto (tgt := 2) hk dX7_takeFrom_25 (by decide) ?_
  refine g_iload_n hk dX7_takeFrom_2 rfl ?_
  refine g_aload_n hk dX7_takeFrom_3 rfl ?_
  refine gX_r27_0 hk hin7 (by decide +kernel) dX7_takeFrom_4 ?_
  refine nX_16 hk dX7_takeFrom_7 ?_
  refine g_icmp_ge (tgt := 28) (a := 1) (b := 4) hk dX7_takeFrom_8 (by decide) rfl rfl (fun z9 => absurd z9 (show ¬ (4 ≤ 1) from by decide)) (fun _ => ?_)
  refine g_aload_n hk dX7_takeFrom_11 rfl ?_
  refine gX_r27_0 hk hin7 (by decide +kernel) dX7_takeFrom_12 ?_
  refine g_iload_n hk dX7_takeFrom_15 rfl ?_
  refine g_aload_n hk dX7_takeFrom_16 rfl ?_
  refine g_iload_n hk dX7_takeFrom_17 rfl ?_
  refine g_callV hk (m310_X7_valueOf l D zt d q) (SP.same _) (fun _ h => h) gX7_takeFrom_X7_valueOf rfl rfl rfl (by decide +kernel) ⟨Nat.le_of_ble_eq_true rfl, Nat.le_of_ble_eq_true rfl⟩ 18 rfl rfl rfl rfl (Nat.le_of_ble_eq_true rfl) ⟨Nat.le_of_ble_eq_true rfl, Nat.le_of_ble_eq_true rfl⟩ dX7_takeFrom_18 (fun v ty' w' hp hk' => ?_)
  obtain ⟨rfl, rfl⟩ := hp
  show GW κ 3 0 0 (wX q d iX0 aX0) 21 [(2, .int 1), (0, .ref (q 27)), (1, .ref (q 18))] [.int 0, .int 1, .ref (q 28)]
  refine sX_16 (j := 1) hk (vp_in_iff.mpr ⟨by decide, by decide⟩) (by decide) dX7_takeFrom_21 ?_
  refine gX_same rfl ?_
  refine g_iinc (v := 2) (lv' := [(2, .int 2), (0, .ref (q 27)), (1, .ref (q 18))]) hk 0 dX7_takeFrom_22 rfl (by decide) (by decide) rfl ?_
  refine g_goto (tgt := 2) hk dX7_takeFrom_25 (by decide) ?_
  refine g_iload_n hk dX7_takeFrom_2 rfl ?_
  refine g_aload_n hk dX7_takeFrom_3 rfl ?_
  refine gX_r27_0 hk hin7 (by decide +kernel) dX7_takeFrom_4 ?_
  refine nX_16 hk dX7_takeFrom_7 ?_
  refine g_icmp_ge (tgt := 28) (a := 2) (b := 4) hk dX7_takeFrom_8 (by decide) rfl rfl (fun z9 => absurd z9 (show ¬ (4 ≤ 2) from by decide)) (fun _ => ?_)
  refine g_aload_n hk dX7_takeFrom_11 rfl ?_
  refine gX_r27_0 hk hin7 (by decide +kernel) dX7_takeFrom_12 ?_
  refine g_iload_n hk dX7_takeFrom_15 rfl ?_
  refine g_aload_n hk dX7_takeFrom_16 rfl ?_
  refine g_iload_n hk dX7_takeFrom_17 rfl ?_
  refine g_callV hk (m311_X7_valueOf l D zt d q) (SP.same _) (fun _ h => h) gX7_takeFrom_X7_valueOf rfl rfl rfl (by decide +kernel) ⟨Nat.le_of_ble_eq_true rfl, Nat.le_of_ble_eq_true rfl⟩ 18 rfl rfl rfl rfl (Nat.le_of_ble_eq_true rfl) ⟨Nat.le_of_ble_eq_true rfl, Nat.le_of_ble_eq_true rfl⟩ dX7_takeFrom_18 (fun v ty' w' hp hk' => ?_)
  obtain ⟨rfl, rfl⟩ := hp
  show GW κ 3 0 0 (wX q d iX0 aX0) 21 [(2, .int 2), (0, .ref (q 27)), (1, .ref (q 18))] [.int 0, .int 2, .ref (q 28)]
  refine sX_16 (j := 2) hk (vp_in_iff.mpr ⟨by decide, by decide⟩) (by decide) dX7_takeFrom_21 ?_
  refine gX_same rfl ?_
  refine g_iinc (v := 3) (lv' := [(2, .int 3), (0, .ref (q 27)), (1, .ref (q 18))]) hk 0 dX7_takeFrom_22 rfl (by decide) (by decide) rfl ?_
  refine g_goto (tgt := 2) hk dX7_takeFrom_25 (by decide) ?_
  refine g_iload_n hk dX7_takeFrom_2 rfl ?_
  refine g_aload_n hk dX7_takeFrom_3 rfl ?_
  refine gX_r27_0 hk hin7 (by decide +kernel) dX7_takeFrom_4 ?_
  refine nX_16 hk dX7_takeFrom_7 ?_
  refine g_icmp_ge (tgt := 28) (a := 3) (b := 4) hk dX7_takeFrom_8 (by decide) rfl rfl (fun z9 => absurd z9 (show ¬ (4 ≤ 3) from by decide)) (fun _ => ?_)
  refine g_aload_n hk dX7_takeFrom_11 rfl ?_
  refine gX_r27_0 hk hin7 (by decide +kernel) dX7_takeFrom_12 ?_
  refine g_iload_n hk dX7_takeFrom_15 rfl ?_
  refine g_aload_n hk dX7_takeFrom_16 rfl ?_
  refine g_iload_n hk dX7_takeFrom_17 rfl ?_
  refine g_callV hk (m312_X7_valueOf l D zt d q) (SP.same _) (fun _ h => h) gX7_takeFrom_X7_valueOf rfl rfl rfl (by decide +kernel) ⟨Nat.le_of_ble_eq_true rfl, Nat.le_of_ble_eq_true rfl⟩ 18 rfl rfl rfl rfl (Nat.le_of_ble_eq_true rfl) ⟨Nat.le_of_ble_eq_true rfl, Nat.le_of_ble_eq_true rfl⟩ dX7_takeFrom_18 (fun v ty' w' hp hk' => ?_)
  obtain ⟨rfl, rfl⟩ := hp
  show GW κ 3 0 0 (wX q d iX0 aX0) 21 [(2, .int 3), (0, .ref (q 27)), (1, .ref (q 18))] [.int 8, .int 3, .ref (q 28)]
  refine sX_16 (j := 3) hk (vp_in_iff.mpr ⟨by decide, by decide⟩) (by decide) dX7_takeFrom_21 ?_
  refine gX_same rfl ?_
  refine g_iinc (v := 4) (lv' := [(2, .int 4), (0, .ref (q 27)), (1, .ref (q 18))]) hk 0 dX7_takeFrom_22 rfl (by decide) (by decide) rfl ?_
  refine g_goto (tgt := 2) hk dX7_takeFrom_25 (by decide) ?_
  refine g_iload_n hk dX7_takeFrom_2 rfl ?_
  refine g_aload_n hk dX7_takeFrom_3 rfl ?_
  refine gX_r27_0 hk hin7 (by decide +kernel) dX7_takeFrom_4 ?_
  refine nX_16 hk dX7_takeFrom_7 ?_
  refine g_icmp_ge (tgt := 28) (a := 4) (b := 4) hk dX7_takeFrom_8 (by decide) rfl rfl (fun _ => ?_) (fun z9 => absurd (show 4 ≤ 4 from by decide) z9)
  exact g_vret hk hR ⟨rfl, rfl⟩ dX7_takeFrom_28
set_option maxHeartbeats 4000000 in
set_option maxRecDepth 100000 in
theorem m314_X6_copyInto (l : Launch) (D : va_G) (zt : Nat × Nat × Nat) (d : Nat → ClassId) (q : Nat → Nat) : GM l D zt (tyX d) yX6_copyInto wsX6_copyInto ({ frames := 0, cells := 0, slots := 0, locals := 0 } : Room) [.ref (q 13), .ref (q 29)] (wX q d iX0 aX0) (fun v _ w' => v = none ∧ w' = wX q d iX0 aX0) 0 0 := by
  refine GM.of (cc := cX6_copyInto) (maxL := 3) (ret := none) (own := RX6) (lv := [(0, .ref (q 13)), (1, .ref (q 29))]) (by decide) rfl rfl (Nat.le_of_ble_eq_true rfl) rfl (fun κ sz hk hR hN => ?_)
  have hin6 : ∀ w ∈ u_ws RX6 TX6 3, w ∈ wsX6_copyInto := by decide +kernel
  have hin8 : ∀ w ∈ u_ws RX8 TX8 4, w ∈ wsX6_copyInto := by decide +kernel
  refine g_aload_n hk dX6_copyInto_0 rfl ?_
  refine g_iconst (v := 0) hk dX6_copyInto_1 (by decide) ?_
  refine pX_i24 hk hin8 (by decide +kernel) dX6_copyInto_2 ?_
  refine gX_sameI rfl ?_
  refine g_iconst (v := 0) hk dX6_copyInto_5 (by decide) ?_
  refine g_istore_n (lv' := [(2, .int 0), (0, .ref (q 13)), (1, .ref (q 29))]) hk dX6_copyInto_6 (by decide) rfl ?_
  refine g_iload_n hk dX6_copyInto_7 rfl ?_
  refine g_aload_n hk dX6_copyInto_8 rfl ?_
  refine gX_i18 (v := 0) hk hin6 (by decide +kernel) dX6_copyInto_9 rfl ?_
  refine g_icmp_ge (tgt := 30) (a := 0) (b := 0) hk dX6_copyInto_12 (by decide) rfl rfl (fun _ => ?_) (fun z9 => absurd (show 0 ≤ 0 from by decide) z9)
  exact g_vret hk hR ⟨rfl, rfl⟩ dX6_copyInto_30
set_option maxHeartbeats 4000000 in
set_option maxRecDepth 100000 in
theorem m315_X7_takeFrom (l : Launch) (D : va_G) (zt : Nat × Nat × Nat) (d : Nat → ClassId) (q : Nat → Nat) : GM l D zt (tyX d) yX7_takeFrom wsX7_takeFrom ({ frames := 1, cells := 0, slots := 0, locals := 21 } : Room) [.ref (q 31), .ref (q 18)] (wX q d iX0 aX0) (fun v _ w' => v = none ∧ w' = wX q d iX0 aX0) 0 0 := by
  refine GM.of (cc := cX7_takeFrom) (maxL := 3) (ret := none) (own := RX7) (lv := [(0, .ref (q 31)), (1, .ref (q 18))]) (by decide) rfl rfl (Nat.le_of_ble_eq_true rfl) rfl (fun κ sz hk hR hN => ?_)
  have hin7 : ∀ w ∈ u_ws RX7 TX7 1, w ∈ wsX7_takeFrom := by decide +kernel
  refine g_iconst (v := 0) hk dX7_takeFrom_0 (by decide) ?_
  refine g_istore_n (lv' := [(2, .int 0), (0, .ref (q 31)), (1, .ref (q 18))]) hk dX7_takeFrom_1 (by decide) rfl ?_
  refine g_iload_n hk dX7_takeFrom_2 rfl ?_
  refine g_aload_n hk dX7_takeFrom_3 rfl ?_
  refine gX_r31_0 hk hin7 (by decide +kernel) dX7_takeFrom_4 ?_
  refine nX_18 hk dX7_takeFrom_7 ?_
  refine g_icmp_ge (tgt := 28) (a := 0) (b := 4) hk dX7_takeFrom_8 (by decide) rfl rfl (fun z9 => absurd z9 (show ¬ (4 ≤ 0) from by decide)) (fun _ => ?_)
  refine g_aload_n hk dX7_takeFrom_11 rfl ?_
  refine gX_r31_0 hk hin7 (by decide +kernel) dX7_takeFrom_12 ?_
  refine g_iload_n hk dX7_takeFrom_15 rfl ?_
  refine g_aload_n hk dX7_takeFrom_16 rfl ?_
  refine g_iload_n hk dX7_takeFrom_17 rfl ?_
  refine g_callV hk (m309_X7_valueOf l D zt d q) (SP.same _) (fun _ h => h) gX7_takeFrom_X7_valueOf rfl rfl rfl (by decide +kernel) ⟨Nat.le_of_ble_eq_true rfl, Nat.le_of_ble_eq_true rfl⟩ 18 rfl rfl rfl rfl (Nat.le_of_ble_eq_true rfl) ⟨Nat.le_of_ble_eq_true rfl, Nat.le_of_ble_eq_true rfl⟩ dX7_takeFrom_18 (fun v ty' w' hp hk' => ?_)
  obtain ⟨rfl, rfl⟩ := hp
  show GW κ 3 0 0 (wX q d iX0 aX0) 21 [(2, .int 0), (0, .ref (q 31)), (1, .ref (q 18))] [.int 2, .int 0, .ref (q 32)]
  refine sX_18 (j := 0) hk (vp_in_iff.mpr ⟨by decide, by decide⟩) (by decide) dX7_takeFrom_21 ?_
  refine gX_same rfl ?_
  refine g_iinc (v := 1) (lv' := [(2, .int 1), (0, .ref (q 31)), (1, .ref (q 18))]) hk 0 dX7_takeFrom_22 rfl (by decide) (by decide) rfl ?_
  refine g_goto (tgt := 2) hk dX7_takeFrom_25 (by decide) ?_
  refine g_iload_n hk dX7_takeFrom_2 rfl ?_
  refine g_aload_n hk dX7_takeFrom_3 rfl ?_
  refine gX_r31_0 hk hin7 (by decide +kernel) dX7_takeFrom_4 ?_
  refine nX_18 hk dX7_takeFrom_7 ?_
  refine g_icmp_ge (tgt := 28) (a := 1) (b := 4) hk dX7_takeFrom_8 (by decide) rfl rfl (fun z9 => absurd z9 (show ¬ (4 ≤ 1) from by decide)) (fun _ => ?_)
  refine g_aload_n hk dX7_takeFrom_11 rfl ?_
  refine gX_r31_0 hk hin7 (by decide +kernel) dX7_takeFrom_12 ?_
  refine g_iload_n hk dX7_takeFrom_15 rfl ?_
  refine g_aload_n hk dX7_takeFrom_16 rfl ?_
  refine g_iload_n hk dX7_takeFrom_17 rfl ?_
  refine g_callV hk (m310_X7_valueOf l D zt d q) (SP.same _) (fun _ h => h) gX7_takeFrom_X7_valueOf rfl rfl rfl (by decide +kernel) ⟨Nat.le_of_ble_eq_true rfl, Nat.le_of_ble_eq_true rfl⟩ 18 rfl rfl rfl rfl (Nat.le_of_ble_eq_true rfl) ⟨Nat.le_of_ble_eq_true rfl, Nat.le_of_ble_eq_true rfl⟩ dX7_takeFrom_18 (fun v ty' w' hp hk' => ?_)
  obtain ⟨rfl, rfl⟩ := hp
  show GW κ 3 0 0 (wX q d iX0 aX0) 21 [(2, .int 1), (0, .ref (q 31)), (1, .ref (q 18))] [.int 0, .int 1, .ref (q 32)]
  refine sX_18 (j := 1) hk (vp_in_iff.mpr ⟨by decide, by decide⟩) (by decide) dX7_takeFrom_21 ?_
  refine gX_same rfl ?_
  refine g_iinc (v := 2) (lv' := [(2, .int 2), (0, .ref (q 31)), (1, .ref (q 18))]) hk 0 dX7_takeFrom_22 rfl (by decide) (by decide) rfl ?_
  refine g_goto (tgt := 2) hk dX7_takeFrom_25 (by decide) ?_
  refine g_iload_n hk dX7_takeFrom_2 rfl ?_
  refine g_aload_n hk dX7_takeFrom_3 rfl ?_
  refine gX_r31_0 hk hin7 (by decide +kernel) dX7_takeFrom_4 ?_
  refine nX_18 hk dX7_takeFrom_7 ?_
  refine g_icmp_ge (tgt := 28) (a := 2) (b := 4) hk dX7_takeFrom_8 (by decide) rfl rfl (fun z9 => absurd z9 (show ¬ (4 ≤ 2) from by decide)) (fun _ => ?_)
  refine g_aload_n hk dX7_takeFrom_11 rfl ?_
  refine gX_r31_0 hk hin7 (by decide +kernel) dX7_takeFrom_12 ?_
  refine g_iload_n hk dX7_takeFrom_15 rfl ?_
  refine g_aload_n hk dX7_takeFrom_16 rfl ?_
  refine g_iload_n hk dX7_takeFrom_17 rfl ?_
  refine g_callV hk (m311_X7_valueOf l D zt d q) (SP.same _) (fun _ h => h) gX7_takeFrom_X7_valueOf rfl rfl rfl (by decide +kernel) ⟨Nat.le_of_ble_eq_true rfl, Nat.le_of_ble_eq_true rfl⟩ 18 rfl rfl rfl rfl (Nat.le_of_ble_eq_true rfl) ⟨Nat.le_of_ble_eq_true rfl, Nat.le_of_ble_eq_true rfl⟩ dX7_takeFrom_18 (fun v ty' w' hp hk' => ?_)
  obtain ⟨rfl, rfl⟩ := hp
  show GW κ 3 0 0 (wX q d iX0 aX0) 21 [(2, .int 2), (0, .ref (q 31)), (1, .ref (q 18))] [.int 0, .int 2, .ref (q 32)]
  refine sX_18 (j := 2) hk (vp_in_iff.mpr ⟨by decide, by decide⟩) (by decide) dX7_takeFrom_21 ?_
  refine gX_same rfl ?_
  refine g_iinc (v := 3) (lv' := [(2, .int 3), (0, .ref (q 31)), (1, .ref (q 18))]) hk 0 dX7_takeFrom_22 rfl (by decide) (by decide) rfl ?_
  refine g_goto (tgt := 2) hk dX7_takeFrom_25 (by decide) ?_
  refine g_iload_n hk dX7_takeFrom_2 rfl ?_
  refine g_aload_n hk dX7_takeFrom_3 rfl ?_
  refine gX_r31_0 hk hin7 (by decide +kernel) dX7_takeFrom_4 ?_
  refine nX_18 hk dX7_takeFrom_7 ?_
  refine g_icmp_ge (tgt := 28) (a := 3) (b := 4) hk dX7_takeFrom_8 (by decide) rfl rfl (fun z9 => absurd z9 (show ¬ (4 ≤ 3) from by decide)) (fun _ => ?_)
  refine g_aload_n hk dX7_takeFrom_11 rfl ?_
  refine gX_r31_0 hk hin7 (by decide +kernel) dX7_takeFrom_12 ?_
  refine g_iload_n hk dX7_takeFrom_15 rfl ?_
  refine g_aload_n hk dX7_takeFrom_16 rfl ?_
  refine g_iload_n hk dX7_takeFrom_17 rfl ?_
  refine g_callV hk (m312_X7_valueOf l D zt d q) (SP.same _) (fun _ h => h) gX7_takeFrom_X7_valueOf rfl rfl rfl (by decide +kernel) ⟨Nat.le_of_ble_eq_true rfl, Nat.le_of_ble_eq_true rfl⟩ 18 rfl rfl rfl rfl (Nat.le_of_ble_eq_true rfl) ⟨Nat.le_of_ble_eq_true rfl, Nat.le_of_ble_eq_true rfl⟩ dX7_takeFrom_18 (fun v ty' w' hp hk' => ?_)
  obtain ⟨rfl, rfl⟩ := hp
  show GW κ 3 0 0 (wX q d iX0 aX0) 21 [(2, .int 3), (0, .ref (q 31)), (1, .ref (q 18))] [.int 8, .int 3, .ref (q 32)]
  refine sX_18 (j := 3) hk (vp_in_iff.mpr ⟨by decide, by decide⟩) (by decide) dX7_takeFrom_21 ?_
  refine gX_same rfl ?_
  refine g_iinc (v := 4) (lv' := [(2, .int 4), (0, .ref (q 31)), (1, .ref (q 18))]) hk 0 dX7_takeFrom_22 rfl (by decide) (by decide) rfl ?_
  refine g_goto (tgt := 2) hk dX7_takeFrom_25 (by decide) ?_
  refine g_iload_n hk dX7_takeFrom_2 rfl ?_
  refine g_aload_n hk dX7_takeFrom_3 rfl ?_
  refine gX_r31_0 hk hin7 (by decide +kernel) dX7_takeFrom_4 ?_
  refine nX_18 hk dX7_takeFrom_7 ?_
  refine g_icmp_ge (tgt := 28) (a := 4) (b := 4) hk dX7_takeFrom_8 (by decide) rfl rfl (fun _ => ?_) (fun z9 => absurd (show 4 ≤ 4 from by decide) z9)
  exact g_vret hk hR ⟨rfl, rfl⟩ dX7_takeFrom_28
set_option maxHeartbeats 4000000 in
set_option maxRecDepth 100000 in
theorem m316_X6_copyInto (l : Launch) (D : va_G) (zt : Nat × Nat × Nat) (d : Nat → ClassId) (q : Nat → Nat) : GM l D zt (tyX d) yX6_copyInto wsX6_copyInto ({ frames := 0, cells := 0, slots := 0, locals := 0 } : Room) [.ref (q 13), .ref (q 33)] (wX q d iX0 aX0) (fun v _ w' => v = none ∧ w' = wX q d iX0 aX0) 0 0 := by
  refine GM.of (cc := cX6_copyInto) (maxL := 3) (ret := none) (own := RX6) (lv := [(0, .ref (q 13)), (1, .ref (q 33))]) (by decide) rfl rfl (Nat.le_of_ble_eq_true rfl) rfl (fun κ sz hk hR hN => ?_)
  have hin6 : ∀ w ∈ u_ws RX6 TX6 3, w ∈ wsX6_copyInto := by decide +kernel
  have hin8 : ∀ w ∈ u_ws RX8 TX8 4, w ∈ wsX6_copyInto := by decide +kernel
  refine g_aload_n hk dX6_copyInto_0 rfl ?_
  refine g_iconst (v := 0) hk dX6_copyInto_1 (by decide) ?_
  refine pX_i26 hk hin8 (by decide +kernel) dX6_copyInto_2 ?_
  refine gX_sameI rfl ?_
  refine g_iconst (v := 0) hk dX6_copyInto_5 (by decide) ?_
  refine g_istore_n (lv' := [(2, .int 0), (0, .ref (q 13)), (1, .ref (q 33))]) hk dX6_copyInto_6 (by decide) rfl ?_
  refine g_iload_n hk dX6_copyInto_7 rfl ?_
  refine g_aload_n hk dX6_copyInto_8 rfl ?_
  refine gX_i18 (v := 0) hk hin6 (by decide +kernel) dX6_copyInto_9 rfl ?_
  refine g_icmp_ge (tgt := 30) (a := 0) (b := 0) hk dX6_copyInto_12 (by decide) rfl rfl (fun _ => ?_) (fun z9 => absurd (show 0 ≤ 0 from by decide) z9)
  exact g_vret hk hR ⟨rfl, rfl⟩ dX6_copyInto_30
set_option maxHeartbeats 4000000 in
set_option maxRecDepth 100000 in
theorem m317_X7_takeFrom (l : Launch) (D : va_G) (zt : Nat × Nat × Nat) (d : Nat → ClassId) (q : Nat → Nat) : GM l D zt (tyX d) yX7_takeFrom wsX7_takeFrom ({ frames := 1, cells := 0, slots := 0, locals := 21 } : Room) [.ref (q 35), .ref (q 18)] (wX q d iX0 aX0) (fun v _ w' => v = none ∧ w' = wX q d iX0 aX0) 0 0 := by
  refine GM.of (cc := cX7_takeFrom) (maxL := 3) (ret := none) (own := RX7) (lv := [(0, .ref (q 35)), (1, .ref (q 18))]) (by decide) rfl rfl (Nat.le_of_ble_eq_true rfl) rfl (fun κ sz hk hR hN => ?_)
  have hin7 : ∀ w ∈ u_ws RX7 TX7 1, w ∈ wsX7_takeFrom := by decide +kernel
  refine g_iconst (v := 0) hk dX7_takeFrom_0 (by decide) ?_
  refine g_istore_n (lv' := [(2, .int 0), (0, .ref (q 35)), (1, .ref (q 18))]) hk dX7_takeFrom_1 (by decide) rfl ?_
  refine g_iload_n hk dX7_takeFrom_2 rfl ?_
  refine g_aload_n hk dX7_takeFrom_3 rfl ?_
  refine gX_r35_0 hk hin7 (by decide +kernel) dX7_takeFrom_4 ?_
  refine nX_20 hk dX7_takeFrom_7 ?_
  refine g_icmp_ge (tgt := 28) (a := 0) (b := 4) hk dX7_takeFrom_8 (by decide) rfl rfl (fun z9 => absurd z9 (show ¬ (4 ≤ 0) from by decide)) (fun _ => ?_)
  refine g_aload_n hk dX7_takeFrom_11 rfl ?_
  refine gX_r35_0 hk hin7 (by decide +kernel) dX7_takeFrom_12 ?_
  refine g_iload_n hk dX7_takeFrom_15 rfl ?_
  refine g_aload_n hk dX7_takeFrom_16 rfl ?_
  refine g_iload_n hk dX7_takeFrom_17 rfl ?_
  refine g_callV hk (m309_X7_valueOf l D zt d q) (SP.same _) (fun _ h => h) gX7_takeFrom_X7_valueOf rfl rfl rfl (by decide +kernel) ⟨Nat.le_of_ble_eq_true rfl, Nat.le_of_ble_eq_true rfl⟩ 18 rfl rfl rfl rfl (Nat.le_of_ble_eq_true rfl) ⟨Nat.le_of_ble_eq_true rfl, Nat.le_of_ble_eq_true rfl⟩ dX7_takeFrom_18 (fun v ty' w' hp hk' => ?_)
  obtain ⟨rfl, rfl⟩ := hp
  show GW κ 3 0 0 (wX q d iX0 aX0) 21 [(2, .int 0), (0, .ref (q 35)), (1, .ref (q 18))] [.int 2, .int 0, .ref (q 36)]
  refine sX_20 (j := 0) hk (vp_in_iff.mpr ⟨by decide, by decide⟩) (by decide) dX7_takeFrom_21 ?_
  refine gX_same rfl ?_
  refine g_iinc (v := 1) (lv' := [(2, .int 1), (0, .ref (q 35)), (1, .ref (q 18))]) hk 0 dX7_takeFrom_22 rfl (by decide) (by decide) rfl ?_
  refine g_goto (tgt := 2) hk dX7_takeFrom_25 (by decide) ?_
  refine g_iload_n hk dX7_takeFrom_2 rfl ?_
  refine g_aload_n hk dX7_takeFrom_3 rfl ?_
  refine gX_r35_0 hk hin7 (by decide +kernel) dX7_takeFrom_4 ?_
  refine nX_20 hk dX7_takeFrom_7 ?_
  refine g_icmp_ge (tgt := 28) (a := 1) (b := 4) hk dX7_takeFrom_8 (by decide) rfl rfl (fun z9 => absurd z9 (show ¬ (4 ≤ 1) from by decide)) (fun _ => ?_)
  refine g_aload_n hk dX7_takeFrom_11 rfl ?_
  refine gX_r35_0 hk hin7 (by decide +kernel) dX7_takeFrom_12 ?_
  refine g_iload_n hk dX7_takeFrom_15 rfl ?_
  refine g_aload_n hk dX7_takeFrom_16 rfl ?_
  refine g_iload_n hk dX7_takeFrom_17 rfl ?_
  refine g_callV hk (m310_X7_valueOf l D zt d q) (SP.same _) (fun _ h => h) gX7_takeFrom_X7_valueOf rfl rfl rfl (by decide +kernel) ⟨Nat.le_of_ble_eq_true rfl, Nat.le_of_ble_eq_true rfl⟩ 18 rfl rfl rfl rfl (Nat.le_of_ble_eq_true rfl) ⟨Nat.le_of_ble_eq_true rfl, Nat.le_of_ble_eq_true rfl⟩ dX7_takeFrom_18 (fun v ty' w' hp hk' => ?_)
  obtain ⟨rfl, rfl⟩ := hp
  show GW κ 3 0 0 (wX q d iX0 aX0) 21 [(2, .int 1), (0, .ref (q 35)), (1, .ref (q 18))] [.int 0, .int 1, .ref (q 36)]
  refine sX_20 (j := 1) hk (vp_in_iff.mpr ⟨by decide, by decide⟩) (by decide) dX7_takeFrom_21 ?_
  refine gX_same rfl ?_
  refine g_iinc (v := 2) (lv' := [(2, .int 2), (0, .ref (q 35)), (1, .ref (q 18))]) hk 0 dX7_takeFrom_22 rfl (by decide) (by decide) rfl ?_
  refine g_goto (tgt := 2) hk dX7_takeFrom_25 (by decide) ?_
  refine g_iload_n hk dX7_takeFrom_2 rfl ?_
  refine g_aload_n hk dX7_takeFrom_3 rfl ?_
  refine gX_r35_0 hk hin7 (by decide +kernel) dX7_takeFrom_4 ?_
  refine nX_20 hk dX7_takeFrom_7 ?_
  refine g_icmp_ge (tgt := 28) (a := 2) (b := 4) hk dX7_takeFrom_8 (by decide) rfl rfl (fun z9 => absurd z9 (show ¬ (4 ≤ 2) from by decide)) (fun _ => ?_)
  refine g_aload_n hk dX7_takeFrom_11 rfl ?_
  refine gX_r35_0 hk hin7 (by decide +kernel) dX7_takeFrom_12 ?_
  refine g_iload_n hk dX7_takeFrom_15 rfl ?_
  refine g_aload_n hk dX7_takeFrom_16 rfl ?_
  refine g_iload_n hk dX7_takeFrom_17 rfl ?_
  refine g_callV hk (m311_X7_valueOf l D zt d q) (SP.same _) (fun _ h => h) gX7_takeFrom_X7_valueOf rfl rfl rfl (by decide +kernel) ⟨Nat.le_of_ble_eq_true rfl, Nat.le_of_ble_eq_true rfl⟩ 18 rfl rfl rfl rfl (Nat.le_of_ble_eq_true rfl) ⟨Nat.le_of_ble_eq_true rfl, Nat.le_of_ble_eq_true rfl⟩ dX7_takeFrom_18 (fun v ty' w' hp hk' => ?_)
  obtain ⟨rfl, rfl⟩ := hp
  show GW κ 3 0 0 (wX q d iX0 aX0) 21 [(2, .int 2), (0, .ref (q 35)), (1, .ref (q 18))] [.int 0, .int 2, .ref (q 36)]
  refine sX_20 (j := 2) hk (vp_in_iff.mpr ⟨by decide, by decide⟩) (by decide) dX7_takeFrom_21 ?_
  refine gX_same rfl ?_
  refine g_iinc (v := 3) (lv' := [(2, .int 3), (0, .ref (q 35)), (1, .ref (q 18))]) hk 0 dX7_takeFrom_22 rfl (by decide) (by decide) rfl ?_
  refine g_goto (tgt := 2) hk dX7_takeFrom_25 (by decide) ?_
  refine g_iload_n hk dX7_takeFrom_2 rfl ?_
  refine g_aload_n hk dX7_takeFrom_3 rfl ?_
  refine gX_r35_0 hk hin7 (by decide +kernel) dX7_takeFrom_4 ?_
  refine nX_20 hk dX7_takeFrom_7 ?_
  refine g_icmp_ge (tgt := 28) (a := 3) (b := 4) hk dX7_takeFrom_8 (by decide) rfl rfl (fun z9 => absurd z9 (show ¬ (4 ≤ 3) from by decide)) (fun _ => ?_)
  refine g_aload_n hk dX7_takeFrom_11 rfl ?_
  refine gX_r35_0 hk hin7 (by decide +kernel) dX7_takeFrom_12 ?_
  refine g_iload_n hk dX7_takeFrom_15 rfl ?_
  refine g_aload_n hk dX7_takeFrom_16 rfl ?_
  refine g_iload_n hk dX7_takeFrom_17 rfl ?_
  refine g_callV hk (m312_X7_valueOf l D zt d q) (SP.same _) (fun _ h => h) gX7_takeFrom_X7_valueOf rfl rfl rfl (by decide +kernel) ⟨Nat.le_of_ble_eq_true rfl, Nat.le_of_ble_eq_true rfl⟩ 18 rfl rfl rfl rfl (Nat.le_of_ble_eq_true rfl) ⟨Nat.le_of_ble_eq_true rfl, Nat.le_of_ble_eq_true rfl⟩ dX7_takeFrom_18 (fun v ty' w' hp hk' => ?_)
  obtain ⟨rfl, rfl⟩ := hp
  show GW κ 3 0 0 (wX q d iX0 aX0) 21 [(2, .int 3), (0, .ref (q 35)), (1, .ref (q 18))] [.int 8, .int 3, .ref (q 36)]
  refine sX_20 (j := 3) hk (vp_in_iff.mpr ⟨by decide, by decide⟩) (by decide) dX7_takeFrom_21 ?_
  refine gX_same rfl ?_
  refine g_iinc (v := 4) (lv' := [(2, .int 4), (0, .ref (q 35)), (1, .ref (q 18))]) hk 0 dX7_takeFrom_22 rfl (by decide) (by decide) rfl ?_
  refine g_goto (tgt := 2) hk dX7_takeFrom_25 (by decide) ?_
  refine g_iload_n hk dX7_takeFrom_2 rfl ?_
  refine g_aload_n hk dX7_takeFrom_3 rfl ?_
  refine gX_r35_0 hk hin7 (by decide +kernel) dX7_takeFrom_4 ?_
  refine nX_20 hk dX7_takeFrom_7 ?_
  refine g_icmp_ge (tgt := 28) (a := 4) (b := 4) hk dX7_takeFrom_8 (by decide) rfl rfl (fun _ => ?_) (fun z9 => absurd (show 4 ≤ 4 from by decide) z9)
  exact g_vret hk hR ⟨rfl, rfl⟩ dX7_takeFrom_28
set_option maxHeartbeats 4000000 in
set_option maxRecDepth 100000 in
theorem m318_X11_hold (l : Launch) (D : va_G) (zt : Nat × Nat × Nat) (d : Nat → ClassId) (q : Nat → Nat) (a1 : Int32) : GM l D zt (tyX d) yX11_hold wsX11_hold ({ frames := 2, cells := 0, slots := 0, locals := 43 } : Room) [.ref (q 0), .int a1] (wX q d iX0 aX0) (fun v _ w' => ((a1.toInt < 0) ∧ v = some (.int 0) ∧ w' = wX q d iX0 aX0) ∨ ((¬ (a1.toInt < 0)) ∧ (a1.toInt < 3) ∧ (a1.toInt = 0) ∧ v = some (.int 1) ∧ w' = wX q d (upd iX0 23 1) aX0) ∨ ((¬ (a1.toInt < 0)) ∧ (a1.toInt < 3) ∧ (¬ (a1.toInt = 0)) ∧ (a1.toInt = 1) ∧ v = some (.int 1) ∧ w' = wX q d (upd iX0 25 1) aX0) ∨ ((¬ (a1.toInt < 0)) ∧ (a1.toInt < 3) ∧ (¬ (a1.toInt = 0)) ∧ (¬ (a1.toInt = 1)) ∧ (a1.toInt = 2) ∧ v = some (.int 1) ∧ w' = wX q d (upd iX0 27 1) aX0) ∨ ((¬ (a1.toInt < 0)) ∧ (¬ (a1.toInt < 3)) ∧ v = some (.int 0) ∧ w' = wX q d iX0 aX0)) 0 0 := by
  refine GM.of (cc := cX11_hold) (maxL := 3) (ret := (some .boolean)) (own := RX11) (lv := [(0, .ref (q 0)), (1, .int a1)]) (by decide) rfl rfl (Nat.le_of_ble_eq_true rfl) rfl (fun κ sz hk hR hN => ?_)
  have hin8 : ∀ w ∈ u_ws RX8 TX8 4, w ∈ wsX11_hold := by decide +kernel
  have hin11 : ∀ w ∈ u_ws RX11 TX11 10, w ∈ wsX11_hold := by decide +kernel
  refine g_iload_n hk dX11_hold_0 rfl ?_
  refine g_if_lt (tgt := 13) (a := a1.toInt) hk dX11_hold_1 (by decide) rfl (fun c783 => ?_) (fun c783 => ?_)
  · skip
    refine g_iconst (v := 0) hk dX11_hold_13 (by decide) ?_
    exact g_iret hk hR rfl (Or.inl ⟨c783, rfl, rfl⟩) dX11_hold_14
  · skip
    refine g_iload_n hk dX11_hold_4 rfl ?_
    refine g_aload_n hk dX11_hold_5 rfl ?_
    refine gX_r0_6 hk hin11 (by decide +kernel) dX11_hold_6 ?_
    refine nX_14 hk dX11_hold_9 ?_
    refine g_icmp_lt (tgt := 15) (a := a1.toInt) (b := 3) hk dX11_hold_10 (by decide) rfl rfl (fun c784 => ?_) (fun c784 => ?_)
    · skip
      refine g_aload_n hk dX11_hold_15 rfl ?_
      refine gX_r0_6 hk hin11 (by decide +kernel) dX11_hold_16 ?_
      refine g_iload_n hk dX11_hold_19 rfl ?_
      by_cases c785 : a1.toInt = 0
      · obtain rfl : a1 = 0 := Int32.toInt_inj.mp c785
        refine lX_14 hk (vp_in_iff.mpr ⟨by decide, by decide⟩) rfl dX11_hold_20 ?_
        refine g_astore_n (lv' := [(2, .ref (q 25)), (0, .ref (q 0)), (1, .int 0)]) hk dX11_hold_21 (by decide) rfl ?_
        refine g_aload_n hk dX11_hold_22 rfl ?_
        refine gX_r0_2 hk hin11 (by decide +kernel) dX11_hold_23 ?_
        refine g_aload_n hk dX11_hold_26 rfl ?_
        refine g_callV hk (m308_X6_copyInto l D zt d q) (SP.same _) (fun _ h => h) gX11_hold_X6_copyInto rfl rfl rfl (by decide +kernel) ⟨Nat.le_of_ble_eq_true rfl, Nat.le_of_ble_eq_true rfl⟩ 13 rfl rfl rfl rfl (Nat.le_of_ble_eq_true rfl) ⟨Nat.le_of_ble_eq_true rfl, Nat.le_of_ble_eq_true rfl⟩ dX11_hold_27 (fun v ty' w' hp hk' => ?_)
        obtain ⟨rfl, rfl⟩ := hp
        show GW κ 3 0 0 (wX q d iX0 aX0) 30 [(2, .ref (q 25)), (0, .ref (q 0)), (1, .int 0)] []
        refine g_aload_n hk dX11_hold_30 rfl ?_
        refine gX_r25_2 hk hin8 (by decide +kernel) dX11_hold_31 ?_
        refine g_aload_n hk dX11_hold_34 rfl ?_
        refine gX_r0_4 hk hin11 (by decide +kernel) dX11_hold_35 ?_
        refine g_callV hk (m313_X7_takeFrom l D zt d q) (SP.same _) (fun _ h => h) gX11_hold_X7_takeFrom rfl rfl rfl (by decide +kernel) ⟨Nat.le_of_ble_eq_true rfl, Nat.le_of_ble_eq_true rfl⟩ 27 rfl rfl rfl rfl (Nat.le_of_ble_eq_true rfl) ⟨Nat.le_of_ble_eq_true rfl, Nat.le_of_ble_eq_true rfl⟩ dX11_hold_38 (fun v ty' w' hp hk' => ?_)
        obtain ⟨rfl, rfl⟩ := hp
        show GW κ 3 0 0 (wX q d iX0 aX0) 41 [(2, .ref (q 25)), (0, .ref (q 0)), (1, .int 0)] []
        refine g_aload_n hk dX11_hold_41 rfl ?_
        refine g_iconst (v := 1) hk dX11_hold_42 (by decide) ?_
        refine pX_i23 hk hin8 (by decide +kernel) ⟨rfl, rfl⟩ dX11_hold_43 ?_
        refine g_iconst (v := 1) hk dX11_hold_46 (by decide) ?_
        exact g_iret hk hR rfl (Or.inr (Or.inl ⟨c783, c784, c785, rfl, rfl⟩)) dX11_hold_47
      by_cases c786 : a1.toInt = 1
      · obtain rfl : a1 = 1 := Int32.toInt_inj.mp c786
        refine lX_14 hk (vp_in_iff.mpr ⟨by decide, by decide⟩) rfl dX11_hold_20 ?_
        refine g_astore_n (lv' := [(2, .ref (q 29)), (0, .ref (q 0)), (1, .int 1)]) hk dX11_hold_21 (by decide) rfl ?_
        refine g_aload_n hk dX11_hold_22 rfl ?_
        refine gX_r0_2 hk hin11 (by decide +kernel) dX11_hold_23 ?_
        refine g_aload_n hk dX11_hold_26 rfl ?_
        refine g_callV hk (m314_X6_copyInto l D zt d q) (SP.same _) (fun _ h => h) gX11_hold_X6_copyInto rfl rfl rfl (by decide +kernel) ⟨Nat.le_of_ble_eq_true rfl, Nat.le_of_ble_eq_true rfl⟩ 13 rfl rfl rfl rfl (Nat.le_of_ble_eq_true rfl) ⟨Nat.le_of_ble_eq_true rfl, Nat.le_of_ble_eq_true rfl⟩ dX11_hold_27 (fun v ty' w' hp hk' => ?_)
        obtain ⟨rfl, rfl⟩ := hp
        show GW κ 3 0 0 (wX q d iX0 aX0) 30 [(2, .ref (q 29)), (0, .ref (q 0)), (1, .int 1)] []
        refine g_aload_n hk dX11_hold_30 rfl ?_
        refine gX_r29_2 hk hin8 (by decide +kernel) dX11_hold_31 ?_
        refine g_aload_n hk dX11_hold_34 rfl ?_
        refine gX_r0_4 hk hin11 (by decide +kernel) dX11_hold_35 ?_
        refine g_callV hk (m315_X7_takeFrom l D zt d q) (SP.same _) (fun _ h => h) gX11_hold_X7_takeFrom rfl rfl rfl (by decide +kernel) ⟨Nat.le_of_ble_eq_true rfl, Nat.le_of_ble_eq_true rfl⟩ 31 rfl rfl rfl rfl (Nat.le_of_ble_eq_true rfl) ⟨Nat.le_of_ble_eq_true rfl, Nat.le_of_ble_eq_true rfl⟩ dX11_hold_38 (fun v ty' w' hp hk' => ?_)
        obtain ⟨rfl, rfl⟩ := hp
        show GW κ 3 0 0 (wX q d iX0 aX0) 41 [(2, .ref (q 29)), (0, .ref (q 0)), (1, .int 1)] []
        refine g_aload_n hk dX11_hold_41 rfl ?_
        refine g_iconst (v := 1) hk dX11_hold_42 (by decide) ?_
        refine pX_i25 hk hin8 (by decide +kernel) ⟨rfl, rfl⟩ dX11_hold_43 ?_
        refine g_iconst (v := 1) hk dX11_hold_46 (by decide) ?_
        exact g_iret hk hR rfl (Or.inr (Or.inr (Or.inl ⟨c783, c784, c785, c786, rfl, rfl⟩))) dX11_hold_47
      by_cases c787 : a1.toInt = 2
      · obtain rfl : a1 = 2 := Int32.toInt_inj.mp c787
        refine lX_14 hk (vp_in_iff.mpr ⟨by decide, by decide⟩) rfl dX11_hold_20 ?_
        refine g_astore_n (lv' := [(2, .ref (q 33)), (0, .ref (q 0)), (1, .int 2)]) hk dX11_hold_21 (by decide) rfl ?_
        refine g_aload_n hk dX11_hold_22 rfl ?_
        refine gX_r0_2 hk hin11 (by decide +kernel) dX11_hold_23 ?_
        refine g_aload_n hk dX11_hold_26 rfl ?_
        refine g_callV hk (m316_X6_copyInto l D zt d q) (SP.same _) (fun _ h => h) gX11_hold_X6_copyInto rfl rfl rfl (by decide +kernel) ⟨Nat.le_of_ble_eq_true rfl, Nat.le_of_ble_eq_true rfl⟩ 13 rfl rfl rfl rfl (Nat.le_of_ble_eq_true rfl) ⟨Nat.le_of_ble_eq_true rfl, Nat.le_of_ble_eq_true rfl⟩ dX11_hold_27 (fun v ty' w' hp hk' => ?_)
        obtain ⟨rfl, rfl⟩ := hp
        show GW κ 3 0 0 (wX q d iX0 aX0) 30 [(2, .ref (q 33)), (0, .ref (q 0)), (1, .int 2)] []
        refine g_aload_n hk dX11_hold_30 rfl ?_
        refine gX_r33_2 hk hin8 (by decide +kernel) dX11_hold_31 ?_
        refine g_aload_n hk dX11_hold_34 rfl ?_
        refine gX_r0_4 hk hin11 (by decide +kernel) dX11_hold_35 ?_
        refine g_callV hk (m317_X7_takeFrom l D zt d q) (SP.same _) (fun _ h => h) gX11_hold_X7_takeFrom rfl rfl rfl (by decide +kernel) ⟨Nat.le_of_ble_eq_true rfl, Nat.le_of_ble_eq_true rfl⟩ 35 rfl rfl rfl rfl (Nat.le_of_ble_eq_true rfl) ⟨Nat.le_of_ble_eq_true rfl, Nat.le_of_ble_eq_true rfl⟩ dX11_hold_38 (fun v ty' w' hp hk' => ?_)
        obtain ⟨rfl, rfl⟩ := hp
        show GW κ 3 0 0 (wX q d iX0 aX0) 41 [(2, .ref (q 33)), (0, .ref (q 0)), (1, .int 2)] []
        refine g_aload_n hk dX11_hold_41 rfl ?_
        refine g_iconst (v := 1) hk dX11_hold_42 (by decide) ?_
        refine pX_i27 hk hin8 (by decide +kernel) ⟨rfl, rfl⟩ dX11_hold_43 ?_
        refine g_iconst (v := 1) hk dX11_hold_46 (by decide) ?_
        exact g_iret hk hR rfl (Or.inr (Or.inr (Or.inr (Or.inl ⟨c783, c784, c785, c786, c787, rfl, rfl⟩)))) dX11_hold_47
      exfalso; omega
    · skip
      refine g_iconst (v := 0) hk dX11_hold_13 (by decide) ?_
      exact g_iret hk hR rfl (Or.inr (Or.inr (Or.inr (Or.inr (⟨c783, c784, rfl, rfl⟩))))) dX11_hold_14
set_option maxHeartbeats 4000000 in
set_option maxRecDepth 100000 in
theorem m319_X11_restore (l : Launch) (D : va_G) (zt : Nat × Nat × Nat) (d : Nat → ClassId) (q : Nat → Nat) (a1 : Int32) : GM l D zt (tyX d) yX11_restore wsX11_restore ({ frames := 0, cells := 0, slots := 0, locals := 0 } : Room) [.ref (q 0), .int a1] (wX q d iX0 aX0) (fun v _ w' => v = some (.int 0) ∧ w' = wX q d iX0 aX0) 0 0 := by
  refine GM.of (cc := cX11_restore) (maxL := 2) (ret := (some .boolean)) (own := RX11) (lv := [(0, .ref (q 0)), (1, .int a1)]) (by decide) rfl rfl (Nat.le_of_ble_eq_true rfl) rfl (fun κ sz hk hR hN => ?_)
  have hin8 : ∀ w ∈ u_ws RX8 TX8 4, w ∈ wsX11_restore := by decide +kernel
  have hin11 : ∀ w ∈ u_ws RX11 TX11 10, w ∈ wsX11_restore := by decide +kernel
  refine g_iload_n hk dX11_restore_0 rfl ?_
  refine g_if_lt (tgt := 25) (a := a1.toInt) hk dX11_restore_1 (by decide) rfl (fun c788 => ?_) (fun c788 => ?_)
  · skip
    refine g_iconst (v := 0) hk dX11_restore_25 (by decide) ?_
    exact g_iret hk hR rfl ⟨rfl, rfl⟩ dX11_restore_26
  · skip
    refine g_iload_n hk dX11_restore_4 rfl ?_
    refine g_aload_n hk dX11_restore_5 rfl ?_
    refine gX_r0_6 hk hin11 (by decide +kernel) dX11_restore_6 ?_
    refine nX_14 hk dX11_restore_9 ?_
    refine g_icmp_ge (tgt := 25) (a := a1.toInt) (b := 3) hk dX11_restore_10 (by decide) rfl rfl (fun c789 => ?_) (fun c789 => ?_)
    · skip
      refine g_iconst (v := 0) hk dX11_restore_25 (by decide) ?_
      exact g_iret hk hR rfl ⟨rfl, rfl⟩ dX11_restore_26
    · skip
      refine g_aload_n hk dX11_restore_13 rfl ?_
      refine gX_r0_6 hk hin11 (by decide +kernel) dX11_restore_14 ?_
      refine g_iload_n hk dX11_restore_17 rfl ?_
      by_cases c790 : a1.toInt = 0
      · obtain rfl : a1 = 0 := Int32.toInt_inj.mp c790
        refine lX_14 hk (vp_in_iff.mpr ⟨by decide, by decide⟩) rfl dX11_restore_18 ?_
        refine gX_i23 (v := 0) hk hin8 (by decide +kernel) dX11_restore_19 rfl ?_
        refine g_if_ne (tgt := 27) (a := 0) hk dX11_restore_22 (by decide) rfl (fun z9 => absurd z9 (show ¬ (0 ≠ 0) from by decide)) (fun _ => ?_)
        refine g_iconst (v := 0) hk dX11_restore_25 (by decide) ?_
        exact g_iret hk hR rfl ⟨rfl, rfl⟩ dX11_restore_26
      by_cases c791 : a1.toInt = 1
      · obtain rfl : a1 = 1 := Int32.toInt_inj.mp c791
        refine lX_14 hk (vp_in_iff.mpr ⟨by decide, by decide⟩) rfl dX11_restore_18 ?_
        refine gX_i25 (v := 0) hk hin8 (by decide +kernel) dX11_restore_19 rfl ?_
        refine g_if_ne (tgt := 27) (a := 0) hk dX11_restore_22 (by decide) rfl (fun z9 => absurd z9 (show ¬ (0 ≠ 0) from by decide)) (fun _ => ?_)
        refine g_iconst (v := 0) hk dX11_restore_25 (by decide) ?_
        exact g_iret hk hR rfl ⟨rfl, rfl⟩ dX11_restore_26
      by_cases c792 : a1.toInt = 2
      · obtain rfl : a1 = 2 := Int32.toInt_inj.mp c792
        refine lX_14 hk (vp_in_iff.mpr ⟨by decide, by decide⟩) rfl dX11_restore_18 ?_
        refine gX_i27 (v := 0) hk hin8 (by decide +kernel) dX11_restore_19 rfl ?_
        refine g_if_ne (tgt := 27) (a := 0) hk dX11_restore_22 (by decide) rfl (fun z9 => absurd z9 (show ¬ (0 ≠ 0) from by decide)) (fun _ => ?_)
        refine g_iconst (v := 0) hk dX11_restore_25 (by decide) ?_
        exact g_iret hk hR rfl ⟨rfl, rfl⟩ dX11_restore_26
      exfalso; omega
set_option maxHeartbeats 4000000 in
set_option maxRecDepth 100000 in
theorem m320_X6_gapCount (l : Launch) (D : va_G) (zt : Nat × Nat × Nat) (d : Nat → ClassId) (q : Nat → Nat) : GM l D zt (tyX d) yX6_gapCount wsX6_gapCount ({ frames := 0, cells := 0, slots := 0, locals := 0 } : Room) [.ref (q 13)] (wX q d iX0 aX0) (fun v _ w' => v = some (.int 0) ∧ w' = wX q d iX0 aX0) 0 0 := by
  refine GM.of (cc := cX6_gapCount) (maxL := 3) (ret := (some .int)) (own := RX6) (lv := [(0, .ref (q 13))]) (by decide) rfl rfl (Nat.le_of_ble_eq_true rfl) rfl (fun κ sz hk hR hN => ?_)
  have hin6 : ∀ w ∈ u_ws RX6 TX6 3, w ∈ wsX6_gapCount := by decide +kernel
  refine g_iconst (v := 0) hk dX6_gapCount_0 (by decide) ?_
  refine g_istore_n (lv' := [(1, .int 0), (0, .ref (q 13))]) hk dX6_gapCount_1 (by decide) rfl ?_
  refine g_iconst (v := 0) hk dX6_gapCount_2 (by decide) ?_
  refine g_istore_n (lv' := [(2, .int 0), (1, .int 0), (0, .ref (q 13))]) hk dX6_gapCount_3 (by decide) rfl ?_
  refine g_iload_n hk dX6_gapCount_4 rfl ?_
  refine g_aload_n hk dX6_gapCount_5 rfl ?_
  refine gX_i18 (v := 0) hk hin6 (by decide +kernel) dX6_gapCount_6 rfl ?_
  refine g_icmp_ge (tgt := 29) (a := 0) (b := 0) hk dX6_gapCount_9 (by decide) rfl rfl (fun _ => ?_) (fun z9 => absurd (show 0 ≤ 0 from by decide) z9)
  refine g_iload_n hk dX6_gapCount_29 rfl ?_
  exact g_iret hk hR rfl ⟨rfl, rfl⟩ dX6_gapCount_30
set_option maxHeartbeats 4000000 in
set_option maxRecDepth 100000 in
theorem m321_X6_readingsAtEnd (l : Launch) (D : va_G) (zt : Nat × Nat × Nat) (d : Nat → ClassId) (q : Nat → Nat) : GM l D zt (tyX d) yX6_readingsAtEnd wsX6_readingsAtEnd ({ frames := 0, cells := 0, slots := 0, locals := 0 } : Room) [.ref (q 13)] (wX q d iX0 aX0) (fun v _ w' => v = some (.int 0) ∧ w' = wX q d iX0 aX0) 0 0 := by
  refine GM.of (cc := cX6_readingsAtEnd) (maxL := 3) (ret := (some .int)) (own := RX6) (lv := [(0, .ref (q 13))]) (by decide) rfl rfl (Nat.le_of_ble_eq_true rfl) rfl (fun κ sz hk hR hN => ?_)
  have hin6 : ∀ w ∈ u_ws RX6 TX6 3, w ∈ wsX6_readingsAtEnd := by decide +kernel
  refine g_iconst (v := 0) hk dX6_readingsAtEnd_0 (by decide) ?_
  refine g_istore_n (lv' := [(1, .int 0), (0, .ref (q 13))]) hk dX6_readingsAtEnd_1 (by decide) rfl ?_
  refine g_aload_n hk dX6_readingsAtEnd_2 rfl ?_
  refine gX_i18 (v := 0) hk hin6 (by decide +kernel) dX6_readingsAtEnd_3 rfl ?_
  refine g_iconst (v := 1) hk dX6_readingsAtEnd_6 (by decide) ?_
  refine g_isub hk dX6_readingsAtEnd_7 ?_
  refine g_norm (v := (-1)) (by decide) ?_
  refine g_istore_n (lv' := [(2, .int (-1)), (1, .int 0), (0, .ref (q 13))]) hk dX6_readingsAtEnd_8 (by decide) rfl ?_
  refine g_iload_n hk dX6_readingsAtEnd_9 rfl ?_
  refine g_if_lt (tgt := 30) (a := (-1)) hk dX6_readingsAtEnd_10 (by decide) rfl (fun _ => ?_) (fun z9 => absurd (show (-1) < 0 from by decide) z9)
  refine g_iload_n hk dX6_readingsAtEnd_30 rfl ?_
  exact g_iret hk hR rfl ⟨rfl, rfl⟩ dX6_readingsAtEnd_31
set_option maxHeartbeats 4000000 in
set_option maxRecDepth 100000 in
theorem m322_X6_sumOf (l : Launch) (D : va_G) (zt : Nat × Nat × Nat) (d : Nat → ClassId) (q : Nat → Nat) : GM l D zt (tyX d) yX6_sumOf wsX6_sumOf ({ frames := 0, cells := 0, slots := 0, locals := 0 } : Room) [.ref (q 13), .int 0, .int 0] (wX q d iX0 aX0) (fun v _ w' => v = some (.int 0) ∧ w' = wX q d iX0 aX0) 0 0 := by
  refine GM.of (cc := cX6_sumOf) (maxL := 5) (ret := (some .int)) (own := RX6) (lv := [(0, .ref (q 13)), (1, .int 0), (2, .int 0)]) (by decide) rfl rfl (Nat.le_of_ble_eq_true rfl) rfl (fun κ sz hk hR hN => ?_)
  refine g_iconst (v := 0) hk dX6_sumOf_0 (by decide) ?_
  refine g_istore_n (lv' := [(3, .int 0), (0, .ref (q 13)), (1, .int 0), (2, .int 0)]) hk dX6_sumOf_1 (by decide) rfl ?_
  refine g_iconst (v := 0) hk dX6_sumOf_2 (by decide) ?_
  refine g_istore (lv' := [(4, .int 0), (3, .int 0), (0, .ref (q 13)), (1, .int 0), (2, .int 0)]) hk dX6_sumOf_3 (by decide) rfl ?_
  refine g_iload hk dX6_sumOf_5 rfl ?_
  refine g_iload_n hk dX6_sumOf_7 rfl ?_
  refine g_icmp_ge (tgt := 39) (a := 0) (b := 0) hk dX6_sumOf_8 (by decide) rfl rfl (fun _ => ?_) (fun z9 => absurd (show 0 ≤ 0 from by decide) z9)
  refine g_iload_n hk dX6_sumOf_39 rfl ?_
  exact g_iret hk hR rfl ⟨rfl, rfl⟩ dX6_sumOf_40
set_option maxHeartbeats 4000000 in
set_option maxRecDepth 100000 in
theorem m323_X11_slotsHeld (l : Launch) (D : va_G) (zt : Nat × Nat × Nat) (d : Nat → ClassId) (q : Nat → Nat) : GM l D zt (tyX d) yX11_slotsHeld wsX11_slotsHeld ({ frames := 0, cells := 0, slots := 0, locals := 0 } : Room) [.ref (q 0)] (wX q d iX0 aX0) (fun v _ w' => v = some (.int 0) ∧ w' = wX q d iX0 aX0) 0 0 := by
  refine GM.of (cc := cX11_slotsHeld) (maxL := 3) (ret := (some .int)) (own := RX11) (lv := [(0, .ref (q 0))]) (by decide) rfl rfl (Nat.le_of_ble_eq_true rfl) rfl (fun κ sz hk hR hN => ?_)
  have hin8 : ∀ w ∈ u_ws RX8 TX8 4, w ∈ wsX11_slotsHeld := by decide +kernel
  have hin11 : ∀ w ∈ u_ws RX11 TX11 10, w ∈ wsX11_slotsHeld := by decide +kernel
  refine g_iconst (v := 0) hk dX11_slotsHeld_0 (by decide) ?_
  refine g_istore_n (lv' := [(1, .int 0), (0, .ref (q 0))]) hk dX11_slotsHeld_1 (by decide) rfl ?_
  refine g_iconst (v := 0) hk dX11_slotsHeld_2 (by decide) ?_
  refine g_istore_n (lv' := [(2, .int 0), (1, .int 0), (0, .ref (q 0))]) hk dX11_slotsHeld_3 (by decide) rfl ?_
  refine g_iload_n hk dX11_slotsHeld_4 rfl ?_
  refine g_aload_n hk dX11_slotsHeld_5 rfl ?_
  refine gX_r0_6 hk hin11 (by decide +kernel) dX11_slotsHeld_6 ?_
  refine nX_14 hk dX11_slotsHeld_9 ?_
  refine g_icmp_ge (tgt := 34) (a := 0) (b := 3) hk dX11_slotsHeld_10 (by decide) rfl rfl (fun z9 => absurd z9 (show ¬ (3 ≤ 0) from by decide)) (fun _ => ?_)
  refine g_aload_n hk dX11_slotsHeld_13 rfl ?_
  refine gX_r0_6 hk hin11 (by decide +kernel) dX11_slotsHeld_14 ?_
  refine g_iload_n hk dX11_slotsHeld_17 rfl ?_
  refine lX_14 hk (vp_in_iff.mpr ⟨by decide, by decide⟩) rfl dX11_slotsHeld_18 ?_
  refine gX_i23 (v := 0) hk hin8 (by decide +kernel) dX11_slotsHeld_19 rfl ?_
  refine g_if_eq (tgt := 28) (a := 0) hk dX11_slotsHeld_22 (by decide) rfl (fun _ => ?_) (fun z9 => absurd (show 0 = 0 from by decide) z9)
  refine g_iinc (v := 1) (lv' := [(2, .int 1), (1, .int 0), (0, .ref (q 0))]) hk 0 dX11_slotsHeld_28 rfl (by decide) (by decide) rfl ?_
  refine g_goto (tgt := 4) hk dX11_slotsHeld_31 (by decide) ?_
  refine g_iload_n hk dX11_slotsHeld_4 rfl ?_
  refine g_aload_n hk dX11_slotsHeld_5 rfl ?_
  refine gX_r0_6 hk hin11 (by decide +kernel) dX11_slotsHeld_6 ?_
  refine nX_14 hk dX11_slotsHeld_9 ?_
  refine g_icmp_ge (tgt := 34) (a := 1) (b := 3) hk dX11_slotsHeld_10 (by decide) rfl rfl (fun z9 => absurd z9 (show ¬ (3 ≤ 1) from by decide)) (fun _ => ?_)
  refine g_aload_n hk dX11_slotsHeld_13 rfl ?_
  refine gX_r0_6 hk hin11 (by decide +kernel) dX11_slotsHeld_14 ?_
  refine g_iload_n hk dX11_slotsHeld_17 rfl ?_
  refine lX_14 hk (vp_in_iff.mpr ⟨by decide, by decide⟩) rfl dX11_slotsHeld_18 ?_
  refine gX_i25 (v := 0) hk hin8 (by decide +kernel) dX11_slotsHeld_19 rfl ?_
  refine g_if_eq (tgt := 28) (a := 0) hk dX11_slotsHeld_22 (by decide) rfl (fun _ => ?_) (fun z9 => absurd (show 0 = 0 from by decide) z9)
  refine g_iinc (v := 2) (lv' := [(2, .int 2), (1, .int 0), (0, .ref (q 0))]) hk 0 dX11_slotsHeld_28 rfl (by decide) (by decide) rfl ?_
  refine g_goto (tgt := 4) hk dX11_slotsHeld_31 (by decide) ?_
  refine g_iload_n hk dX11_slotsHeld_4 rfl ?_
  refine g_aload_n hk dX11_slotsHeld_5 rfl ?_
  refine gX_r0_6 hk hin11 (by decide +kernel) dX11_slotsHeld_6 ?_
  refine nX_14 hk dX11_slotsHeld_9 ?_
  refine g_icmp_ge (tgt := 34) (a := 2) (b := 3) hk dX11_slotsHeld_10 (by decide) rfl rfl (fun z9 => absurd z9 (show ¬ (3 ≤ 2) from by decide)) (fun _ => ?_)
  refine g_aload_n hk dX11_slotsHeld_13 rfl ?_
  refine gX_r0_6 hk hin11 (by decide +kernel) dX11_slotsHeld_14 ?_
  refine g_iload_n hk dX11_slotsHeld_17 rfl ?_
  refine lX_14 hk (vp_in_iff.mpr ⟨by decide, by decide⟩) rfl dX11_slotsHeld_18 ?_
  refine gX_i27 (v := 0) hk hin8 (by decide +kernel) dX11_slotsHeld_19 rfl ?_
  refine g_if_eq (tgt := 28) (a := 0) hk dX11_slotsHeld_22 (by decide) rfl (fun _ => ?_) (fun z9 => absurd (show 0 = 0 from by decide) z9)
  refine g_iinc (v := 3) (lv' := [(2, .int 3), (1, .int 0), (0, .ref (q 0))]) hk 0 dX11_slotsHeld_28 rfl (by decide) (by decide) rfl ?_
  refine g_goto (tgt := 4) hk dX11_slotsHeld_31 (by decide) ?_
  refine g_iload_n hk dX11_slotsHeld_4 rfl ?_
  refine g_aload_n hk dX11_slotsHeld_5 rfl ?_
  refine gX_r0_6 hk hin11 (by decide +kernel) dX11_slotsHeld_6 ?_
  refine nX_14 hk dX11_slotsHeld_9 ?_
  refine g_icmp_ge (tgt := 34) (a := 3) (b := 3) hk dX11_slotsHeld_10 (by decide) rfl rfl (fun _ => ?_) (fun z9 => absurd (show 3 ≤ 3 from by decide) z9)
  refine g_iload_n hk dX11_slotsHeld_34 rfl ?_
  exact g_iret hk hR rfl ⟨rfl, rfl⟩ dX11_slotsHeld_35
set_option maxHeartbeats 4000000 in
set_option maxRecDepth 100000 in
theorem m324_X6_greatestOf (l : Launch) (D : va_G) (zt : Nat × Nat × Nat) (d : Nat → ClassId) (q : Nat → Nat) : GM l D zt (tyX d) yX6_greatestOf wsX6_greatestOf ({ frames := 0, cells := 0, slots := 0, locals := 0 } : Room) [.ref (q 13), .int 0, .int 0] (wX q d iX0 aX0) (fun v _ w' => v = some (.int (-1000)) ∧ w' = wX q d iX0 aX0) 0 0 := by
  refine GM.of (cc := cX6_greatestOf) (maxL := 5) (ret := (some .int)) (own := RX6) (lv := [(0, .ref (q 13)), (1, .int 0), (2, .int 0)]) (by decide) rfl rfl (Nat.le_of_ble_eq_true rfl) rfl (fun κ sz hk hR hN => ?_)
  refine g_sipush (v := (-1000)) hk dX6_greatestOf_0 (by decide) ?_
  refine g_istore_n (lv' := [(3, .int (-1000)), (0, .ref (q 13)), (1, .int 0), (2, .int 0)]) hk dX6_greatestOf_3 (by decide) rfl ?_
  refine g_iconst (v := 0) hk dX6_greatestOf_4 (by decide) ?_
  refine g_istore (lv' := [(4, .int 0), (3, .int (-1000)), (0, .ref (q 13)), (1, .int 0), (2, .int 0)]) hk dX6_greatestOf_5 (by decide) rfl ?_
  refine g_iload hk dX6_greatestOf_7 rfl ?_
  refine g_iload_n hk dX6_greatestOf_9 rfl ?_
  refine g_icmp_ge (tgt := 32) (a := 0) (b := 0) hk dX6_greatestOf_10 (by decide) rfl rfl (fun _ => ?_) (fun z9 => absurd (show 0 ≤ 0 from by decide) z9)
  refine g_iload_n hk dX6_greatestOf_32 rfl ?_
  exact g_iret hk hR rfl ⟨rfl, rfl⟩ dX6_greatestOf_33
set_option maxHeartbeats 4000000 in
set_option maxRecDepth 100000 in
theorem m325_X6_leastOf (l : Launch) (D : va_G) (zt : Nat × Nat × Nat) (d : Nat → ClassId) (q : Nat → Nat) : GM l D zt (tyX d) yX6_leastOf wsX6_leastOf ({ frames := 0, cells := 0, slots := 0, locals := 0 } : Room) [.ref (q 13), .int 0, .int 0] (wX q d iX0 aX0) (fun v _ w' => v = some (.int (-1000)) ∧ w' = wX q d iX0 aX0) 0 0 := by
  refine GM.of (cc := cX6_leastOf) (maxL := 6) (ret := (some .int)) (own := RX6) (lv := [(0, .ref (q 13)), (1, .int 0), (2, .int 0)]) (by decide) rfl rfl (Nat.le_of_ble_eq_true rfl) rfl (fun κ sz hk hR hN => ?_)
  refine g_sipush (v := (-1000)) hk dX6_leastOf_0 (by decide) ?_
  refine g_istore_n (lv' := [(3, .int (-1000)), (0, .ref (q 13)), (1, .int 0), (2, .int 0)]) hk dX6_leastOf_3 (by decide) rfl ?_
  refine g_iconst (v := 0) hk dX6_leastOf_4 (by decide) ?_
  refine g_istore (lv' := [(4, .int 0), (3, .int (-1000)), (0, .ref (q 13)), (1, .int 0), (2, .int 0)]) hk dX6_leastOf_5 (by decide) rfl ?_
  refine g_iload hk dX6_leastOf_7 rfl ?_
  refine g_iload_n hk dX6_leastOf_9 rfl ?_
  refine g_icmp_ge (tgt := 53) (a := 0) (b := 0) hk dX6_leastOf_10 (by decide) rfl rfl (fun _ => ?_) (fun z9 => absurd (show 0 ≤ 0 from by decide) z9)
  refine g_iload_n hk dX6_leastOf_53 rfl ?_
  exact g_iret hk hR rfl ⟨rfl, rfl⟩ dX6_leastOf_54
set_option maxHeartbeats 4000000 in
set_option maxRecDepth 100000 in
theorem m326_X6_runFrom (l : Launch) (D : va_G) (zt : Nat × Nat × Nat) (d : Nat → ClassId) (q : Nat → Nat) : GM l D zt (tyX d) yX6_runFrom wsX6_runFrom ({ frames := 0, cells := 0, slots := 0, locals := 0 } : Room) [.ref (q 13), .int 0] (wX q d iX0 aX0) (fun v _ w' => v = some (.int 0) ∧ w' = wX q d iX0 aX0) 0 0 := by
  refine GM.of (cc := cX6_runFrom) (maxL := 4) (ret := (some .int)) (own := RX6) (lv := [(0, .ref (q 13)), (1, .int 0)]) (by decide) rfl rfl (Nat.le_of_ble_eq_true rfl) rfl (fun κ sz hk hR hN => ?_)
  have hin6 : ∀ w ∈ u_ws RX6 TX6 3, w ∈ wsX6_runFrom := by decide +kernel
  refine g_iconst (v := 0) hk dX6_runFrom_0 (by decide) ?_
  refine g_istore_n (lv' := [(2, .int 0), (0, .ref (q 13)), (1, .int 0)]) hk dX6_runFrom_1 (by decide) rfl ?_
  refine g_iload_n hk dX6_runFrom_2 rfl ?_
  refine g_istore_n (lv' := [(3, .int 0), (2, .int 0), (0, .ref (q 13)), (1, .int 0)]) hk dX6_runFrom_3 (by decide) rfl ?_
  refine g_iload_n hk dX6_runFrom_4 rfl ?_
  refine g_aload_n hk dX6_runFrom_5 rfl ?_
  refine gX_i18 (v := 0) hk hin6 (by decide +kernel) dX6_runFrom_6 rfl ?_
  refine g_icmp_ge (tgt := 29) (a := 0) (b := 0) hk dX6_runFrom_9 (by decide) rfl rfl (fun _ => ?_) (fun z9 => absurd (show 0 ≤ 0 from by decide) z9)
  refine g_iload_n hk dX6_runFrom_29 rfl ?_
  exact g_iret hk hR rfl ⟨rfl, rfl⟩ dX6_runFrom_30
set_option maxHeartbeats 4000000 in
set_option maxRecDepth 100000 in
theorem m327_X11_count (l : Launch) (D : va_G) (zt : Nat × Nat × Nat) (d : Nat → ClassId) (q : Nat → Nat) (a1 : Int32) : GM l D zt (tyX d) yX11_count wsX11_count ({ frames := 1, cells := 0, slots := 0, locals := 25 } : Room) [.ref (q 0), .int a1] (wX q d iX0 aX0) (fun v _ w' => ((a1.toInt = 0) ∧ v = some (.int 0) ∧ w' = wX q d iX0 aX0) ∨ ((¬ (a1.toInt = 0)) ∧ (a1.toInt = 1) ∧ v = some (.int 0) ∧ w' = wX q d iX0 aX0) ∨ ((¬ (a1.toInt = 0)) ∧ (¬ (a1.toInt = 1)) ∧ (a1.toInt = 2) ∧ v = some (.int 0) ∧ w' = wX q d iX0 aX0) ∨ ((¬ (a1.toInt = 0)) ∧ (¬ (a1.toInt = 1)) ∧ (¬ (a1.toInt = 2)) ∧ (a1.toInt = 3) ∧ v = some (.int 2) ∧ w' = wX q d iX0 aX0) ∨ ((¬ (a1.toInt = 0)) ∧ (¬ (a1.toInt = 1)) ∧ (¬ (a1.toInt = 2)) ∧ (¬ (a1.toInt = 3)) ∧ (a1.toInt = 4) ∧ v = some (.int 0) ∧ w' = wX q d iX0 aX0) ∨ ((¬ (a1.toInt = 0)) ∧ (¬ (a1.toInt = 1)) ∧ (¬ (a1.toInt = 2)) ∧ (¬ (a1.toInt = 3)) ∧ (¬ (a1.toInt = 4)) ∧ (a1.toInt = 5) ∧ v = some (.int 0) ∧ w' = wX q d iX0 aX0) ∨ ((¬ (a1.toInt = 0)) ∧ (¬ (a1.toInt = 1)) ∧ (¬ (a1.toInt = 2)) ∧ (¬ (a1.toInt = 3)) ∧ (¬ (a1.toInt = 4)) ∧ (¬ (a1.toInt = 5)) ∧ (a1.toInt = 6) ∧ v = some (.int 8) ∧ w' = wX q d iX0 aX0) ∨ ((¬ (a1.toInt = 0)) ∧ (¬ (a1.toInt = 1)) ∧ (¬ (a1.toInt = 2)) ∧ (¬ (a1.toInt = 3)) ∧ (¬ (a1.toInt = 4)) ∧ (¬ (a1.toInt = 5)) ∧ (¬ (a1.toInt = 6)) ∧ (a1.toInt = 7) ∧ v = some (.int 0) ∧ w' = wX q d iX0 aX0) ∨ ((¬ (a1.toInt = 0)) ∧ (¬ (a1.toInt = 1)) ∧ (¬ (a1.toInt = 2)) ∧ (¬ (a1.toInt = 3)) ∧ (¬ (a1.toInt = 4)) ∧ (¬ (a1.toInt = 5)) ∧ (¬ (a1.toInt = 6)) ∧ (¬ (a1.toInt = 7)) ∧ (a1.toInt = 8) ∧ v = some (.int 0) ∧ w' = wX q d iX0 aX0) ∨ ((¬ (a1.toInt = 0)) ∧ (¬ (a1.toInt = 1)) ∧ (¬ (a1.toInt = 2)) ∧ (¬ (a1.toInt = 3)) ∧ (¬ (a1.toInt = 4)) ∧ (¬ (a1.toInt = 5)) ∧ (¬ (a1.toInt = 6)) ∧ (¬ (a1.toInt = 7)) ∧ (¬ (a1.toInt = 8)) ∧ (a1.toInt = 9) ∧ v = some (.int 0) ∧ w' = wX q d iX0 aX0) ∨ ((¬ (a1.toInt = 0)) ∧ (¬ (a1.toInt = 1)) ∧ (¬ (a1.toInt = 2)) ∧ (¬ (a1.toInt = 3)) ∧ (¬ (a1.toInt = 4)) ∧ (¬ (a1.toInt = 5)) ∧ (¬ (a1.toInt = 6)) ∧ (¬ (a1.toInt = 7)) ∧ (¬ (a1.toInt = 8)) ∧ (¬ (a1.toInt = 9)) ∧ (a1.toInt = 10) ∧ v = some (.int 0) ∧ w' = wX q d iX0 aX0) ∨ ((¬ (a1.toInt = 0)) ∧ (¬ (a1.toInt = 1)) ∧ (¬ (a1.toInt = 2)) ∧ (¬ (a1.toInt = 3)) ∧ (¬ (a1.toInt = 4)) ∧ (¬ (a1.toInt = 5)) ∧ (¬ (a1.toInt = 6)) ∧ (¬ (a1.toInt = 7)) ∧ (¬ (a1.toInt = 8)) ∧ (¬ (a1.toInt = 9)) ∧ (¬ (a1.toInt = 10)) ∧ (a1.toInt = 11) ∧ v = some (.int 0) ∧ w' = wX q d iX0 aX0) ∨ ((¬ (a1.toInt = 0)) ∧ (¬ (a1.toInt = 1)) ∧ (¬ (a1.toInt = 2)) ∧ (¬ (a1.toInt = 3)) ∧ (¬ (a1.toInt = 4)) ∧ (¬ (a1.toInt = 5)) ∧ (¬ (a1.toInt = 6)) ∧ (¬ (a1.toInt = 7)) ∧ (¬ (a1.toInt = 8)) ∧ (¬ (a1.toInt = 9)) ∧ (¬ (a1.toInt = 10)) ∧ (¬ (a1.toInt = 11)) ∧ (a1.toInt = 12) ∧ v = some (.int (-1000)) ∧ w' = wX q d iX0 aX0) ∨ ((¬ (a1.toInt = 0)) ∧ (¬ (a1.toInt = 1)) ∧ (¬ (a1.toInt = 2)) ∧ (¬ (a1.toInt = 3)) ∧ (¬ (a1.toInt = 4)) ∧ (¬ (a1.toInt = 5)) ∧ (¬ (a1.toInt = 6)) ∧ (¬ (a1.toInt = 7)) ∧ (¬ (a1.toInt = 8)) ∧ (¬ (a1.toInt = 9)) ∧ (¬ (a1.toInt = 10)) ∧ (¬ (a1.toInt = 11)) ∧ (¬ (a1.toInt = 12)) ∧ (a1.toInt = 13) ∧ v = some (.int (-1000)) ∧ w' = wX q d iX0 aX0) ∨ ((¬ (a1.toInt = 0)) ∧ (¬ (a1.toInt = 1)) ∧ (¬ (a1.toInt = 2)) ∧ (¬ (a1.toInt = 3)) ∧ (¬ (a1.toInt = 4)) ∧ (¬ (a1.toInt = 5)) ∧ (¬ (a1.toInt = 6)) ∧ (¬ (a1.toInt = 7)) ∧ (¬ (a1.toInt = 8)) ∧ (¬ (a1.toInt = 9)) ∧ (¬ (a1.toInt = 10)) ∧ (¬ (a1.toInt = 11)) ∧ (¬ (a1.toInt = 12)) ∧ (¬ (a1.toInt = 13)) ∧ (a1.toInt = 14) ∧ v = some (.int 0) ∧ w' = wX q d iX0 aX0) ∨ ((¬ (a1.toInt = 0)) ∧ (¬ (a1.toInt = 1)) ∧ (¬ (a1.toInt = 2)) ∧ (¬ (a1.toInt = 3)) ∧ (¬ (a1.toInt = 4)) ∧ (¬ (a1.toInt = 5)) ∧ (¬ (a1.toInt = 6)) ∧ (¬ (a1.toInt = 7)) ∧ (¬ (a1.toInt = 8)) ∧ (¬ (a1.toInt = 9)) ∧ (¬ (a1.toInt = 10)) ∧ (¬ (a1.toInt = 11)) ∧ (¬ (a1.toInt = 12)) ∧ (¬ (a1.toInt = 13)) ∧ (¬ (a1.toInt = 14)) ∧ v = some (.int (-1)) ∧ w' = wX q d iX0 aX0)) 0 0 := by
  refine GM.of (cc := cX11_count) (maxL := 2) (ret := (some .int)) (own := RX11) (lv := [(0, .ref (q 0)), (1, .int a1)]) (by decide) rfl rfl (Nat.le_of_ble_eq_true rfl) rfl (fun κ sz hk hR hN => ?_)
  have hin3 : ∀ w ∈ u_ws RX3 TX3 5, w ∈ wsX11_count := by decide +kernel
  have hin4 : ∀ w ∈ u_ws RX4 TX4 3, w ∈ wsX11_count := by decide +kernel
  have hin6 : ∀ w ∈ u_ws RX6 TX6 3, w ∈ wsX11_count := by decide +kernel
  have hin10 : ∀ w ∈ u_ws RX10 TX10 7, w ∈ wsX11_count := by decide +kernel
  have hin11 : ∀ w ∈ u_ws RX11 TX11 10, w ∈ wsX11_count := by decide +kernel
  refine g_iload_n hk dX11_count_0 rfl ?_
  by_cases c793 : a1.toInt = 0
  · refine g_tabIn (tgt := 76) (a := 0) hk dX11_count_1 c793 (by decide) (by decide) rfl (by decide) ?_
    refine g_aload_n hk dX11_count_76 rfl ?_
    refine gX_r0_2 hk hin11 (by decide +kernel) dX11_count_77 ?_
    refine gX_i18 (v := 0) hk hin6 (by decide +kernel) dX11_count_80 rfl ?_
    exact g_iret hk hR rfl (Or.inl ⟨c793, rfl, rfl⟩) dX11_count_83
  by_cases c794 : a1.toInt = 1
  · refine g_tabIn (tgt := 84) (a := 1) hk dX11_count_1 c794 (by decide) (by decide) rfl (by decide) ?_
    refine g_aload_n hk dX11_count_84 rfl ?_
    refine gX_r0_2 hk hin11 (by decide +kernel) dX11_count_85 ?_
    refine g_callV hk (m320_X6_gapCount l D zt d q) (SP.same _) (fun _ h => h) gX11_count_X6_gapCount rfl rfl rfl (by decide +kernel) ⟨Nat.le_of_ble_eq_true rfl, Nat.le_of_ble_eq_true rfl⟩ 13 rfl rfl rfl rfl (Nat.le_of_ble_eq_true rfl) ⟨Nat.le_of_ble_eq_true rfl, Nat.le_of_ble_eq_true rfl⟩ dX11_count_88 (fun v ty' w' hp hk' => ?_)
    obtain ⟨rfl, rfl⟩ := hp
    show GW κ 2 0 0 (wX q d iX0 aX0) 91 [(0, .ref (q 0)), (1, .int a1)] [.int 0]
    exact g_iret hk hR rfl (Or.inr (Or.inl ⟨c793, c794, rfl, rfl⟩)) dX11_count_91
  by_cases c795 : a1.toInt = 2
  · refine g_tabIn (tgt := 92) (a := 2) hk dX11_count_1 c795 (by decide) (by decide) rfl (by decide) ?_
    refine g_aload_n hk dX11_count_92 rfl ?_
    refine gX_r0_3 hk hin11 (by decide +kernel) dX11_count_93 ?_
    refine gX_i19 (v := 0) hk hin4 (by decide +kernel) dX11_count_96 rfl ?_
    exact g_iret hk hR rfl (Or.inr (Or.inr (Or.inl ⟨c793, c794, c795, rfl, rfl⟩))) dX11_count_99
  by_cases c796 : a1.toInt = 3
  · refine g_tabIn (tgt := 100) (a := 3) hk dX11_count_1 c796 (by decide) (by decide) rfl (by decide) ?_
    refine g_aload_n hk dX11_count_100 rfl ?_
    refine gX_r0_4 hk hin11 (by decide +kernel) dX11_count_101 ?_
    refine g_iconst (v := 0) hk dX11_count_104 (by decide) ?_
    refine g_callV hk (m309_X7_valueOf l D zt d q) (SP.same _) (fun _ h => h) gX11_count_X7_valueOf rfl rfl rfl (by decide +kernel) ⟨Nat.le_of_ble_eq_true rfl, Nat.le_of_ble_eq_true rfl⟩ 18 rfl rfl rfl rfl (Nat.le_of_ble_eq_true rfl) ⟨Nat.le_of_ble_eq_true rfl, Nat.le_of_ble_eq_true rfl⟩ dX11_count_105 (fun v ty' w' hp hk' => ?_)
    obtain ⟨rfl, rfl⟩ := hp
    show GW κ 2 0 0 (wX q d iX0 aX0) 108 [(0, .ref (q 0)), (1, .int a1)] [.int 2]
    exact g_iret hk hR rfl (Or.inr (Or.inr (Or.inr (Or.inl ⟨c793, c794, c795, c796, rfl, rfl⟩)))) dX11_count_108
  by_cases c797 : a1.toInt = 4
  · refine g_tabIn (tgt := 109) (a := 4) hk dX11_count_1 c797 (by decide) (by decide) rfl (by decide) ?_
    refine g_aload_n hk dX11_count_109 rfl ?_
    refine gX_r0_4 hk hin11 (by decide +kernel) dX11_count_110 ?_
    refine g_iconst (v := 1) hk dX11_count_113 (by decide) ?_
    refine g_callV hk (m310_X7_valueOf l D zt d q) (SP.same _) (fun _ h => h) gX11_count_X7_valueOf rfl rfl rfl (by decide +kernel) ⟨Nat.le_of_ble_eq_true rfl, Nat.le_of_ble_eq_true rfl⟩ 18 rfl rfl rfl rfl (Nat.le_of_ble_eq_true rfl) ⟨Nat.le_of_ble_eq_true rfl, Nat.le_of_ble_eq_true rfl⟩ dX11_count_114 (fun v ty' w' hp hk' => ?_)
    obtain ⟨rfl, rfl⟩ := hp
    show GW κ 2 0 0 (wX q d iX0 aX0) 117 [(0, .ref (q 0)), (1, .int a1)] [.int 0]
    exact g_iret hk hR rfl (Or.inr (Or.inr (Or.inr (Or.inr (Or.inl ⟨c793, c794, c795, c796, c797, rfl, rfl⟩))))) dX11_count_117
  by_cases c798 : a1.toInt = 5
  · refine g_tabIn (tgt := 118) (a := 5) hk dX11_count_1 c798 (by decide) (by decide) rfl (by decide) ?_
    refine g_aload_n hk dX11_count_118 rfl ?_
    refine gX_r0_4 hk hin11 (by decide +kernel) dX11_count_119 ?_
    refine g_iconst (v := 2) hk dX11_count_122 (by decide) ?_
    refine g_callV hk (m311_X7_valueOf l D zt d q) (SP.same _) (fun _ h => h) gX11_count_X7_valueOf rfl rfl rfl (by decide +kernel) ⟨Nat.le_of_ble_eq_true rfl, Nat.le_of_ble_eq_true rfl⟩ 18 rfl rfl rfl rfl (Nat.le_of_ble_eq_true rfl) ⟨Nat.le_of_ble_eq_true rfl, Nat.le_of_ble_eq_true rfl⟩ dX11_count_123 (fun v ty' w' hp hk' => ?_)
    obtain ⟨rfl, rfl⟩ := hp
    show GW κ 2 0 0 (wX q d iX0 aX0) 126 [(0, .ref (q 0)), (1, .int a1)] [.int 0]
    exact g_iret hk hR rfl (Or.inr (Or.inr (Or.inr (Or.inr (Or.inr (Or.inl ⟨c793, c794, c795, c796, c797, c798, rfl, rfl⟩)))))) dX11_count_126
  by_cases c799 : a1.toInt = 6
  · refine g_tabIn (tgt := 127) (a := 6) hk dX11_count_1 c799 (by decide) (by decide) rfl (by decide) ?_
    refine g_aload_n hk dX11_count_127 rfl ?_
    refine gX_r0_4 hk hin11 (by decide +kernel) dX11_count_128 ?_
    refine g_iconst (v := 3) hk dX11_count_131 (by decide) ?_
    refine g_callV hk (m312_X7_valueOf l D zt d q) (SP.same _) (fun _ h => h) gX11_count_X7_valueOf rfl rfl rfl (by decide +kernel) ⟨Nat.le_of_ble_eq_true rfl, Nat.le_of_ble_eq_true rfl⟩ 18 rfl rfl rfl rfl (Nat.le_of_ble_eq_true rfl) ⟨Nat.le_of_ble_eq_true rfl, Nat.le_of_ble_eq_true rfl⟩ dX11_count_132 (fun v ty' w' hp hk' => ?_)
    obtain ⟨rfl, rfl⟩ := hp
    show GW κ 2 0 0 (wX q d iX0 aX0) 135 [(0, .ref (q 0)), (1, .int a1)] [.int 8]
    exact g_iret hk hR rfl (Or.inr (Or.inr (Or.inr (Or.inr (Or.inr (Or.inr (Or.inl ⟨c793, c794, c795, c796, c797, c798, c799, rfl, rfl⟩))))))) dX11_count_135
  by_cases c800 : a1.toInt = 7
  · refine g_tabIn (tgt := 136) (a := 7) hk dX11_count_1 c800 (by decide) (by decide) rfl (by decide) ?_
    refine g_aload_n hk dX11_count_136 rfl ?_
    refine gX_r0_2 hk hin11 (by decide +kernel) dX11_count_137 ?_
    refine g_callV hk (m321_X6_readingsAtEnd l D zt d q) (SP.same _) (fun _ h => h) gX11_count_X6_readingsAtEnd rfl rfl rfl (by decide +kernel) ⟨Nat.le_of_ble_eq_true rfl, Nat.le_of_ble_eq_true rfl⟩ 13 rfl rfl rfl rfl (Nat.le_of_ble_eq_true rfl) ⟨Nat.le_of_ble_eq_true rfl, Nat.le_of_ble_eq_true rfl⟩ dX11_count_140 (fun v ty' w' hp hk' => ?_)
    obtain ⟨rfl, rfl⟩ := hp
    show GW κ 2 0 0 (wX q d iX0 aX0) 143 [(0, .ref (q 0)), (1, .int a1)] [.int 0]
    exact g_iret hk hR rfl (Or.inr (Or.inr (Or.inr (Or.inr (Or.inr (Or.inr (Or.inr (Or.inl ⟨c793, c794, c795, c796, c797, c798, c799, c800, rfl, rfl⟩)))))))) dX11_count_143
  by_cases c801 : a1.toInt = 8
  · refine g_tabIn (tgt := 144) (a := 8) hk dX11_count_1 c801 (by decide) (by decide) rfl (by decide) ?_
    refine g_aload_n hk dX11_count_144 rfl ?_
    refine gX_r0_0 hk hin11 (by decide +kernel) dX11_count_145 ?_
    refine gX_i0 (v := 0) hk hin10 (by decide +kernel) dX11_count_148 rfl ?_
    exact g_iret hk hR rfl (Or.inr (Or.inr (Or.inr (Or.inr (Or.inr (Or.inr (Or.inr (Or.inr (Or.inl ⟨c793, c794, c795, c796, c797, c798, c799, c800, c801, rfl, rfl⟩))))))))) dX11_count_151
  by_cases c802 : a1.toInt = 9
  · refine g_tabIn (tgt := 152) (a := 9) hk dX11_count_1 c802 (by decide) (by decide) rfl (by decide) ?_
    refine g_aload_n hk dX11_count_152 rfl ?_
    refine gX_r0_5 hk hin11 (by decide +kernel) dX11_count_153 ?_
    refine gX_i21 (v := 0) hk hin3 (by decide +kernel) dX11_count_156 rfl ?_
    exact g_iret hk hR rfl (Or.inr (Or.inr (Or.inr (Or.inr (Or.inr (Or.inr (Or.inr (Or.inr (Or.inr (Or.inl ⟨c793, c794, c795, c796, c797, c798, c799, c800, c801, c802, rfl, rfl⟩)))))))))) dX11_count_159
  by_cases c803 : a1.toInt = 10
  · refine g_tabIn (tgt := 160) (a := 10) hk dX11_count_1 c803 (by decide) (by decide) rfl (by decide) ?_
    refine g_aload_n hk dX11_count_160 rfl ?_
    refine gX_r0_2 hk hin11 (by decide +kernel) dX11_count_161 ?_
    refine g_iconst (v := 0) hk dX11_count_164 (by decide) ?_
    refine g_aload_n hk dX11_count_165 rfl ?_
    refine gX_r0_2 hk hin11 (by decide +kernel) dX11_count_166 ?_
    refine gX_i18 (v := 0) hk hin6 (by decide +kernel) dX11_count_169 rfl ?_
    refine g_callV hk (m322_X6_sumOf l D zt d q) (SP.same _) (fun _ h => h) gX11_count_X6_sumOf rfl rfl rfl (by decide +kernel) ⟨Nat.le_of_ble_eq_true rfl, Nat.le_of_ble_eq_true rfl⟩ 13 rfl rfl rfl rfl (Nat.le_of_ble_eq_true rfl) ⟨Nat.le_of_ble_eq_true rfl, Nat.le_of_ble_eq_true rfl⟩ dX11_count_172 (fun v ty' w' hp hk' => ?_)
    obtain ⟨rfl, rfl⟩ := hp
    show GW κ 2 0 0 (wX q d iX0 aX0) 175 [(0, .ref (q 0)), (1, .int a1)] [.int 0]
    exact g_iret hk hR rfl (Or.inr (Or.inr (Or.inr (Or.inr (Or.inr (Or.inr (Or.inr (Or.inr (Or.inr (Or.inr (Or.inl ⟨c793, c794, c795, c796, c797, c798, c799, c800, c801, c802, c803, rfl, rfl⟩))))))))))) dX11_count_175
  by_cases c804 : a1.toInt = 11
  · refine g_tabIn (tgt := 176) (a := 11) hk dX11_count_1 c804 (by decide) (by decide) rfl (by decide) ?_
    refine g_aload_n hk dX11_count_176 rfl ?_
    refine g_callV hk (m323_X11_slotsHeld l D zt d q) (SP.same _) (fun _ h => h) gX11_count_X11_slotsHeld rfl rfl rfl (by decide +kernel) ⟨Nat.le_of_ble_eq_true rfl, Nat.le_of_ble_eq_true rfl⟩ 0 rfl rfl rfl rfl (Nat.le_of_ble_eq_true rfl) ⟨Nat.le_of_ble_eq_true rfl, Nat.le_of_ble_eq_true rfl⟩ dX11_count_177 (fun v ty' w' hp hk' => ?_)
    obtain ⟨rfl, rfl⟩ := hp
    show GW κ 2 0 0 (wX q d iX0 aX0) 180 [(0, .ref (q 0)), (1, .int a1)] [.int 0]
    exact g_iret hk hR rfl (Or.inr (Or.inr (Or.inr (Or.inr (Or.inr (Or.inr (Or.inr (Or.inr (Or.inr (Or.inr (Or.inr (Or.inl ⟨c793, c794, c795, c796, c797, c798, c799, c800, c801, c802, c803, c804, rfl, rfl⟩)))))))))))) dX11_count_180
  by_cases c805 : a1.toInt = 12
  · refine g_tabIn (tgt := 181) (a := 12) hk dX11_count_1 c805 (by decide) (by decide) rfl (by decide) ?_
    refine g_aload_n hk dX11_count_181 rfl ?_
    refine gX_r0_2 hk hin11 (by decide +kernel) dX11_count_182 ?_
    refine g_iconst (v := 0) hk dX11_count_185 (by decide) ?_
    refine g_aload_n hk dX11_count_186 rfl ?_
    refine gX_r0_2 hk hin11 (by decide +kernel) dX11_count_187 ?_
    refine gX_i18 (v := 0) hk hin6 (by decide +kernel) dX11_count_190 rfl ?_
    refine g_callV hk (m324_X6_greatestOf l D zt d q) (SP.same _) (fun _ h => h) gX11_count_X6_greatestOf rfl rfl rfl (by decide +kernel) ⟨Nat.le_of_ble_eq_true rfl, Nat.le_of_ble_eq_true rfl⟩ 13 rfl rfl rfl rfl (Nat.le_of_ble_eq_true rfl) ⟨Nat.le_of_ble_eq_true rfl, Nat.le_of_ble_eq_true rfl⟩ dX11_count_193 (fun v ty' w' hp hk' => ?_)
    obtain ⟨rfl, rfl⟩ := hp
    show GW κ 2 0 0 (wX q d iX0 aX0) 196 [(0, .ref (q 0)), (1, .int a1)] [.int (-1000)]
    exact g_iret hk hR rfl (Or.inr (Or.inr (Or.inr (Or.inr (Or.inr (Or.inr (Or.inr (Or.inr (Or.inr (Or.inr (Or.inr (Or.inr (Or.inl ⟨c793, c794, c795, c796, c797, c798, c799, c800, c801, c802, c803, c804, c805, rfl, rfl⟩))))))))))))) dX11_count_196
  by_cases c806 : a1.toInt = 13
  · refine g_tabIn (tgt := 197) (a := 13) hk dX11_count_1 c806 (by decide) (by decide) rfl (by decide) ?_
    refine g_aload_n hk dX11_count_197 rfl ?_
    refine gX_r0_2 hk hin11 (by decide +kernel) dX11_count_198 ?_
    refine g_iconst (v := 0) hk dX11_count_201 (by decide) ?_
    refine g_aload_n hk dX11_count_202 rfl ?_
    refine gX_r0_2 hk hin11 (by decide +kernel) dX11_count_203 ?_
    refine gX_i18 (v := 0) hk hin6 (by decide +kernel) dX11_count_206 rfl ?_
    refine g_callV hk (m325_X6_leastOf l D zt d q) (SP.same _) (fun _ h => h) gX11_count_X6_leastOf rfl rfl rfl (by decide +kernel) ⟨Nat.le_of_ble_eq_true rfl, Nat.le_of_ble_eq_true rfl⟩ 13 rfl rfl rfl rfl (Nat.le_of_ble_eq_true rfl) ⟨Nat.le_of_ble_eq_true rfl, Nat.le_of_ble_eq_true rfl⟩ dX11_count_209 (fun v ty' w' hp hk' => ?_)
    obtain ⟨rfl, rfl⟩ := hp
    show GW κ 2 0 0 (wX q d iX0 aX0) 212 [(0, .ref (q 0)), (1, .int a1)] [.int (-1000)]
    exact g_iret hk hR rfl (Or.inr (Or.inr (Or.inr (Or.inr (Or.inr (Or.inr (Or.inr (Or.inr (Or.inr (Or.inr (Or.inr (Or.inr (Or.inr (Or.inl ⟨c793, c794, c795, c796, c797, c798, c799, c800, c801, c802, c803, c804, c805, c806, rfl, rfl⟩)))))))))))))) dX11_count_212
  by_cases c807 : a1.toInt = 14
  · refine g_tabIn (tgt := 213) (a := 14) hk dX11_count_1 c807 (by decide) (by decide) rfl (by decide) ?_
    refine g_aload_n hk dX11_count_213 rfl ?_
    refine gX_r0_2 hk hin11 (by decide +kernel) dX11_count_214 ?_
    refine g_iconst (v := 0) hk dX11_count_217 (by decide) ?_
    refine g_callV hk (m326_X6_runFrom l D zt d q) (SP.same _) (fun _ h => h) gX11_count_X6_runFrom rfl rfl rfl (by decide +kernel) ⟨Nat.le_of_ble_eq_true rfl, Nat.le_of_ble_eq_true rfl⟩ 13 rfl rfl rfl rfl (Nat.le_of_ble_eq_true rfl) ⟨Nat.le_of_ble_eq_true rfl, Nat.le_of_ble_eq_true rfl⟩ dX11_count_218 (fun v ty' w' hp hk' => ?_)
    obtain ⟨rfl, rfl⟩ := hp
    show GW κ 2 0 0 (wX q d iX0 aX0) 221 [(0, .ref (q 0)), (1, .int a1)] [.int 0]
    exact g_iret hk hR rfl (Or.inr (Or.inr (Or.inr (Or.inr (Or.inr (Or.inr (Or.inr (Or.inr (Or.inr (Or.inr (Or.inr (Or.inr (Or.inr (Or.inr (Or.inl ⟨c793, c794, c795, c796, c797, c798, c799, c800, c801, c802, c803, c804, c805, c806, c807, rfl, rfl⟩))))))))))))))) dX11_count_221
  refine g_tabOut (tgt := 222) (a := a1.toInt) hk dX11_count_1 rfl (by omega) (by decide) ?_
  refine g_iconst (v := (-1)) hk dX11_count_222 (by decide) ?_
  exact g_iret hk hR rfl (Or.inr (Or.inr (Or.inr (Or.inr (Or.inr (Or.inr (Or.inr (Or.inr (Or.inr (Or.inr (Or.inr (Or.inr (Or.inr (Or.inr (Or.inr (⟨c793, c794, c795, c796, c797, c798, c799, c800, c801, c802, c803, c804, c805, c806, c807, rfl, rfl⟩)))))))))))))))) dX11_count_223
