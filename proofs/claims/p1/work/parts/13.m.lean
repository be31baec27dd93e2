set_option maxHeartbeats 4000000 in
set_option maxRecDepth 100000 in
theorem m112_X12_init (l : Launch) (D : va_G) (zt : Nat × Nat × Nat) (h0 : Nat) : GM l D zt [] yX12_init wsX12_init ({ frames := 2, cells := 29, slots := 14217, locals := 48 } : Room) [.ref h0] ([(h0, .inr (12, [.int 0, .null, .int 0, .null, .int 0, .null, .null, .null, .null, .null, .int 0, .int 0, .int 0, .int 0, .int 0, .int 0, .int 0, .int 0, .int 0, .int 0, .int 0, .int 0, .int 0, .int 0, .int 0, .null, .null, .null, .null, .null, .null, .null, .null, .null, .null, .null, .null, .int 0, .null, .null, .null, .int 0, .int 0, .int 0, .int 0, .null, .null, .int 0, .null, .null, .int 0, .null, .int 0, .null, .null]))]) (fun v ty' w' => ∃ (r : Nat → Nat), ∃ (g : Nat → ClassId), r 0 = h0 ∧ v = none ∧ ty' = tyM g ∧ w' = wM r g (upd iM0 14 (-1)) (up2 (up3 (up3 (up2 (up3 (up3 (up3 (up3 aM0 13 0 2) 16 0 8) 13 1 2) 16 1 8) 18 (cp (fun _ => 0) ((up3 (up3 (up3 (up3 aM0 13 0 2) 16 0 8) 13 1 2) 16 1 8) 18) 165)) 18 161 2) 18 164 8) 17 (cp ((up3 (up3 (up2 (up3 (up3 (up3 (up3 aM0 13 0 2) 16 0 8) 13 1 2) 16 1 8) 18 (cp (fun _ => 0) ((up3 (up3 (up3 (up3 aM0 13 0 2) 16 0 8) 13 1 2) 16 1 8) 18) 165)) 18 161 2) 18 164 8) 18) ((up3 (up3 (up2 (up3 (up3 (up3 (up3 aM0 13 0 2) 16 0 8) 13 1 2) 16 1 8) 18 (cp (fun _ => 0) ((up3 (up3 (up3 (up3 aM0 13 0 2) 16 0 8) 13 1 2) 16 1 8) 18) 165)) 18 161 2) 18 164 8) 17) 165)) (up3L (up3L (up3L (up3L (up3L (up3L (up3L (up3L (up3L (up3L (up3L (up3L (up3L lM0 6 0 275647447) 6 1 9451996) 6 2 40477) 6 3 6491892) 6 4 70517) 6 5 847604) 6 6 5146) 6 7 286880) 6 8 259565) 6 9 3379448) 6 10 9596021) 6 11 8740238) 6 12 282078293)) 29 14217 := by
  refine GM.of (cc := cX12_init) (maxL := 1) (ret := none) (own := RX12) (lv := [(0, .ref h0)]) (by decide) rfl rfl (Nat.le_of_ble_eq_true rfl) rfl (fun κ sz hk hR hN => ?_)
  have hin12 : ∀ w ∈ u_ws RX12 TX12 55, w ∈ wsX12_init := by decide +kernel
  refine g_aload_n hk dX12_init_0 rfl ?_
  refine g_objInit hk (by decide +kernel) (by decide +kernel) (by decide +kernel) (Nat.le_of_ble_eq_true rfl) (Nat.le_of_ble_eq_true rfl) dX12_init_1 ?_
  refine g_aload_n hk dX12_init_4 rfl ?_
  refine g_sipush (v := 2000) hk dX12_init_5 (by decide) ?_
  refine g_newa (atype := .byte) (ty := .byte) (a0 := (2000, .inl (fun _ => 0))) hk (by decide +kernel) rfl (fun cA => rfl) (by decide) (by decide) (Nat.le_of_ble_eq_true rfl) (Nat.le_of_ble_eq_true rfl) (Nat.le_of_ble_eq_true rfl) dX12_init_8 (fun q178 d179 hk => ?_)
  have hk : GC κ l D zt cX12_init 1 RX12 wsX12_init [(d179, .byte)] ({ frames := 2, cells := 29, slots := 14217, locals := 48 } : Room) := hk
  show GW κ 1 1 2000 ([(h0, .inr (12, [.int 0, .null, .int 0, .null, .int 0, .null, .null, .null, .null, .null, .int 0, .int 0, .int 0, .int 0, .int 0, .int 0, .int 0, .int 0, .int 0, .int 0, .int 0, .int 0, .int 0, .int 0, .int 0, .null, .null, .null, .null, .null, .null, .null, .null, .null, .null, .null, .null, .int 0, .null, .null, .null, .int 0, .int 0, .int 0, .int 0, .null, .null, .int 0, .null, .null, .int 0, .null, .int 0, .null, .null])), (q178, .inl (d179, 2000, .inl (fun _ => 0)))]) 10 [(0, .ref h0)] [.ref q178, .ref h0]
  refine g_putF (ws' := [(h0, .inr (12, [.int 0, .ref q178, .int 0, .null, .int 0, .null, .null, .null, .null, .null, .int 0, .int 0, .int 0, .int 0, .int 0, .int 0, .int 0, .int 0, .int 0, .int 0, .int 0, .int 0, .int 0, .int 0, .int 0, .null, .null, .null, .null, .null, .null, .null, .null, .null, .null, .null, .null, .int 0, .null, .null, .null, .int 0, .int 0, .int 0, .int 0, .null, .null, .int 0, .null, .null, .int 0, .null, .int 0, .null, .null])), (q178, .inl (d179, 2000, .inl (fun _ => 0)))]) hk (hN rfl) hin12 tyX12 tyX12_ok nmX12 0 rfl rfl 1 (by decide) (by decide +kernel) rfl rfl rfl rfl rfl (by decide) rfl dX12_init_10 ?_
  refine g_aload_n hk dX12_init_13 rfl ?_
  refine g_sipush (v := 2000) hk dX12_init_14 (by decide) ?_
  refine g_newa (atype := .byte) (ty := .byte) (a0 := (2000, .inl (fun _ => 0))) hk (by decide +kernel) rfl (fun cA => rfl) (by decide) (by decide) (Nat.le_of_ble_eq_true rfl) (Nat.le_of_ble_eq_true rfl) (Nat.le_of_ble_eq_true rfl) dX12_init_17 (fun q180 d181 hk => ?_)
  have hk : GC κ l D zt cX12_init 1 RX12 wsX12_init [(d179, .byte), (d181, .byte)] ({ frames := 2, cells := 29, slots := 14217, locals := 48 } : Room) := hk
  show GW κ 1 2 4000 ([(h0, .inr (12, [.int 0, .ref q178, .int 0, .null, .int 0, .null, .null, .null, .null, .null, .int 0, .int 0, .int 0, .int 0, .int 0, .int 0, .int 0, .int 0, .int 0, .int 0, .int 0, .int 0, .int 0, .int 0, .int 0, .null, .null, .null, .null, .null, .null, .null, .null, .null, .null, .null, .null, .int 0, .null, .null, .null, .int 0, .int 0, .int 0, .int 0, .null, .null, .int 0, .null, .null, .int 0, .null, .int 0, .null, .null])), (q178, .inl (d179, 2000, .inl (fun _ => 0))), (q180, .inl (d181, 2000, .inl (fun _ => 0)))]) 19 [(0, .ref h0)] [.ref q180, .ref h0]
  refine g_putF (ws' := [(h0, .inr (12, [.int 0, .ref q178, .int 0, .ref q180, .int 0, .null, .null, .null, .null, .null, .int 0, .int 0, .int 0, .int 0, .int 0, .int 0, .int 0, .int 0, .int 0, .int 0, .int 0, .int 0, .int 0, .int 0, .int 0, .null, .null, .null, .null, .null, .null, .null, .null, .null, .null, .null, .null, .int 0, .null, .null, .null, .int 0, .int 0, .int 0, .int 0, .null, .null, .int 0, .null, .null, .int 0, .null, .int 0, .null, .null])), (q178, .inl (d179, 2000, .inl (fun _ => 0))), (q180, .inl (d181, 2000, .inl (fun _ => 0)))]) hk (hN rfl) hin12 tyX12 tyX12_ok nmX12 0 rfl rfl 3 (by decide) (by decide +kernel) rfl rfl rfl rfl rfl (by decide) rfl dX12_init_19 ?_
  refine g_aload_n hk dX12_init_22 rfl ?_
  refine g_sipush (v := 403) hk dX12_init_23 (by decide) ?_
  refine g_newa (atype := .int) (ty := .int) (a0 := (403, .inl (fun _ => 0))) hk (by decide +kernel) rfl (fun cA => rfl) (by decide) (by decide) (Nat.le_of_ble_eq_true rfl) (Nat.le_of_ble_eq_true rfl) (Nat.le_of_ble_eq_true rfl) dX12_init_26 (fun q182 d183 hk => ?_)
  have hk : GC κ l D zt cX12_init 1 RX12 wsX12_init [(d179, .byte), (d181, .byte), (d183, .int)] ({ frames := 2, cells := 29, slots := 14217, locals := 48 } : Room) := hk
  show GW κ 1 3 4403 ([(h0, .inr (12, [.int 0, .ref q178, .int 0, .ref q180, .int 0, .null, .null, .null, .null, .null, .int 0, .int 0, .int 0, .int 0, .int 0, .int 0, .int 0, .int 0, .int 0, .int 0, .int 0, .int 0, .int 0, .int 0, .int 0, .null, .null, .null, .null, .null, .null, .null, .null, .null, .null, .null, .null, .int 0, .null, .null, .null, .int 0, .int 0, .int 0, .int 0, .null, .null, .int 0, .null, .null, .int 0, .null, .int 0, .null, .null])), (q178, .inl (d179, 2000, .inl (fun _ => 0))), (q180, .inl (d181, 2000, .inl (fun _ => 0))), (q182, .inl (d183, 403, .inl (fun _ => 0)))]) 28 [(0, .ref h0)] [.ref q182, .ref h0]
  refine g_putF (ws' := [(h0, .inr (12, [.int 0, .ref q178, .int 0, .ref q180, .int 0, .ref q182, .null, .null, .null, .null, .int 0, .int 0, .int 0, .int 0, .int 0, .int 0, .int 0, .int 0, .int 0, .int 0, .int 0, .int 0, .int 0, .int 0, .int 0, .null, .null, .null, .null, .null, .null, .null, .null, .null, .null, .null, .null, .int 0, .null, .null, .null, .int 0, .int 0, .int 0, .int 0, .null, .null, .int 0, .null, .null, .int 0, .null, .int 0, .null, .null])), (q178, .inl (d179, 2000, .inl (fun _ => 0))), (q180, .inl (d181, 2000, .inl (fun _ => 0))), (q182, .inl (d183, 403, .inl (fun _ => 0)))]) hk (hN rfl) hin12 tyX12 tyX12_ok nmX12 0 rfl rfl 5 (by decide) (by decide +kernel) rfl rfl rfl rfl rfl (by decide) rfl dX12_init_28 ?_
  refine g_aload_n hk dX12_init_31 rfl ?_
  refine g_sipush (v := 403) hk dX12_init_32 (by decide) ?_
  refine g_newa (atype := .int) (ty := .int) (a0 := (403, .inl (fun _ => 0))) hk (by decide +kernel) rfl (fun cA => rfl) (by decide) (by decide) (Nat.le_of_ble_eq_true rfl) (Nat.le_of_ble_eq_true rfl) (Nat.le_of_ble_eq_true rfl) dX12_init_35 (fun q184 d185 hk => ?_)
  have hk : GC κ l D zt cX12_init 1 RX12 wsX12_init [(d179, .byte), (d181, .byte), (d183, .int), (d185, .int)] ({ frames := 2, cells := 29, slots := 14217, locals := 48 } : Room) := hk
  show GW κ 1 4 4806 ([(h0, .inr (12, [.int 0, .ref q178, .int 0, .ref q180, .int 0, .ref q182, .null, .null, .null, .null, .int 0, .int 0, .int 0, .int 0, .int 0, .int 0, .int 0, .int 0, .int 0, .int 0, .int 0, .int 0, .int 0, .int 0, .int 0, .null, .null, .null, .null, .null, .null, .null, .null, .null, .null, .null, .null, .int 0, .null, .null, .null, .int 0, .int 0, .int 0, .int 0, .null, .null, .int 0, .null, .null, .int 0, .null, .int 0, .null, .null])), (q178, .inl (d179, 2000, .inl (fun _ => 0))), (q180, .inl (d181, 2000, .inl (fun _ => 0))), (q182, .inl (d183, 403, .inl (fun _ => 0))), (q184, .inl (d185, 403, .inl (fun _ => 0)))]) 37 [(0, .ref h0)] [.ref q184, .ref h0]
  refine g_putF (ws' := [(h0, .inr (12, [.int 0, .ref q178, .int 0, .ref q180, .int 0, .ref q182, .ref q184, .null, .null, .null, .int 0, .int 0, .int 0, .int 0, .int 0, .int 0, .int 0, .int 0, .int 0, .int 0, .int 0, .int 0, .int 0, .int 0, .int 0, .null, .null, .null, .null, .null, .null, .null, .null, .null, .null, .null, .null, .int 0, .null, .null, .null, .int 0, .int 0, .int 0, .int 0, .null, .null, .int 0, .null, .null, .int 0, .null, .int 0, .null, .null])), (q178, .inl (d179, 2000, .inl (fun _ => 0))), (q180, .inl (d181, 2000, .inl (fun _ => 0))), (q182, .inl (d183, 403, .inl (fun _ => 0))), (q184, .inl (d185, 403, .inl (fun _ => 0)))]) hk (hN rfl) hin12 tyX12 tyX12_ok nmX12 0 rfl rfl 6 (by decide) (by decide +kernel) rfl rfl rfl rfl rfl (by decide) rfl dX12_init_37 ?_
  refine g_aload_n hk dX12_init_40 rfl ?_
  refine g_sipush (v := 403) hk dX12_init_41 (by decide) ?_
  refine g_newa (atype := .int) (ty := .int) (a0 := (403, .inl (fun _ => 0))) hk (by decide +kernel) rfl (fun cA => rfl) (by decide) (by decide) (Nat.le_of_ble_eq_true rfl) (Nat.le_of_ble_eq_true rfl) (Nat.le_of_ble_eq_true rfl) dX12_init_44 (fun q186 d187 hk => ?_)
  have hk : GC κ l D zt cX12_init 1 RX12 wsX12_init [(d179, .byte), (d181, .byte), (d183, .int), (d185, .int), (d187, .int)] ({ frames := 2, cells := 29, slots := 14217, locals := 48 } : Room) := hk
  show GW κ 1 5 5209 ([(h0, .inr (12, [.int 0, .ref q178, .int 0, .ref q180, .int 0, .ref q182, .ref q184, .null, .null, .null, .int 0, .int 0, .int 0, .int 0, .int 0, .int 0, .int 0, .int 0, .int 0, .int 0, .int 0, .int 0, .int 0, .int 0, .int 0, .null, .null, .null, .null, .null, .null, .null, .null, .null, .null, .null, .null, .int 0, .null, .null, .null, .int 0, .int 0, .int 0, .int 0, .null, .null, .int 0, .null, .null, .int 0, .null, .int 0, .null, .null])), (q178, .inl (d179, 2000, .inl (fun _ => 0))), (q180, .inl (d181, 2000, .inl (fun _ => 0))), (q182, .inl (d183, 403, .inl (fun _ => 0))), (q184, .inl (d185, 403, .inl (fun _ => 0))), (q186, .inl (d187, 403, .inl (fun _ => 0)))]) 46 [(0, .ref h0)] [.ref q186, .ref h0]
  refine g_putF (ws' := [(h0, .inr (12, [.int 0, .ref q178, .int 0, .ref q180, .int 0, .ref q182, .ref q184, .ref q186, .null, .null, .int 0, .int 0, .int 0, .int 0, .int 0, .int 0, .int 0, .int 0, .int 0, .int 0, .int 0, .int 0, .int 0, .int 0, .int 0, .null, .null, .null, .null, .null, .null, .null, .null, .null, .null, .null, .null, .int 0, .null, .null, .null, .int 0, .int 0, .int 0, .int 0, .null, .null, .int 0, .null, .null, .int 0, .null, .int 0, .null, .null])), (q178, .inl (d179, 2000, .inl (fun _ => 0))), (q180, .inl (d181, 2000, .inl (fun _ => 0))), (q182, .inl (d183, 403, .inl (fun _ => 0))), (q184, .inl (d185, 403, .inl (fun _ => 0))), (q186, .inl (d187, 403, .inl (fun _ => 0)))]) hk (hN rfl) hin12 tyX12 tyX12_ok nmX12 0 rfl rfl 7 (by decide) (by decide +kernel) rfl rfl rfl rfl rfl (by decide) rfl dX12_init_46 ?_
  refine g_aload_n hk dX12_init_49 rfl ?_
  refine g_sipush (v := 403) hk dX12_init_50 (by decide) ?_
  refine g_newa (atype := .long) (ty := .long) (a0 := (403, .inr (.inl (fun _ => 0)))) hk (by decide +kernel) rfl (fun cA => rfl) (by decide) (by decide) (Nat.le_of_ble_eq_true rfl) (Nat.le_of_ble_eq_true rfl) (Nat.le_of_ble_eq_true rfl) dX12_init_53 (fun q188 d189 hk => ?_)
  have hk : GC κ l D zt cX12_init 1 RX12 wsX12_init [(d179, .byte), (d181, .byte), (d183, .int), (d185, .int), (d187, .int), (d189, .long)] ({ frames := 2, cells := 29, slots := 14217, locals := 48 } : Room) := hk
  show GW κ 1 6 5612 ([(h0, .inr (12, [.int 0, .ref q178, .int 0, .ref q180, .int 0, .ref q182, .ref q184, .ref q186, .null, .null, .int 0, .int 0, .int 0, .int 0, .int 0, .int 0, .int 0, .int 0, .int 0, .int 0, .int 0, .int 0, .int 0, .int 0, .int 0, .null, .null, .null, .null, .null, .null, .null, .null, .null, .null, .null, .null, .int 0, .null, .null, .null, .int 0, .int 0, .int 0, .int 0, .null, .null, .int 0, .null, .null, .int 0, .null, .int 0, .null, .null])), (q178, .inl (d179, 2000, .inl (fun _ => 0))), (q180, .inl (d181, 2000, .inl (fun _ => 0))), (q182, .inl (d183, 403, .inl (fun _ => 0))), (q184, .inl (d185, 403, .inl (fun _ => 0))), (q186, .inl (d187, 403, .inl (fun _ => 0))), (q188, .inl (d189, 403, .inr (.inl (fun _ => 0))))]) 55 [(0, .ref h0)] [.ref q188, .ref h0]
  refine g_putF (ws' := [(h0, .inr (12, [.int 0, .ref q178, .int 0, .ref q180, .int 0, .ref q182, .ref q184, .ref q186, .ref q188, .null, .int 0, .int 0, .int 0, .int 0, .int 0, .int 0, .int 0, .int 0, .int 0, .int 0, .int 0, .int 0, .int 0, .int 0, .int 0, .null, .null, .null, .null, .null, .null, .null, .null, .null, .null, .null, .null, .int 0, .null, .null, .null, .int 0, .int 0, .int 0, .int 0, .null, .null, .int 0, .null, .null, .int 0, .null, .int 0, .null, .null])), (q178, .inl (d179, 2000, .inl (fun _ => 0))), (q180, .inl (d181, 2000, .inl (fun _ => 0))), (q182, .inl (d183, 403, .inl (fun _ => 0))), (q184, .inl (d185, 403, .inl (fun _ => 0))), (q186, .inl (d187, 403, .inl (fun _ => 0))), (q188, .inl (d189, 403, .inr (.inl (fun _ => 0))))]) hk (hN rfl) hin12 tyX12 tyX12_ok nmX12 0 rfl rfl 8 (by decide) (by decide +kernel) rfl rfl rfl rfl rfl (by decide) rfl dX12_init_55 ?_
  refine g_aload_n hk dX12_init_58 rfl ?_
  refine g_bipush (v := 13) hk dX12_init_59 (by decide) ?_
  refine g_newa (atype := .long) (ty := .long) (a0 := (13, .inr (.inl (fun _ => 0)))) hk (by decide +kernel) rfl (fun cA => rfl) (by decide) (by decide) (Nat.le_of_ble_eq_true rfl) (Nat.le_of_ble_eq_true rfl) (Nat.le_of_ble_eq_true rfl) dX12_init_61 (fun q190 d191 hk => ?_)
  have hk : GC κ l D zt cX12_init 1 RX12 wsX12_init [(d179, .byte), (d181, .byte), (d183, .int), (d185, .int), (d187, .int), (d189, .long), (d191, .long)] ({ frames := 2, cells := 29, slots := 14217, locals := 48 } : Room) := hk
  show GW κ 1 7 5625 ([(h0, .inr (12, [.int 0, .ref q178, .int 0, .ref q180, .int 0, .ref q182, .ref q184, .ref q186, .ref q188, .null, .int 0, .int 0, .int 0, .int 0, .int 0, .int 0, .int 0, .int 0, .int 0, .int 0, .int 0, .int 0, .int 0, .int 0, .int 0, .null, .null, .null, .null, .null, .null, .null, .null, .null, .null, .null, .null, .int 0, .null, .null, .null, .int 0, .int 0, .int 0, .int 0, .null, .null, .int 0, .null, .null, .int 0, .null, .int 0, .null, .null])), (q178, .inl (d179, 2000, .inl (fun _ => 0))), (q180, .inl (d181, 2000, .inl (fun _ => 0))), (q182, .inl (d183, 403, .inl (fun _ => 0))), (q184, .inl (d185, 403, .inl (fun _ => 0))), (q186, .inl (d187, 403, .inl (fun _ => 0))), (q188, .inl (d189, 403, .inr (.inl (fun _ => 0)))), (q190, .inl (d191, 13, .inr (.inl (fun _ => 0))))]) 63 [(0, .ref h0)] [.ref q190, .ref h0]
  refine g_putF (ws' := [(h0, .inr (12, [.int 0, .ref q178, .int 0, .ref q180, .int 0, .ref q182, .ref q184, .ref q186, .ref q188, .ref q190, .int 0, .int 0, .int 0, .int 0, .int 0, .int 0, .int 0, .int 0, .int 0, .int 0, .int 0, .int 0, .int 0, .int 0, .int 0, .null, .null, .null, .null, .null, .null, .null, .null, .null, .null, .null, .null, .int 0, .null, .null, .null, .int 0, .int 0, .int 0, .int 0, .null, .null, .int 0, .null, .null, .int 0, .null, .int 0, .null, .null])), (q178, .inl (d179, 2000, .inl (fun _ => 0))), (q180, .inl (d181, 2000, .inl (fun _ => 0))), (q182, .inl (d183, 403, .inl (fun _ => 0))), (q184, .inl (d185, 403, .inl (fun _ => 0))), (q186, .inl (d187, 403, .inl (fun _ => 0))), (q188, .inl (d189, 403, .inr (.inl (fun _ => 0)))), (q190, .inl (d191, 13, .inr (.inl (fun _ => 0))))]) hk (hN rfl) hin12 tyX12 tyX12_ok nmX12 0 rfl rfl 9 (by decide) (by decide +kernel) rfl rfl rfl rfl rfl (by decide) rfl dX12_init_63 ?_
  refine g_aload_n hk dX12_init_66 rfl ?_
  refine g_iconst (v := (-1)) hk dX12_init_67 (by decide) ?_
  refine g_put (ws' := [(h0, .inr (12, [.int 0, .ref q178, .int 0, .ref q180, .int 0, .ref q182, .ref q184, .ref q186, .ref q188, .ref q190, .int 0, .int 0, .int 0, .int 0, .int 0, .int 0, .int 0, .int (-1), .int 0, .int 0, .int 0, .int 0, .int 0, .int 0, .int 0, .null, .null, .null, .null, .null, .null, .null, .null, .null, .null, .null, .null, .int 0, .null, .null, .null, .int 0, .int 0, .int 0, .int 0, .null, .null, .int 0, .null, .null, .int 0, .null, .int 0, .null, .null])), (q178, .inl (d179, 2000, .inl (fun _ => 0))), (q180, .inl (d181, 2000, .inl (fun _ => 0))), (q182, .inl (d183, 403, .inl (fun _ => 0))), (q184, .inl (d185, 403, .inl (fun _ => 0))), (q186, .inl (d187, 403, .inl (fun _ => 0))), (q188, .inl (d189, 403, .inr (.inl (fun _ => 0)))), (q190, .inl (d191, 13, .inr (.inl (fun _ => 0))))]) hk hin12 tyX12 tyX12_ok nmX12 0 rfl rfl 17 (by decide) (by decide +kernel) rfl rfl rfl rfl (by decide) rfl dX12_init_68 ?_
  refine g_aload_n hk dX12_init_71 rfl ?_
  refine g_iconst (v := 5) hk dX12_init_72 (by decide) ?_
  refine g_newa (atype := .long) (ty := .long) (a0 := (5, .inr (.inl (fun _ => 0)))) hk (by decide +kernel) rfl (fun cA => rfl) (by decide) (by decide) (Nat.le_of_ble_eq_true rfl) (Nat.le_of_ble_eq_true rfl) (Nat.le_of_ble_eq_true rfl) dX12_init_73 (fun q192 d193 hk => ?_)
  have hk : GC κ l D zt cX12_init 1 RX12 wsX12_init [(d179, .byte), (d181, .byte), (d183, .int), (d185, .int), (d187, .int), (d189, .long), (d191, .long), (d193, .long)] ({ frames := 2, cells := 29, slots := 14217, locals := 48 } : Room) := hk
  show GW κ 1 8 5630 ([(h0, .inr (12, [.int 0, .ref q178, .int 0, .ref q180, .int 0, .ref q182, .ref q184, .ref q186, .ref q188, .ref q190, .int 0, .int 0, .int 0, .int 0, .int 0, .int 0, .int 0, .int (-1), .int 0, .int 0, .int 0, .int 0, .int 0, .int 0, .int 0, .null, .null, .null, .null, .null, .null, .null, .null, .null, .null, .null, .null, .int 0, .null, .null, .null, .int 0, .int 0, .int 0, .int 0, .null, .null, .int 0, .null, .null, .int 0, .null, .int 0, .null, .null])), (q178, .inl (d179, 2000, .inl (fun _ => 0))), (q180, .inl (d181, 2000, .inl (fun _ => 0))), (q182, .inl (d183, 403, .inl (fun _ => 0))), (q184, .inl (d185, 403, .inl (fun _ => 0))), (q186, .inl (d187, 403, .inl (fun _ => 0))), (q188, .inl (d189, 403, .inr (.inl (fun _ => 0)))), (q190, .inl (d191, 13, .inr (.inl (fun _ => 0)))), (q192, .inl (d193, 5, .inr (.inl (fun _ => 0))))]) 75 [(0, .ref h0)] [.ref q192, .ref h0]
  refine g_putF (ws' := [(h0, .inr (12, [.int 0, .ref q178, .int 0, .ref q180, .int 0, .ref q182, .ref q184, .ref q186, .ref q188, .ref q190, .int 0, .int 0, .int 0, .int 0, .int 0, .int 0, .int 0, .int (-1), .int 0, .int 0, .int 0, .int 0, .int 0, .int 0, .int 0, .ref q192, .null, .null, .null, .null, .null, .null, .null, .null, .null, .null, .null, .int 0, .null, .null, .null, .int 0, .int 0, .int 0, .int 0, .null, .null, .int 0, .null, .null, .int 0, .null, .int 0, .null, .null])), (q178, .inl (d179, 2000, .inl (fun _ => 0))), (q180, .inl (d181, 2000, .inl (fun _ => 0))), (q182, .inl (d183, 403, .inl (fun _ => 0))), (q184, .inl (d185, 403, .inl (fun _ => 0))), (q186, .inl (d187, 403, .inl (fun _ => 0))), (q188, .inl (d189, 403, .inr (.inl (fun _ => 0)))), (q190, .inl (d191, 13, .inr (.inl (fun _ => 0)))), (q192, .inl (d193, 5, .inr (.inl (fun _ => 0))))]) hk (hN rfl) hin12 tyX12 tyX12_ok nmX12 0 rfl rfl 25 (by decide) (by decide +kernel) rfl rfl rfl rfl rfl (by decide) rfl dX12_init_75 ?_
  refine g_aload_n hk dX12_init_78 rfl ?_
  refine g_iconst (v := 2) hk dX12_init_79 (by decide) ?_
  refine g_newa (atype := .int) (ty := .int) (a0 := (2, .inl (fun _ => 0))) hk (by decide +kernel) rfl (fun cA => rfl) (by decide) (by decide) (Nat.le_of_ble_eq_true rfl) (Nat.le_of_ble_eq_true rfl) (Nat.le_of_ble_eq_true rfl) dX12_init_80 (fun q194 d195 hk => ?_)
  have hk : GC κ l D zt cX12_init 1 RX12 wsX12_init [(d179, .byte), (d181, .byte), (d183, .int), (d185, .int), (d187, .int), (d189, .long), (d191, .long), (d193, .long), (d195, .int)] ({ frames := 2, cells := 29, slots := 14217, locals := 48 } : Room) := hk
  show GW κ 1 9 5632 ([(h0, .inr (12, [.int 0, .ref q178, .int 0, .ref q180, .int 0, .ref q182, .ref q184, .ref q186, .ref q188, .ref q190, .int 0, .int 0, .int 0, .int 0, .int 0, .int 0, .int 0, .int (-1), .int 0, .int 0, .int 0, .int 0, .int 0, .int 0, .int 0, .ref q192, .null, .null, .null, .null, .null, .null, .null, .null, .null, .null, .null, .int 0, .null, .null, .null, .int 0, .int 0, .int 0, .int 0, .null, .null, .int 0, .null, .null, .int 0, .null, .int 0, .null, .null])), (q178, .inl (d179, 2000, .inl (fun _ => 0))), (q180, .inl (d181, 2000, .inl (fun _ => 0))), (q182, .inl (d183, 403, .inl (fun _ => 0))), (q184, .inl (d185, 403, .inl (fun _ => 0))), (q186, .inl (d187, 403, .inl (fun _ => 0))), (q188, .inl (d189, 403, .inr (.inl (fun _ => 0)))), (q190, .inl (d191, 13, .inr (.inl (fun _ => 0)))), (q192, .inl (d193, 5, .inr (.inl (fun _ => 0)))), (q194, .inl (d195, 2, .inl (fun _ => 0)))]) 82 [(0, .ref h0)] [.ref q194, .ref h0]
  refine g_putF (ws' := [(h0, .inr (12, [.int 0, .ref q178, .int 0, .ref q180, .int 0, .ref q182, .ref q184, .ref q186, .ref q188, .ref q190, .int 0, .int 0, .int 0, .int 0, .int 0, .int 0, .int 0, .int (-1), .int 0, .int 0, .int 0, .int 0, .int 0, .int 0, .int 0, .ref q192, .ref q194, .null, .null, .null, .null, .null, .null, .null, .null, .null, .null, .int 0, .null, .null, .null, .int 0, .int 0, .int 0, .int 0, .null, .null, .int 0, .null, .null, .int 0, .null, .int 0, .null, .null])), (q178, .inl (d179, 2000, .inl (fun _ => 0))), (q180, .inl (d181, 2000, .inl (fun _ => 0))), (q182, .inl (d183, 403, .inl (fun _ => 0))), (q184, .inl (d185, 403, .inl (fun _ => 0))), (q186, .inl (d187, 403, .inl (fun _ => 0))), (q188, .inl (d189, 403, .inr (.inl (fun _ => 0)))), (q190, .inl (d191, 13, .inr (.inl (fun _ => 0)))), (q192, .inl (d193, 5, .inr (.inl (fun _ => 0)))), (q194, .inl (d195, 2, .inl (fun _ => 0)))]) hk (hN rfl) hin12 tyX12 tyX12_ok nmX12 0 rfl rfl 26 (by decide) (by decide +kernel) rfl rfl rfl rfl rfl (by decide) rfl dX12_init_82 ?_
  refine g_aload_n hk dX12_init_85 rfl ?_
  refine g_sipush (v := 320) hk dX12_init_86 (by decide) ?_
  refine g_newa (atype := .int) (ty := .int) (a0 := (320, .inl (fun _ => 0))) hk (by decide +kernel) rfl (fun cA => rfl) (by decide) (by decide) (Nat.le_of_ble_eq_true rfl) (Nat.le_of_ble_eq_true rfl) (Nat.le_of_ble_eq_true rfl) dX12_init_89 (fun q196 d197 hk => ?_)
  have hk : GC κ l D zt cX12_init 1 RX12 wsX12_init [(d179, .byte), (d181, .byte), (d183, .int), (d185, .int), (d187, .int), (d189, .long), (d191, .long), (d193, .long), (d195, .int), (d197, .int)] ({ frames := 2, cells := 29, slots := 14217, locals := 48 } : Room) := hk
  show GW κ 1 10 5952 ([(h0, .inr (12, [.int 0, .ref q178, .int 0, .ref q180, .int 0, .ref q182, .ref q184, .ref q186, .ref q188, .ref q190, .int 0, .int 0, .int 0, .int 0, .int 0, .int 0, .int 0, .int (-1), .int 0, .int 0, .int 0, .int 0, .int 0, .int 0, .int 0, .ref q192, .ref q194, .null, .null, .null, .null, .null, .null, .null, .null, .null, .null, .int 0, .null, .null, .null, .int 0, .int 0, .int 0, .int 0, .null, .null, .int 0, .null, .null, .int 0, .null, .int 0, .null, .null])), (q178, .inl (d179, 2000, .inl (fun _ => 0))), (q180, .inl (d181, 2000, .inl (fun _ => 0))), (q182, .inl (d183, 403, .inl (fun _ => 0))), (q184, .inl (d185, 403, .inl (fun _ => 0))), (q186, .inl (d187, 403, .inl (fun _ => 0))), (q188, .inl (d189, 403, .inr (.inl (fun _ => 0)))), (q190, .inl (d191, 13, .inr (.inl (fun _ => 0)))), (q192, .inl (d193, 5, .inr (.inl (fun _ => 0)))), (q194, .inl (d195, 2, .inl (fun _ => 0))), (q196, .inl (d197, 320, .inl (fun _ => 0)))]) 91 [(0, .ref h0)] [.ref q196, .ref h0]
  refine g_putF (ws' := [(h0, .inr (12, [.int 0, .ref q178, .int 0, .ref q180, .int 0, .ref q182, .ref q184, .ref q186, .ref q188, .ref q190, .int 0, .int 0, .int 0, .int 0, .int 0, .int 0, .int 0, .int (-1), .int 0, .int 0, .int 0, .int 0, .int 0, .int 0, .int 0, .ref q192, .ref q194, .ref q196, .null, .null, .null, .null, .null, .null, .null, .null, .null, .int 0, .null, .null, .null, .int 0, .int 0, .int 0, .int 0, .null, .null, .int 0, .null, .null, .int 0, .null, .int 0, .null, .null])), (q178, .inl (d179, 2000, .inl (fun _ => 0))), (q180, .inl (d181, 2000, .inl (fun _ => 0))), (q182, .inl (d183, 403, .inl (fun _ => 0))), (q184, .inl (d185, 403, .inl (fun _ => 0))), (q186, .inl (d187, 403, .inl (fun _ => 0))), (q188, .inl (d189, 403, .inr (.inl (fun _ => 0)))), (q190, .inl (d191, 13, .inr (.inl (fun _ => 0)))), (q192, .inl (d193, 5, .inr (.inl (fun _ => 0)))), (q194, .inl (d195, 2, .inl (fun _ => 0))), (q196, .inl (d197, 320, .inl (fun _ => 0)))]) hk (hN rfl) hin12 tyX12 tyX12_ok nmX12 0 rfl rfl 27 (by decide) (by decide +kernel) rfl rfl rfl rfl rfl (by decide) rfl dX12_init_91 ?_
  refine g_aload_n hk dX12_init_94 rfl ?_
  refine g_iconst (v := 2) hk dX12_init_95 (by decide) ?_
  refine g_newa (atype := .int) (ty := .int) (a0 := (2, .inl (fun _ => 0))) hk (by decide +kernel) rfl (fun cA => rfl) (by decide) (by decide) (Nat.le_of_ble_eq_true rfl) (Nat.le_of_ble_eq_true rfl) (Nat.le_of_ble_eq_true rfl) dX12_init_96 (fun q198 d199 hk => ?_)
  have hk : GC κ l D zt cX12_init 1 RX12 wsX12_init [(d179, .byte), (d181, .byte), (d183, .int), (d185, .int), (d187, .int), (d189, .long), (d191, .long), (d193, .long), (d195, .int), (d197, .int), (d199, .int)] ({ frames := 2, cells := 29, slots := 14217, locals := 48 } : Room) := hk
  show GW κ 1 11 5954 ([(h0, .inr (12, [.int 0, .ref q178, .int 0, .ref q180, .int 0, .ref q182, .ref q184, .ref q186, .ref q188, .ref q190, .int 0, .int 0, .int 0, .int 0, .int 0, .int 0, .int 0, .int (-1), .int 0, .int 0, .int 0, .int 0, .int 0, .int 0, .int 0, .ref q192, .ref q194, .ref q196, .null, .null, .null, .null, .null, .null, .null, .null, .null, .int 0, .null, .null, .null, .int 0, .int 0, .int 0, .int 0, .null, .null, .int 0, .null, .null, .int 0, .null, .int 0, .null, .null])), (q178, .inl (d179, 2000, .inl (fun _ => 0))), (q180, .inl (d181, 2000, .inl (fun _ => 0))), (q182, .inl (d183, 403, .inl (fun _ => 0))), (q184, .inl (d185, 403, .inl (fun _ => 0))), (q186, .inl (d187, 403, .inl (fun _ => 0))), (q188, .inl (d189, 403, .inr (.inl (fun _ => 0)))), (q190, .inl (d191, 13, .inr (.inl (fun _ => 0)))), (q192, .inl (d193, 5, .inr (.inl (fun _ => 0)))), (q194, .inl (d195, 2, .inl (fun _ => 0))), (q196, .inl (d197, 320, .inl (fun _ => 0))), (q198, .inl (d199, 2, .inl (fun _ => 0)))]) 98 [(0, .ref h0)] [.ref q198, .ref h0]
  refine g_putF (ws' := [(h0, .inr (12, [.int 0, .ref q178, .int 0, .ref q180, .int 0, .ref q182, .ref q184, .ref q186, .ref q188, .ref q190, .int 0, .int 0, .int 0, .int 0, .int 0, .int 0, .int 0, .int (-1), .int 0, .int 0, .int 0, .int 0, .int 0, .int 0, .int 0, .ref q192, .ref q194, .ref q196, .ref q198, .null, .null, .null, .null, .null, .null, .null, .null, .int 0, .null, .null, .null, .int 0, .int 0, .int 0, .int 0, .null, .null, .int 0, .null, .null, .int 0, .null, .int 0, .null, .null])), (q178, .inl (d179, 2000, .inl (fun _ => 0))), (q180, .inl (d181, 2000, .inl (fun _ => 0))), (q182, .inl (d183, 403, .inl (fun _ => 0))), (q184, .inl (d185, 403, .inl (fun _ => 0))), (q186, .inl (d187, 403, .inl (fun _ => 0))), (q188, .inl (d189, 403, .inr (.inl (fun _ => 0)))), (q190, .inl (d191, 13, .inr (.inl (fun _ => 0)))), (q192, .inl (d193, 5, .inr (.inl (fun _ => 0)))), (q194, .inl (d195, 2, .inl (fun _ => 0))), (q196, .inl (d197, 320, .inl (fun _ => 0))), (q198, .inl (d199, 2, .inl (fun _ => 0)))]) hk (hN rfl) hin12 tyX12 tyX12_ok nmX12 0 rfl rfl 28 (by decide) (by decide +kernel) rfl rfl rfl rfl rfl (by decide) rfl dX12_init_98 ?_
  refine g_aload_n hk dX12_init_101 rfl ?_
  refine g_bipush (v := 10) hk dX12_init_102 (by decide) ?_
  refine g_newa (atype := .int) (ty := .int) (a0 := (10, .inl (fun _ => 0))) hk (by decide +kernel) rfl (fun cA => rfl) (by decide) (by decide) (Nat.le_of_ble_eq_true rfl) (Nat.le_of_ble_eq_true rfl) (Nat.le_of_ble_eq_true rfl) dX12_init_104 (fun q200 d201 hk => ?_)
  have hk : GC κ l D zt cX12_init 1 RX12 wsX12_init [(d179, .byte), (d181, .byte), (d183, .int), (d185, .int), (d187, .int), (d189, .long), (d191, .long), (d193, .long), (d195, .int), (d197, .int), (d199, .int), (d201, .int)] ({ frames := 2, cells := 29, slots := 14217, locals := 48 } : Room) := hk
  show GW κ 1 12 5964 ([(h0, .inr (12, [.int 0, .ref q178, .int 0, .ref q180, .int 0, .ref q182, .ref q184, .ref q186, .ref q188, .ref q190, .int 0, .int 0, .int 0, .int 0, .int 0, .int 0, .int 0, .int (-1), .int 0, .int 0, .int 0, .int 0, .int 0, .int 0, .int 0, .ref q192, .ref q194, .ref q196, .ref q198, .null, .null, .null, .null, .null, .null, .null, .null, .int 0, .null, .null, .null, .int 0, .int 0, .int 0, .int 0, .null, .null, .int 0, .null, .null, .int 0, .null, .int 0, .null, .null])), (q178, .inl (d179, 2000, .inl (fun _ => 0))), (q180, .inl (d181, 2000, .inl (fun _ => 0))), (q182, .inl (d183, 403, .inl (fun _ => 0))), (q184, .inl (d185, 403, .inl (fun _ => 0))), (q186, .inl (d187, 403, .inl (fun _ => 0))), (q188, .inl (d189, 403, .inr (.inl (fun _ => 0)))), (q190, .inl (d191, 13, .inr (.inl (fun _ => 0)))), (q192, .inl (d193, 5, .inr (.inl (fun _ => 0)))), (q194, .inl (d195, 2, .inl (fun _ => 0))), (q196, .inl (d197, 320, .inl (fun _ => 0))), (q198, .inl (d199, 2, .inl (fun _ => 0))), (q200, .inl (d201, 10, .inl (fun _ => 0)))]) 106 [(0, .ref h0)] [.ref q200, .ref h0]
  refine g_putF (ws' := [(h0, .inr (12, [.int 0, .ref q178, .int 0, .ref q180, .int 0, .ref q182, .ref q184, .ref q186, .ref q188, .ref q190, .int 0, .int 0, .int 0, .int 0, .int 0, .int 0, .int 0, .int (-1), .int 0, .int 0, .int 0, .int 0, .int 0, .int 0, .int 0, .ref q192, .ref q194, .ref q196, .ref q198, .ref q200, .null, .null, .null, .null, .null, .null, .null, .int 0, .null, .null, .null, .int 0, .int 0, .int 0, .int 0, .null, .null, .int 0, .null, .null, .int 0, .null, .int 0, .null, .null])), (q178, .inl (d179, 2000, .inl (fun _ => 0))), (q180, .inl (d181, 2000, .inl (fun _ => 0))), (q182, .inl (d183, 403, .inl (fun _ => 0))), (q184, .inl (d185, 403, .inl (fun _ => 0))), (q186, .inl (d187, 403, .inl (fun _ => 0))), (q188, .inl (d189, 403, .inr (.inl (fun _ => 0)))), (q190, .inl (d191, 13, .inr (.inl (fun _ => 0)))), (q192, .inl (d193, 5, .inr (.inl (fun _ => 0)))), (q194, .inl (d195, 2, .inl (fun _ => 0))), (q196, .inl (d197, 320, .inl (fun _ => 0))), (q198, .inl (d199, 2, .inl (fun _ => 0))), (q200, .inl (d201, 10, .inl (fun _ => 0)))]) hk (hN rfl) hin12 tyX12 tyX12_ok nmX12 0 rfl rfl 29 (by decide) (by decide +kernel) rfl rfl rfl rfl rfl (by decide) rfl dX12_init_106 ?_
  refine g_aload_n hk dX12_init_109 rfl ?_
  refine g_sipush (v := 160) hk dX12_init_110 (by decide) ?_
  refine g_newa (atype := .int) (ty := .int) (a0 := (160, .inl (fun _ => 0))) hk (by decide +kernel) rfl (fun cA => rfl) (by decide) (by decide) (Nat.le_of_ble_eq_true rfl) (Nat.le_of_ble_eq_true rfl) (Nat.le_of_ble_eq_true rfl) dX12_init_113 (fun q202 d203 hk => ?_)
  have hk : GC κ l D zt cX12_init 1 RX12 wsX12_init [(d179, .byte), (d181, .byte), (d183, .int), (d185, .int), (d187, .int), (d189, .long), (d191, .long), (d193, .long), (d195, .int), (d197, .int), (d199, .int), (d201, .int), (d203, .int)] ({ frames := 2, cells := 29, slots := 14217, locals := 48 } : Room) := hk
  show GW κ 1 13 6124 ([(h0, .inr (12, [.int 0, .ref q178, .int 0, .ref q180, .int 0, .ref q182, .ref q184, .ref q186, .ref q188, .ref q190, .int 0, .int 0, .int 0, .int 0, .int 0, .int 0, .int 0, .int (-1), .int 0, .int 0, .int 0, .int 0, .int 0, .int 0, .int 0, .ref q192, .ref q194, .ref q196, .ref q198, .ref q200, .null, .null, .null, .null, .null, .null, .null, .int 0, .null, .null, .null, .int 0, .int 0, .int 0, .int 0, .null, .null, .int 0, .null, .null, .int 0, .null, .int 0, .null, .null])), (q178, .inl (d179, 2000, .inl (fun _ => 0))), (q180, .inl (d181, 2000, .inl (fun _ => 0))), (q182, .inl (d183, 403, .inl (fun _ => 0))), (q184, .inl (d185, 403, .inl (fun _ => 0))), (q186, .inl (d187, 403, .inl (fun _ => 0))), (q188, .inl (d189, 403, .inr (.inl (fun _ => 0)))), (q190, .inl (d191, 13, .inr (.inl (fun _ => 0)))), (q192, .inl (d193, 5, .inr (.inl (fun _ => 0)))), (q194, .inl (d195, 2, .inl (fun _ => 0))), (q196, .inl (d197, 320, .inl (fun _ => 0))), (q198, .inl (d199, 2, .inl (fun _ => 0))), (q200, .inl (d201, 10, .inl (fun _ => 0))), (q202, .inl (d203, 160, .inl (fun _ => 0)))]) 115 [(0, .ref h0)] [.ref q202, .ref h0]
  refine g_putF (ws' := [(h0, .inr (12, [.int 0, .ref q178, .int 0, .ref q180, .int 0, .ref q182, .ref q184, .ref q186, .ref q188, .ref q190, .int 0, .int 0, .int 0, .int 0, .int 0, .int 0, .int 0, .int (-1), .int 0, .int 0, .int 0, .int 0, .int 0, .int 0, .int 0, .ref q192, .ref q194, .ref q196, .ref q198, .ref q200, .ref q202, .null, .null, .null, .null, .null, .null, .int 0, .null, .null, .null, .int 0, .int 0, .int 0, .int 0, .null, .null, .int 0, .null, .null, .int 0, .null, .int 0, .null, .null])), (q178, .inl (d179, 2000, .inl (fun _ => 0))), (q180, .inl (d181, 2000, .inl (fun _ => 0))), (q182, .inl (d183, 403, .inl (fun _ => 0))), (q184, .inl (d185, 403, .inl (fun _ => 0))), (q186, .inl (d187, 403, .inl (fun _ => 0))), (q188, .inl (d189, 403, .inr (.inl (fun _ => 0)))), (q190, .inl (d191, 13, .inr (.inl (fun _ => 0)))), (q192, .inl (d193, 5, .inr (.inl (fun _ => 0)))), (q194, .inl (d195, 2, .inl (fun _ => 0))), (q196, .inl (d197, 320, .inl (fun _ => 0))), (q198, .inl (d199, 2, .inl (fun _ => 0))), (q200, .inl (d201, 10, .inl (fun _ => 0))), (q202, .inl (d203, 160, .inl (fun _ => 0)))]) hk (hN rfl) hin12 tyX12 tyX12_ok nmX12 0 rfl rfl 30 (by decide) (by decide +kernel) rfl rfl rfl rfl rfl (by decide) rfl dX12_init_115 ?_
  refine g_aload_n hk dX12_init_118 rfl ?_
  refine g_iconst (v := 2) hk dX12_init_119 (by decide) ?_
  refine g_newa (atype := .int) (ty := .int) (a0 := (2, .inl (fun _ => 0))) hk (by decide +kernel) rfl (fun cA => rfl) (by decide) (by decide) (Nat.le_of_ble_eq_true rfl) (Nat.le_of_ble_eq_true rfl) (Nat.le_of_ble_eq_true rfl) dX12_init_120 (fun q204 d205 hk => ?_)
  have hk : GC κ l D zt cX12_init 1 RX12 wsX12_init [(d179, .byte), (d181, .byte), (d183, .int), (d185, .int), (d187, .int), (d189, .long), (d191, .long), (d193, .long), (d195, .int), (d197, .int), (d199, .int), (d201, .int), (d203, .int), (d205, .int)] ({ frames := 2, cells := 29, slots := 14217, locals := 48 } : Room) := hk
  show GW κ 1 14 6126 ([(h0, .inr (12, [.int 0, .ref q178, .int 0, .ref q180, .int 0, .ref q182, .ref q184, .ref q186, .ref q188, .ref q190, .int 0, .int 0, .int 0, .int 0, .int 0, .int 0, .int 0, .int (-1), .int 0, .int 0, .int 0, .int 0, .int 0, .int 0, .int 0, .ref q192, .ref q194, .ref q196, .ref q198, .ref q200, .ref q202, .null, .null, .null, .null, .null, .null, .int 0, .null, .null, .null, .int 0, .int 0, .int 0, .int 0, .null, .null, .int 0, .null, .null, .int 0, .null, .int 0, .null, .null])), (q178, .inl (d179, 2000, .inl (fun _ => 0))), (q180, .inl (d181, 2000, .inl (fun _ => 0))), (q182, .inl (d183, 403, .inl (fun _ => 0))), (q184, .inl (d185, 403, .inl (fun _ => 0))), (q186, .inl (d187, 403, .inl (fun _ => 0))), (q188, .inl (d189, 403, .inr (.inl (fun _ => 0)))), (q190, .inl (d191, 13, .inr (.inl (fun _ => 0)))), (q192, .inl (d193, 5, .inr (.inl (fun _ => 0)))), (q194, .inl (d195, 2, .inl (fun _ => 0))), (q196, .inl (d197, 320, .inl (fun _ => 0))), (q198, .inl (d199, 2, .inl (fun _ => 0))), (q200, .inl (d201, 10, .inl (fun _ => 0))), (q202, .inl (d203, 160, .inl (fun _ => 0))), (q204, .inl (d205, 2, .inl (fun _ => 0)))]) 122 [(0, .ref h0)] [.ref q204, .ref h0]
  refine g_putF (ws' := [(h0, .inr (12, [.int 0, .ref q178, .int 0, .ref q180, .int 0, .ref q182, .ref q184, .ref q186, .ref q188, .ref q190, .int 0, .int 0, .int 0, .int 0, .int 0, .int 0, .int 0, .int (-1), .int 0, .int 0, .int 0, .int 0, .int 0, .int 0, .int 0, .ref q192, .ref q194, .ref q196, .ref q198, .ref q200, .ref q202, .ref q204, .null, .null, .null, .null, .null, .int 0, .null, .null, .null, .int 0, .int 0, .int 0, .int 0, .null, .null, .int 0, .null, .null, .int 0, .null, .int 0, .null, .null])), (q178, .inl (d179, 2000, .inl (fun _ => 0))), (q180, .inl (d181, 2000, .inl (fun _ => 0))), (q182, .inl (d183, 403, .inl (fun _ => 0))), (q184, .inl (d185, 403, .inl (fun _ => 0))), (q186, .inl (d187, 403, .inl (fun _ => 0))), (q188, .inl (d189, 403, .inr (.inl (fun _ => 0)))), (q190, .inl (d191, 13, .inr (.inl (fun _ => 0)))), (q192, .inl (d193, 5, .inr (.inl (fun _ => 0)))), (q194, .inl (d195, 2, .inl (fun _ => 0))), (q196, .inl (d197, 320, .inl (fun _ => 0))), (q198, .inl (d199, 2, .inl (fun _ => 0))), (q200, .inl (d201, 10, .inl (fun _ => 0))), (q202, .inl (d203, 160, .inl (fun _ => 0))), (q204, .inl (d205, 2, .inl (fun _ => 0)))]) hk (hN rfl) hin12 tyX12 tyX12_ok nmX12 0 rfl rfl 31 (by decide) (by decide +kernel) rfl rfl rfl rfl rfl (by decide) rfl dX12_init_122 ?_
  refine g_aload_n hk dX12_init_125 rfl ?_
  refine g_iconst (v := 2) hk dX12_init_126 (by decide) ?_
  refine g_newa (atype := .int) (ty := .int) (a0 := (2, .inl (fun _ => 0))) hk (by decide +kernel) rfl (fun cA => rfl) (by decide) (by decide) (Nat.le_of_ble_eq_true rfl) (Nat.le_of_ble_eq_true rfl) (Nat.le_of_ble_eq_true rfl) dX12_init_127 (fun q206 d207 hk => ?_)
  have hk : GC κ l D zt cX12_init 1 RX12 wsX12_init [(d179, .byte), (d181, .byte), (d183, .int), (d185, .int), (d187, .int), (d189, .long), (d191, .long), (d193, .long), (d195, .int), (d197, .int), (d199, .int), (d201, .int), (d203, .int), (d205, .int), (d207, .int)] ({ frames := 2, cells := 29, slots := 14217, locals := 48 } : Room) := hk
  show GW κ 1 15 6128 ([(h0, .inr (12, [.int 0, .ref q178, .int 0, .ref q180, .int 0, .ref q182, .ref q184, .ref q186, .ref q188, .ref q190, .int 0, .int 0, .int 0, .int 0, .int 0, .int 0, .int 0, .int (-1), .int 0, .int 0, .int 0, .int 0, .int 0, .int 0, .int 0, .ref q192, .ref q194, .ref q196, .ref q198, .ref q200, .ref q202, .ref q204, .null, .null, .null, .null, .null, .int 0, .null, .null, .null, .int 0, .int 0, .int 0, .int 0, .null, .null, .int 0, .null, .null, .int 0, .null, .int 0, .null, .null])), (q178, .inl (d179, 2000, .inl (fun _ => 0))), (q180, .inl (d181, 2000, .inl (fun _ => 0))), (q182, .inl (d183, 403, .inl (fun _ => 0))), (q184, .inl (d185, 403, .inl (fun _ => 0))), (q186, .inl (d187, 403, .inl (fun _ => 0))), (q188, .inl (d189, 403, .inr (.inl (fun _ => 0)))), (q190, .inl (d191, 13, .inr (.inl (fun _ => 0)))), (q192, .inl (d193, 5, .inr (.inl (fun _ => 0)))), (q194, .inl (d195, 2, .inl (fun _ => 0))), (q196, .inl (d197, 320, .inl (fun _ => 0))), (q198, .inl (d199, 2, .inl (fun _ => 0))), (q200, .inl (d201, 10, .inl (fun _ => 0))), (q202, .inl (d203, 160, .inl (fun _ => 0))), (q204, .inl (d205, 2, .inl (fun _ => 0))), (q206, .inl (d207, 2, .inl (fun _ => 0)))]) 129 [(0, .ref h0)] [.ref q206, .ref h0]
  refine g_putF (ws' := [(h0, .inr (12, [.int 0, .ref q178, .int 0, .ref q180, .int 0, .ref q182, .ref q184, .ref q186, .ref q188, .ref q190, .int 0, .int 0, .int 0, .int 0, .int 0, .int 0, .int 0, .int (-1), .int 0, .int 0, .int 0, .int 0, .int 0, .int 0, .int 0, .ref q192, .ref q194, .ref q196, .ref q198, .ref q200, .ref q202, .ref q204, .ref q206, .null, .null, .null, .null, .int 0, .null, .null, .null, .int 0, .int 0, .int 0, .int 0, .null, .null, .int 0, .null, .null, .int 0, .null, .int 0, .null, .null])), (q178, .inl (d179, 2000, .inl (fun _ => 0))), (q180, .inl (d181, 2000, .inl (fun _ => 0))), (q182, .inl (d183, 403, .inl (fun _ => 0))), (q184, .inl (d185, 403, .inl (fun _ => 0))), (q186, .inl (d187, 403, .inl (fun _ => 0))), (q188, .inl (d189, 403, .inr (.inl (fun _ => 0)))), (q190, .inl (d191, 13, .inr (.inl (fun _ => 0)))), (q192, .inl (d193, 5, .inr (.inl (fun _ => 0)))), (q194, .inl (d195, 2, .inl (fun _ => 0))), (q196, .inl (d197, 320, .inl (fun _ => 0))), (q198, .inl (d199, 2, .inl (fun _ => 0))), (q200, .inl (d201, 10, .inl (fun _ => 0))), (q202, .inl (d203, 160, .inl (fun _ => 0))), (q204, .inl (d205, 2, .inl (fun _ => 0))), (q206, .inl (d207, 2, .inl (fun _ => 0)))]) hk (hN rfl) hin12 tyX12 tyX12_ok nmX12 0 rfl rfl 32 (by decide) (by decide +kernel) rfl rfl rfl rfl rfl (by decide) rfl dX12_init_129 ?_
  refine g_aload_n hk dX12_init_132 rfl ?_
  refine g_iconst (v := 2) hk dX12_init_133 (by decide) ?_
  refine g_newa (atype := .int) (ty := .int) (a0 := (2, .inl (fun _ => 0))) hk (by decide +kernel) rfl (fun cA => rfl) (by decide) (by decide) (Nat.le_of_ble_eq_true rfl) (Nat.le_of_ble_eq_true rfl) (Nat.le_of_ble_eq_true rfl) dX12_init_134 (fun q208 d209 hk => ?_)
  have hk : GC κ l D zt cX12_init 1 RX12 wsX12_init [(d179, .byte), (d181, .byte), (d183, .int), (d185, .int), (d187, .int), (d189, .long), (d191, .long), (d193, .long), (d195, .int), (d197, .int), (d199, .int), (d201, .int), (d203, .int), (d205, .int), (d207, .int), (d209, .int)] ({ frames := 2, cells := 29, slots := 14217, locals := 48 } : Room) := hk
  show GW κ 1 16 6130 ([(h0, .inr (12, [.int 0, .ref q178, .int 0, .ref q180, .int 0, .ref q182, .ref q184, .ref q186, .ref q188, .ref q190, .int 0, .int 0, .int 0, .int 0, .int 0, .int 0, .int 0, .int (-1), .int 0, .int 0, .int 0, .int 0, .int 0, .int 0, .int 0, .ref q192, .ref q194, .ref q196, .ref q198, .ref q200, .ref q202, .ref q204, .ref q206, .null, .null, .null, .null, .int 0, .null, .null, .null, .int 0, .int 0, .int 0, .int 0, .null, .null, .int 0, .null, .null, .int 0, .null, .int 0, .null, .null])), (q178, .inl (d179, 2000, .inl (fun _ => 0))), (q180, .inl (d181, 2000, .inl (fun _ => 0))), (q182, .inl (d183, 403, .inl (fun _ => 0))), (q184, .inl (d185, 403, .inl (fun _ => 0))), (q186, .inl (d187, 403, .inl (fun _ => 0))), (q188, .inl (d189, 403, .inr (.inl (fun _ => 0)))), (q190, .inl (d191, 13, .inr (.inl (fun _ => 0)))), (q192, .inl (d193, 5, .inr (.inl (fun _ => 0)))), (q194, .inl (d195, 2, .inl (fun _ => 0))), (q196, .inl (d197, 320, .inl (fun _ => 0))), (q198, .inl (d199, 2, .inl (fun _ => 0))), (q200, .inl (d201, 10, .inl (fun _ => 0))), (q202, .inl (d203, 160, .inl (fun _ => 0))), (q204, .inl (d205, 2, .inl (fun _ => 0))), (q206, .inl (d207, 2, .inl (fun _ => 0))), (q208, .inl (d209, 2, .inl (fun _ => 0)))]) 136 [(0, .ref h0)] [.ref q208, .ref h0]
  refine g_putF (ws' := [(h0, .inr (12, [.int 0, .ref q178, .int 0, .ref q180, .int 0, .ref q182, .ref q184, .ref q186, .ref q188, .ref q190, .int 0, .int 0, .int 0, .int 0, .int 0, .int 0, .int 0, .int (-1), .int 0, .int 0, .int 0, .int 0, .int 0, .int 0, .int 0, .ref q192, .ref q194, .ref q196, .ref q198, .ref q200, .ref q202, .ref q204, .ref q206, .ref q208, .null, .null, .null, .int 0, .null, .null, .null, .int 0, .int 0, .int 0, .int 0, .null, .null, .int 0, .null, .null, .int 0, .null, .int 0, .null, .null])), (q178, .inl (d179, 2000, .inl (fun _ => 0))), (q180, .inl (d181, 2000, .inl (fun _ => 0))), (q182, .inl (d183, 403, .inl (fun _ => 0))), (q184, .inl (d185, 403, .inl (fun _ => 0))), (q186, .inl (d187, 403, .inl (fun _ => 0))), (q188, .inl (d189, 403, .inr (.inl (fun _ => 0)))), (q190, .inl (d191, 13, .inr (.inl (fun _ => 0)))), (q192, .inl (d193, 5, .inr (.inl (fun _ => 0)))), (q194, .inl (d195, 2, .inl (fun _ => 0))), (q196, .inl (d197, 320, .inl (fun _ => 0))), (q198, .inl (d199, 2, .inl (fun _ => 0))), (q200, .inl (d201, 10, .inl (fun _ => 0))), (q202, .inl (d203, 160, .inl (fun _ => 0))), (q204, .inl (d205, 2, .inl (fun _ => 0))), (q206, .inl (d207, 2, .inl (fun _ => 0))), (q208, .inl (d209, 2, .inl (fun _ => 0)))]) hk (hN rfl) hin12 tyX12 tyX12_ok nmX12 0 rfl rfl 33 (by decide) (by decide +kernel) rfl rfl rfl rfl rfl (by decide) rfl dX12_init_136 ?_
  refine g_aload_n hk dX12_init_139 rfl ?_
  refine g_iconst (v := 2) hk dX12_init_140 (by decide) ?_
  refine g_newa (atype := .int) (ty := .int) (a0 := (2, .inl (fun _ => 0))) hk (by decide +kernel) rfl (fun cA => rfl) (by decide) (by decide) (Nat.le_of_ble_eq_true rfl) (Nat.le_of_ble_eq_true rfl) (Nat.le_of_ble_eq_true rfl) dX12_init_141 (fun q210 d211 hk => ?_)
  have hk : GC κ l D zt cX12_init 1 RX12 wsX12_init [(d179, .byte), (d181, .byte), (d183, .int), (d185, .int), (d187, .int), (d189, .long), (d191, .long), (d193, .long), (d195, .int), (d197, .int), (d199, .int), (d201, .int), (d203, .int), (d205, .int), (d207, .int), (d209, .int), (d211, .int)] ({ frames := 2, cells := 29, slots := 14217, locals := 48 } : Room) := hk
  show GW κ 1 17 6132 ([(h0, .inr (12, [.int 0, .ref q178, .int 0, .ref q180, .int 0, .ref q182, .ref q184, .ref q186, .ref q188, .ref q190, .int 0, .int 0, .int 0, .int 0, .int 0, .int 0, .int 0, .int (-1), .int 0, .int 0, .int 0, .int 0, .int 0, .int 0, .int 0, .ref q192, .ref q194, .ref q196, .ref q198, .ref q200, .ref q202, .ref q204, .ref q206, .ref q208, .null, .null, .null, .int 0, .null, .null, .null, .int 0, .int 0, .int 0, .int 0, .null, .null, .int 0, .null, .null, .int 0, .null, .int 0, .null, .null])), (q178, .inl (d179, 2000, .inl (fun _ => 0))), (q180, .inl (d181, 2000, .inl (fun _ => 0))), (q182, .inl (d183, 403, .inl (fun _ => 0))), (q184, .inl (d185, 403, .inl (fun _ => 0))), (q186, .inl (d187, 403, .inl (fun _ => 0))), (q188, .inl (d189, 403, .inr (.inl (fun _ => 0)))), (q190, .inl (d191, 13, .inr (.inl (fun _ => 0)))), (q192, .inl (d193, 5, .inr (.inl (fun _ => 0)))), (q194, .inl (d195, 2, .inl (fun _ => 0))), (q196, .inl (d197, 320, .inl (fun _ => 0))), (q198, .inl (d199, 2, .inl (fun _ => 0))), (q200, .inl (d201, 10, .inl (fun _ => 0))), (q202, .inl (d203, 160, .inl (fun _ => 0))), (q204, .inl (d205, 2, .inl (fun _ => 0))), (q206, .inl (d207, 2, .inl (fun _ => 0))), (q208, .inl (d209, 2, .inl (fun _ => 0))), (q210, .inl (d211, 2, .inl (fun _ => 0)))]) 143 [(0, .ref h0)] [.ref q210, .ref h0]
  refine g_putF (ws' := [(h0, .inr (12, [.int 0, .ref q178, .int 0, .ref q180, .int 0, .ref q182, .ref q184, .ref q186, .ref q188, .ref q190, .int 0, .int 0, .int 0, .int 0, .int 0, .int 0, .int 0, .int (-1), .int 0, .int 0, .int 0, .int 0, .int 0, .int 0, .int 0, .ref q192, .ref q194, .ref q196, .ref q198, .ref q200, .ref q202, .ref q204, .ref q206, .ref q208, .ref q210, .null, .null, .int 0, .null, .null, .null, .int 0, .int 0, .int 0, .int 0, .null, .null, .int 0, .null, .null, .int 0, .null, .int 0, .null, .null])), (q178, .inl (d179, 2000, .inl (fun _ => 0))), (q180, .inl (d181, 2000, .inl (fun _ => 0))), (q182, .inl (d183, 403, .inl (fun _ => 0))), (q184, .inl (d185, 403, .inl (fun _ => 0))), (q186, .inl (d187, 403, .inl (fun _ => 0))), (q188, .inl (d189, 403, .inr (.inl (fun _ => 0)))), (q190, .inl (d191, 13, .inr (.inl (fun _ => 0)))), (q192, .inl (d193, 5, .inr (.inl (fun _ => 0)))), (q194, .inl (d195, 2, .inl (fun _ => 0))), (q196, .inl (d197, 320, .inl (fun _ => 0))), (q198, .inl (d199, 2, .inl (fun _ => 0))), (q200, .inl (d201, 10, .inl (fun _ => 0))), (q202, .inl (d203, 160, .inl (fun _ => 0))), (q204, .inl (d205, 2, .inl (fun _ => 0))), (q206, .inl (d207, 2, .inl (fun _ => 0))), (q208, .inl (d209, 2, .inl (fun _ => 0))), (q210, .inl (d211, 2, .inl (fun _ => 0)))]) hk (hN rfl) hin12 tyX12 tyX12_ok nmX12 0 rfl rfl 34 (by decide) (by decide +kernel) rfl rfl rfl rfl rfl (by decide) rfl dX12_init_143 ?_
  refine g_aload_n hk dX12_init_146 rfl ?_
  refine g_sipush (v := 165) hk dX12_init_147 (by decide) ?_
  refine g_newa (atype := .int) (ty := .int) (a0 := (165, .inl (fun _ => 0))) hk (by decide +kernel) rfl (fun cA => rfl) (by decide) (by decide) (Nat.le_of_ble_eq_true rfl) (Nat.le_of_ble_eq_true rfl) (Nat.le_of_ble_eq_true rfl) dX12_init_150 (fun q212 d213 hk => ?_)
  have hk : GC κ l D zt cX12_init 1 RX12 wsX12_init [(d179, .byte), (d181, .byte), (d183, .int), (d185, .int), (d187, .int), (d189, .long), (d191, .long), (d193, .long), (d195, .int), (d197, .int), (d199, .int), (d201, .int), (d203, .int), (d205, .int), (d207, .int), (d209, .int), (d211, .int), (d213, .int)] ({ frames := 2, cells := 29, slots := 14217, locals := 48 } : Room) := hk
  show GW κ 1 18 6297 ([(h0, .inr (12, [.int 0, .ref q178, .int 0, .ref q180, .int 0, .ref q182, .ref q184, .ref q186, .ref q188, .ref q190, .int 0, .int 0, .int 0, .int 0, .int 0, .int 0, .int 0, .int (-1), .int 0, .int 0, .int 0, .int 0, .int 0, .int 0, .int 0, .ref q192, .ref q194, .ref q196, .ref q198, .ref q200, .ref q202, .ref q204, .ref q206, .ref q208, .ref q210, .null, .null, .int 0, .null, .null, .null, .int 0, .int 0, .int 0, .int 0, .null, .null, .int 0, .null, .null, .int 0, .null, .int 0, .null, .null])), (q178, .inl (d179, 2000, .inl (fun _ => 0))), (q180, .inl (d181, 2000, .inl (fun _ => 0))), (q182, .inl (d183, 403, .inl (fun _ => 0))), (q184, .inl (d185, 403, .inl (fun _ => 0))), (q186, .inl (d187, 403, .inl (fun _ => 0))), (q188, .inl (d189, 403, .inr (.inl (fun _ => 0)))), (q190, .inl (d191, 13, .inr (.inl (fun _ => 0)))), (q192, .inl (d193, 5, .inr (.inl (fun _ => 0)))), (q194, .inl (d195, 2, .inl (fun _ => 0))), (q196, .inl (d197, 320, .inl (fun _ => 0))), (q198, .inl (d199, 2, .inl (fun _ => 0))), (q200, .inl (d201, 10, .inl (fun _ => 0))), (q202, .inl (d203, 160, .inl (fun _ => 0))), (q204, .inl (d205, 2, .inl (fun _ => 0))), (q206, .inl (d207, 2, .inl (fun _ => 0))), (q208, .inl (d209, 2, .inl (fun _ => 0))), (q210, .inl (d211, 2, .inl (fun _ => 0))), (q212, .inl (d213, 165, .inl (fun _ => 0)))]) 152 [(0, .ref h0)] [.ref q212, .ref h0]
  refine g_putF (ws' := [(h0, .inr (12, [.int 0, .ref q178, .int 0, .ref q180, .int 0, .ref q182, .ref q184, .ref q186, .ref q188, .ref q190, .int 0, .int 0, .int 0, .int 0, .int 0, .int 0, .int 0, .int (-1), .int 0, .int 0, .int 0, .int 0, .int 0, .int 0, .int 0, .ref q192, .ref q194, .ref q196, .ref q198, .ref q200, .ref q202, .ref q204, .ref q206, .ref q208, .ref q210, .ref q212, .null, .int 0, .null, .null, .null, .int 0, .int 0, .int 0, .int 0, .null, .null, .int 0, .null, .null, .int 0, .null, .int 0, .null, .null])), (q178, .inl (d179, 2000, .inl (fun _ => 0))), (q180, .inl (d181, 2000, .inl (fun _ => 0))), (q182, .inl (d183, 403, .inl (fun _ => 0))), (q184, .inl (d185, 403, .inl (fun _ => 0))), (q186, .inl (d187, 403, .inl (fun _ => 0))), (q188, .inl (d189, 403, .inr (.inl (fun _ => 0)))), (q190, .inl (d191, 13, .inr (.inl (fun _ => 0)))), (q192, .inl (d193, 5, .inr (.inl (fun _ => 0)))), (q194, .inl (d195, 2, .inl (fun _ => 0))), (q196, .inl (d197, 320, .inl (fun _ => 0))), (q198, .inl (d199, 2, .inl (fun _ => 0))), (q200, .inl (d201, 10, .inl (fun _ => 0))), (q202, .inl (d203, 160, .inl (fun _ => 0))), (q204, .inl (d205, 2, .inl (fun _ => 0))), (q206, .inl (d207, 2, .inl (fun _ => 0))), (q208, .inl (d209, 2, .inl (fun _ => 0))), (q210, .inl (d211, 2, .inl (fun _ => 0))), (q212, .inl (d213, 165, .inl (fun _ => 0)))]) hk (hN rfl) hin12 tyX12 tyX12_ok nmX12 0 rfl rfl 35 (by decide) (by decide +kernel) rfl rfl rfl rfl rfl (by decide) rfl dX12_init_152 ?_
  refine g_aload_n hk dX12_init_155 rfl ?_
  refine g_sipush (v := 165) hk dX12_init_156 (by decide) ?_
  refine g_newa (atype := .int) (ty := .int) (a0 := (165, .inl (fun _ => 0))) hk (by decide +kernel) rfl (fun cA => rfl) (by decide) (by decide) (Nat.le_of_ble_eq_true rfl) (Nat.le_of_ble_eq_true rfl) (Nat.le_of_ble_eq_true rfl) dX12_init_159 (fun q214 d215 hk => ?_)
  have hk : GC κ l D zt cX12_init 1 RX12 wsX12_init [(d179, .byte), (d181, .byte), (d183, .int), (d185, .int), (d187, .int), (d189, .long), (d191, .long), (d193, .long), (d195, .int), (d197, .int), (d199, .int), (d201, .int), (d203, .int), (d205, .int), (d207, .int), (d209, .int), (d211, .int), (d213, .int), (d215, .int)] ({ frames := 2, cells := 29, slots := 14217, locals := 48 } : Room) := hk
  show GW κ 1 19 6462 ([(h0, .inr (12, [.int 0, .ref q178, .int 0, .ref q180, .int 0, .ref q182, .ref q184, .ref q186, .ref q188, .ref q190, .int 0, .int 0, .int 0, .int 0, .int 0, .int 0, .int 0, .int (-1), .int 0, .int 0, .int 0, .int 0, .int 0, .int 0, .int 0, .ref q192, .ref q194, .ref q196, .ref q198, .ref q200, .ref q202, .ref q204, .ref q206, .ref q208, .ref q210, .ref q212, .null, .int 0, .null, .null, .null, .int 0, .int 0, .int 0, .int 0, .null, .null, .int 0, .null, .null, .int 0, .null, .int 0, .null, .null])), (q178, .inl (d179, 2000, .inl (fun _ => 0))), (q180, .inl (d181, 2000, .inl (fun _ => 0))), (q182, .inl (d183, 403, .inl (fun _ => 0))), (q184, .inl (d185, 403, .inl (fun _ => 0))), (q186, .inl (d187, 403, .inl (fun _ => 0))), (q188, .inl (d189, 403, .inr (.inl (fun _ => 0)))), (q190, .inl (d191, 13, .inr (.inl (fun _ => 0)))), (q192, .inl (d193, 5, .inr (.inl (fun _ => 0)))), (q194, .inl (d195, 2, .inl (fun _ => 0))), (q196, .inl (d197, 320, .inl (fun _ => 0))), (q198, .inl (d199, 2, .inl (fun _ => 0))), (q200, .inl (d201, 10, .inl (fun _ => 0))), (q202, .inl (d203, 160, .inl (fun _ => 0))), (q204, .inl (d205, 2, .inl (fun _ => 0))), (q206, .inl (d207, 2, .inl (fun _ => 0))), (q208, .inl (d209, 2, .inl (fun _ => 0))), (q210, .inl (d211, 2, .inl (fun _ => 0))), (q212, .inl (d213, 165, .inl (fun _ => 0))), (q214, .inl (d215, 165, .inl (fun _ => 0)))]) 161 [(0, .ref h0)] [.ref q214, .ref h0]
  refine g_putF (ws' := [(h0, .inr (12, [.int 0, .ref q178, .int 0, .ref q180, .int 0, .ref q182, .ref q184, .ref q186, .ref q188, .ref q190, .int 0, .int 0, .int 0, .int 0, .int 0, .int 0, .int 0, .int (-1), .int 0, .int 0, .int 0, .int 0, .int 0, .int 0, .int 0, .ref q192, .ref q194, .ref q196, .ref q198, .ref q200, .ref q202, .ref q204, .ref q206, .ref q208, .ref q210, .ref q212, .ref q214, .int 0, .null, .null, .null, .int 0, .int 0, .int 0, .int 0, .null, .null, .int 0, .null, .null, .int 0, .null, .int 0, .null, .null])), (q178, .inl (d179, 2000, .inl (fun _ => 0))), (q180, .inl (d181, 2000, .inl (fun _ => 0))), (q182, .inl (d183, 403, .inl (fun _ => 0))), (q184, .inl (d185, 403, .inl (fun _ => 0))), (q186, .inl (d187, 403, .inl (fun _ => 0))), (q188, .inl (d189, 403, .inr (.inl (fun _ => 0)))), (q190, .inl (d191, 13, .inr (.inl (fun _ => 0)))), (q192, .inl (d193, 5, .inr (.inl (fun _ => 0)))), (q194, .inl (d195, 2, .inl (fun _ => 0))), (q196, .inl (d197, 320, .inl (fun _ => 0))), (q198, .inl (d199, 2, .inl (fun _ => 0))), (q200, .inl (d201, 10, .inl (fun _ => 0))), (q202, .inl (d203, 160, .inl (fun _ => 0))), (q204, .inl (d205, 2, .inl (fun _ => 0))), (q206, .inl (d207, 2, .inl (fun _ => 0))), (q208, .inl (d209, 2, .inl (fun _ => 0))), (q210, .inl (d211, 2, .inl (fun _ => 0))), (q212, .inl (d213, 165, .inl (fun _ => 0))), (q214, .inl (d215, 165, .inl (fun _ => 0)))]) hk (hN rfl) hin12 tyX12 tyX12_ok nmX12 0 rfl rfl 36 (by decide) (by decide +kernel) rfl rfl rfl rfl rfl (by decide) rfl dX12_init_161 ?_
  refine g_aload_n hk dX12_init_164 rfl ?_
  refine g_bipush (v := 16) hk dX12_init_165 (by decide) ?_
  refine g_newa (atype := .int) (ty := .int) (a0 := (16, .inl (fun _ => 0))) hk (by decide +kernel) rfl (fun cA => rfl) (by decide) (by decide) (Nat.le_of_ble_eq_true rfl) (Nat.le_of_ble_eq_true rfl) (Nat.le_of_ble_eq_true rfl) dX12_init_167 (fun q216 d217 hk => ?_)
  have hk : GC κ l D zt cX12_init 1 RX12 wsX12_init [(d179, .byte), (d181, .byte), (d183, .int), (d185, .int), (d187, .int), (d189, .long), (d191, .long), (d193, .long), (d195, .int), (d197, .int), (d199, .int), (d201, .int), (d203, .int), (d205, .int), (d207, .int), (d209, .int), (d211, .int), (d213, .int), (d215, .int), (d217, .int)] ({ frames := 2, cells := 29, slots := 14217, locals := 48 } : Room) := hk
  show GW κ 1 20 6478 ([(h0, .inr (12, [.int 0, .ref q178, .int 0, .ref q180, .int 0, .ref q182, .ref q184, .ref q186, .ref q188, .ref q190, .int 0, .int 0, .int 0, .int 0, .int 0, .int 0, .int 0, .int (-1), .int 0, .int 0, .int 0, .int 0, .int 0, .int 0, .int 0, .ref q192, .ref q194, .ref q196, .ref q198, .ref q200, .ref q202, .ref q204, .ref q206, .ref q208, .ref q210, .ref q212, .ref q214, .int 0, .null, .null, .null, .int 0, .int 0, .int 0, .int 0, .null, .null, .int 0, .null, .null, .int 0, .null, .int 0, .null, .null])), (q178, .inl (d179, 2000, .inl (fun _ => 0))), (q180, .inl (d181, 2000, .inl (fun _ => 0))), (q182, .inl (d183, 403, .inl (fun _ => 0))), (q184, .inl (d185, 403, .inl (fun _ => 0))), (q186, .inl (d187, 403, .inl (fun _ => 0))), (q188, .inl (d189, 403, .inr (.inl (fun _ => 0)))), (q190, .inl (d191, 13, .inr (.inl (fun _ => 0)))), (q192, .inl (d193, 5, .inr (.inl (fun _ => 0)))), (q194, .inl (d195, 2, .inl (fun _ => 0))), (q196, .inl (d197, 320, .inl (fun _ => 0))), (q198, .inl (d199, 2, .inl (fun _ => 0))), (q200, .inl (d201, 10, .inl (fun _ => 0))), (q202, .inl (d203, 160, .inl (fun _ => 0))), (q204, .inl (d205, 2, .inl (fun _ => 0))), (q206, .inl (d207, 2, .inl (fun _ => 0))), (q208, .inl (d209, 2, .inl (fun _ => 0))), (q210, .inl (d211, 2, .inl (fun _ => 0))), (q212, .inl (d213, 165, .inl (fun _ => 0))), (q214, .inl (d215, 165, .inl (fun _ => 0))), (q216, .inl (d217, 16, .inl (fun _ => 0)))]) 169 [(0, .ref h0)] [.ref q216, .ref h0]
  refine g_putF (ws' := [(h0, .inr (12, [.int 0, .ref q178, .int 0, .ref q180, .int 0, .ref q182, .ref q184, .ref q186, .ref q188, .ref q190, .int 0, .int 0, .int 0, .int 0, .int 0, .int 0, .int 0, .int (-1), .int 0, .int 0, .int 0, .int 0, .int 0, .int 0, .int 0, .ref q192, .ref q194, .ref q196, .ref q198, .ref q200, .ref q202, .ref q204, .ref q206, .ref q208, .ref q210, .ref q212, .ref q214, .int 0, .ref q216, .null, .null, .int 0, .int 0, .int 0, .int 0, .null, .null, .int 0, .null, .null, .int 0, .null, .int 0, .null, .null])), (q178, .inl (d179, 2000, .inl (fun _ => 0))), (q180, .inl (d181, 2000, .inl (fun _ => 0))), (q182, .inl (d183, 403, .inl (fun _ => 0))), (q184, .inl (d185, 403, .inl (fun _ => 0))), (q186, .inl (d187, 403, .inl (fun _ => 0))), (q188, .inl (d189, 403, .inr (.inl (fun _ => 0)))), (q190, .inl (d191, 13, .inr (.inl (fun _ => 0)))), (q192, .inl (d193, 5, .inr (.inl (fun _ => 0)))), (q194, .inl (d195, 2, .inl (fun _ => 0))), (q196, .inl (d197, 320, .inl (fun _ => 0))), (q198, .inl (d199, 2, .inl (fun _ => 0))), (q200, .inl (d201, 10, .inl (fun _ => 0))), (q202, .inl (d203, 160, .inl (fun _ => 0))), (q204, .inl (d205, 2, .inl (fun _ => 0))), (q206, .inl (d207, 2, .inl (fun _ => 0))), (q208, .inl (d209, 2, .inl (fun _ => 0))), (q210, .inl (d211, 2, .inl (fun _ => 0))), (q212, .inl (d213, 165, .inl (fun _ => 0))), (q214, .inl (d215, 165, .inl (fun _ => 0))), (q216, .inl (d217, 16, .inl (fun _ => 0)))]) hk (hN rfl) hin12 tyX12 tyX12_ok nmX12 0 rfl rfl 38 (by decide) (by decide +kernel) rfl rfl rfl rfl rfl (by decide) rfl dX12_init_169 ?_
  refine g_aload_n hk dX12_init_172 rfl ?_
  refine g_bipush (v := 16) hk dX12_init_173 (by decide) ?_
  refine g_newa (atype := .int) (ty := .int) (a0 := (16, .inl (fun _ => 0))) hk (by decide +kernel) rfl (fun cA => rfl) (by decide) (by decide) (Nat.le_of_ble_eq_true rfl) (Nat.le_of_ble_eq_true rfl) (Nat.le_of_ble_eq_true rfl) dX12_init_175 (fun q218 d219 hk => ?_)
  have hk : GC κ l D zt cX12_init 1 RX12 wsX12_init [(d179, .byte), (d181, .byte), (d183, .int), (d185, .int), (d187, .int), (d189, .long), (d191, .long), (d193, .long), (d195, .int), (d197, .int), (d199, .int), (d201, .int), (d203, .int), (d205, .int), (d207, .int), (d209, .int), (d211, .int), (d213, .int), (d215, .int), (d217, .int), (d219, .int)] ({ frames := 2, cells := 29, slots := 14217, locals := 48 } : Room) := hk
  show GW κ 1 21 6494 ([(h0, .inr (12, [.int 0, .ref q178, .int 0, .ref q180, .int 0, .ref q182, .ref q184, .ref q186, .ref q188, .ref q190, .int 0, .int 0, .int 0, .int 0, .int 0, .int 0, .int 0, .int (-1), .int 0, .int 0, .int 0, .int 0, .int 0, .int 0, .int 0, .ref q192, .ref q194, .ref q196, .ref q198, .ref q200, .ref q202, .ref q204, .ref q206, .ref q208, .ref q210, .ref q212, .ref q214, .int 0, .ref q216, .null, .null, .int 0, .int 0, .int 0, .int 0, .null, .null, .int 0, .null, .null, .int 0, .null, .int 0, .null, .null])), (q178, .inl (d179, 2000, .inl (fun _ => 0))), (q180, .inl (d181, 2000, .inl (fun _ => 0))), (q182, .inl (d183, 403, .inl (fun _ => 0))), (q184, .inl (d185, 403, .inl (fun _ => 0))), (q186, .inl (d187, 403, .inl (fun _ => 0))), (q188, .inl (d189, 403, .inr (.inl (fun _ => 0)))), (q190, .inl (d191, 13, .inr (.inl (fun _ => 0)))), (q192, .inl (d193, 5, .inr (.inl (fun _ => 0)))), (q194, .inl (d195, 2, .inl (fun _ => 0))), (q196, .inl (d197, 320, .inl (fun _ => 0))), (q198, .inl (d199, 2, .inl (fun _ => 0))), (q200, .inl (d201, 10, .inl (fun _ => 0))), (q202, .inl (d203, 160, .inl (fun _ => 0))), (q204, .inl (d205, 2, .inl (fun _ => 0))), (q206, .inl (d207, 2, .inl (fun _ => 0))), (q208, .inl (d209, 2, .inl (fun _ => 0))), (q210, .inl (d211, 2, .inl (fun _ => 0))), (q212, .inl (d213, 165, .inl (fun _ => 0))), (q214, .inl (d215, 165, .inl (fun _ => 0))), (q216, .inl (d217, 16, .inl (fun _ => 0))), (q218, .inl (d219, 16, .inl (fun _ => 0)))]) 177 [(0, .ref h0)] [.ref q218, .ref h0]
  refine g_putF (ws' := [(h0, .inr (12, [.int 0, .ref q178, .int 0, .ref q180, .int 0, .ref q182, .ref q184, .ref q186, .ref q188, .ref q190, .int 0, .int 0, .int 0, .int 0, .int 0, .int 0, .int 0, .int (-1), .int 0, .int 0, .int 0, .int 0, .int 0, .int 0, .int 0, .ref q192, .ref q194, .ref q196, .ref q198, .ref q200, .ref q202, .ref q204, .ref q206, .ref q208, .ref q210, .ref q212, .ref q214, .int 0, .ref q216, .ref q218, .null, .int 0, .int 0, .int 0, .int 0, .null, .null, .int 0, .null, .null, .int 0, .null, .int 0, .null, .null])), (q178, .inl (d179, 2000, .inl (fun _ => 0))), (q180, .inl (d181, 2000, .inl (fun _ => 0))), (q182, .inl (d183, 403, .inl (fun _ => 0))), (q184, .inl (d185, 403, .inl (fun _ => 0))), (q186, .inl (d187, 403, .inl (fun _ => 0))), (q188, .inl (d189, 403, .inr (.inl (fun _ => 0)))), (q190, .inl (d191, 13, .inr (.inl (fun _ => 0)))), (q192, .inl (d193, 5, .inr (.inl (fun _ => 0)))), (q194, .inl (d195, 2, .inl (fun _ => 0))), (q196, .inl (d197, 320, .inl (fun _ => 0))), (q198, .inl (d199, 2, .inl (fun _ => 0))), (q200, .inl (d201, 10, .inl (fun _ => 0))), (q202, .inl (d203, 160, .inl (fun _ => 0))), (q204, .inl (d205, 2, .inl (fun _ => 0))), (q206, .inl (d207, 2, .inl (fun _ => 0))), (q208, .inl (d209, 2, .inl (fun _ => 0))), (q210, .inl (d211, 2, .inl (fun _ => 0))), (q212, .inl (d213, 165, .inl (fun _ => 0))), (q214, .inl (d215, 165, .inl (fun _ => 0))), (q216, .inl (d217, 16, .inl (fun _ => 0))), (q218, .inl (d219, 16, .inl (fun _ => 0)))]) hk (hN rfl) hin12 tyX12 tyX12_ok nmX12 0 rfl rfl 39 (by decide) (by decide +kernel) rfl rfl rfl rfl rfl (by decide) rfl dX12_init_177 ?_
  refine g_aload_n hk dX12_init_180 rfl ?_
  refine g_sipush (v := 256) hk dX12_init_181 (by decide) ?_
  refine g_newa (atype := .int) (ty := .int) (a0 := (256, .inl (fun _ => 0))) hk (by decide +kernel) rfl (fun cA => rfl) (by decide) (by decide) (Nat.le_of_ble_eq_true rfl) (Nat.le_of_ble_eq_true rfl) (Nat.le_of_ble_eq_true rfl) dX12_init_184 (fun q220 d221 hk => ?_)
  have hk : GC κ l D zt cX12_init 1 RX12 wsX12_init [(d179, .byte), (d181, .byte), (d183, .int), (d185, .int), (d187, .int), (d189, .long), (d191, .long), (d193, .long), (d195, .int), (d197, .int), (d199, .int), (d201, .int), (d203, .int), (d205, .int), (d207, .int), (d209, .int), (d211, .int), (d213, .int), (d215, .int), (d217, .int), (d219, .int), (d221, .int)] ({ frames := 2, cells := 29, slots := 14217, locals := 48 } : Room) := hk
  show GW κ 1 22 6750 ([(h0, .inr (12, [.int 0, .ref q178, .int 0, .ref q180, .int 0, .ref q182, .ref q184, .ref q186, .ref q188, .ref q190, .int 0, .int 0, .int 0, .int 0, .int 0, .int 0, .int 0, .int (-1), .int 0, .int 0, .int 0, .int 0, .int 0, .int 0, .int 0, .ref q192, .ref q194, .ref q196, .ref q198, .ref q200, .ref q202, .ref q204, .ref q206, .ref q208, .ref q210, .ref q212, .ref q214, .int 0, .ref q216, .ref q218, .null, .int 0, .int 0, .int 0, .int 0, .null, .null, .int 0, .null, .null, .int 0, .null, .int 0, .null, .null])), (q178, .inl (d179, 2000, .inl (fun _ => 0))), (q180, .inl (d181, 2000, .inl (fun _ => 0))), (q182, .inl (d183, 403, .inl (fun _ => 0))), (q184, .inl (d185, 403, .inl (fun _ => 0))), (q186, .inl (d187, 403, .inl (fun _ => 0))), (q188, .inl (d189, 403, .inr (.inl (fun _ => 0)))), (q190, .inl (d191, 13, .inr (.inl (fun _ => 0)))), (q192, .inl (d193, 5, .inr (.inl (fun _ => 0)))), (q194, .inl (d195, 2, .inl (fun _ => 0))), (q196, .inl (d197, 320, .inl (fun _ => 0))), (q198, .inl (d199, 2, .inl (fun _ => 0))), (q200, .inl (d201, 10, .inl (fun _ => 0))), (q202, .inl (d203, 160, .inl (fun _ => 0))), (q204, .inl (d205, 2, .inl (fun _ => 0))), (q206, .inl (d207, 2, .inl (fun _ => 0))), (q208, .inl (d209, 2, .inl (fun _ => 0))), (q210, .inl (d211, 2, .inl (fun _ => 0))), (q212, .inl (d213, 165, .inl (fun _ => 0))), (q214, .inl (d215, 165, .inl (fun _ => 0))), (q216, .inl (d217, 16, .inl (fun _ => 0))), (q218, .inl (d219, 16, .inl (fun _ => 0))), (q220, .inl (d221, 256, .inl (fun _ => 0)))]) 186 [(0, .ref h0)] [.ref q220, .ref h0]
  refine g_putF (ws' := [(h0, .inr (12, [.int 0, .ref q178, .int 0, .ref q180, .int 0, .ref q182, .ref q184, .ref q186, .ref q188, .ref q190, .int 0, .int 0, .int 0, .int 0, .int 0, .int 0, .int 0, .int (-1), .int 0, .int 0, .int 0, .int 0, .int 0, .int 0, .int 0, .ref q192, .ref q194, .ref q196, .ref q198, .ref q200, .ref q202, .ref q204, .ref q206, .ref q208, .ref q210, .ref q212, .ref q214, .int 0, .ref q216, .ref q218, .ref q220, .int 0, .int 0, .int 0, .int 0, .null, .null, .int 0, .null, .null, .int 0, .null, .int 0, .null, .null])), (q178, .inl (d179, 2000, .inl (fun _ => 0))), (q180, .inl (d181, 2000, .inl (fun _ => 0))), (q182, .inl (d183, 403, .inl (fun _ => 0))), (q184, .inl (d185, 403, .inl (fun _ => 0))), (q186, .inl (d187, 403, .inl (fun _ => 0))), (q188, .inl (d189, 403, .inr (.inl (fun _ => 0)))), (q190, .inl (d191, 13, .inr (.inl (fun _ => 0)))), (q192, .inl (d193, 5, .inr (.inl (fun _ => 0)))), (q194, .inl (d195, 2, .inl (fun _ => 0))), (q196, .inl (d197, 320, .inl (fun _ => 0))), (q198, .inl (d199, 2, .inl (fun _ => 0))), (q200, .inl (d201, 10, .inl (fun _ => 0))), (q202, .inl (d203, 160, .inl (fun _ => 0))), (q204, .inl (d205, 2, .inl (fun _ => 0))), (q206, .inl (d207, 2, .inl (fun _ => 0))), (q208, .inl (d209, 2, .inl (fun _ => 0))), (q210, .inl (d211, 2, .inl (fun _ => 0))), (q212, .inl (d213, 165, .inl (fun _ => 0))), (q214, .inl (d215, 165, .inl (fun _ => 0))), (q216, .inl (d217, 16, .inl (fun _ => 0))), (q218, .inl (d219, 16, .inl (fun _ => 0))), (q220, .inl (d221, 256, .inl (fun _ => 0)))]) hk (hN rfl) hin12 tyX12 tyX12_ok nmX12 0 rfl rfl 40 (by decide) (by decide +kernel) rfl rfl rfl rfl rfl (by decide) rfl dX12_init_186 ?_
  refine g_aload_n hk dX12_init_189 rfl ?_
  refine g_sipush (v := 6600) hk dX12_init_190 (by decide) ?_
  refine g_newa (atype := .int) (ty := .int) (a0 := (6600, .inl (fun _ => 0))) hk (by decide +kernel) rfl (fun cA => rfl) (by decide) (by decide) (Nat.le_of_ble_eq_true rfl) (Nat.le_of_ble_eq_true rfl) (Nat.le_of_ble_eq_true rfl) dX12_init_193 (fun q222 d223 hk => ?_)
  have hk : GC κ l D zt cX12_init 1 RX12 wsX12_init [(d179, .byte), (d181, .byte), (d183, .int), (d185, .int), (d187, .int), (d189, .long), (d191, .long), (d193, .long), (d195, .int), (d197, .int), (d199, .int), (d201, .int), (d203, .int), (d205, .int), (d207, .int), (d209, .int), (d211, .int), (d213, .int), (d215, .int), (d217, .int), (d219, .int), (d221, .int), (d223, .int)] ({ frames := 2, cells := 29, slots := 14217, locals := 48 } : Room) := hk
  show GW κ 1 23 13350 ([(h0, .inr (12, [.int 0, .ref q178, .int 0, .ref q180, .int 0, .ref q182, .ref q184, .ref q186, .ref q188, .ref q190, .int 0, .int 0, .int 0, .int 0, .int 0, .int 0, .int 0, .int (-1), .int 0, .int 0, .int 0, .int 0, .int 0, .int 0, .int 0, .ref q192, .ref q194, .ref q196, .ref q198, .ref q200, .ref q202, .ref q204, .ref q206, .ref q208, .ref q210, .ref q212, .ref q214, .int 0, .ref q216, .ref q218, .ref q220, .int 0, .int 0, .int 0, .int 0, .null, .null, .int 0, .null, .null, .int 0, .null, .int 0, .null, .null])), (q178, .inl (d179, 2000, .inl (fun _ => 0))), (q180, .inl (d181, 2000, .inl (fun _ => 0))), (q182, .inl (d183, 403, .inl (fun _ => 0))), (q184, .inl (d185, 403, .inl (fun _ => 0))), (q186, .inl (d187, 403, .inl (fun _ => 0))), (q188, .inl (d189, 403, .inr (.inl (fun _ => 0)))), (q190, .inl (d191, 13, .inr (.inl (fun _ => 0)))), (q192, .inl (d193, 5, .inr (.inl (fun _ => 0)))), (q194, .inl (d195, 2, .inl (fun _ => 0))), (q196, .inl (d197, 320, .inl (fun _ => 0))), (q198, .inl (d199, 2, .inl (fun _ => 0))), (q200, .inl (d201, 10, .inl (fun _ => 0))), (q202, .inl (d203, 160, .inl (fun _ => 0))), (q204, .inl (d205, 2, .inl (fun _ => 0))), (q206, .inl (d207, 2, .inl (fun _ => 0))), (q208, .inl (d209, 2, .inl (fun _ => 0))), (q210, .inl (d211, 2, .inl (fun _ => 0))), (q212, .inl (d213, 165, .inl (fun _ => 0))), (q214, .inl (d215, 165, .inl (fun _ => 0))), (q216, .inl (d217, 16, .inl (fun _ => 0))), (q218, .inl (d219, 16, .inl (fun _ => 0))), (q220, .inl (d221, 256, .inl (fun _ => 0))), (q222, .inl (d223, 6600, .inl (fun _ => 0)))]) 195 [(0, .ref h0)] [.ref q222, .ref h0]
  refine g_putF (ws' := [(h0, .inr (12, [.int 0, .ref q178, .int 0, .ref q180, .int 0, .ref q182, .ref q184, .ref q186, .ref q188, .ref q190, .int 0, .int 0, .int 0, .int 0, .int 0, .int 0, .int 0, .int (-1), .int 0, .int 0, .int 0, .int 0, .int 0, .int 0, .int 0, .ref q192, .ref q194, .ref q196, .ref q198, .ref q200, .ref q202, .ref q204, .ref q206, .ref q208, .ref q210, .ref q212, .ref q214, .int 0, .ref q216, .ref q218, .ref q220, .int 0, .int 0, .int 0, .int 0, .ref q222, .null, .int 0, .null, .null, .int 0, .null, .int 0, .null, .null])), (q178, .inl (d179, 2000, .inl (fun _ => 0))), (q180, .inl (d181, 2000, .inl (fun _ => 0))), (q182, .inl (d183, 403, .inl (fun _ => 0))), (q184, .inl (d185, 403, .inl (fun _ => 0))), (q186, .inl (d187, 403, .inl (fun _ => 0))), (q188, .inl (d189, 403, .inr (.inl (fun _ => 0)))), (q190, .inl (d191, 13, .inr (.inl (fun _ => 0)))), (q192, .inl (d193, 5, .inr (.inl (fun _ => 0)))), (q194, .inl (d195, 2, .inl (fun _ => 0))), (q196, .inl (d197, 320, .inl (fun _ => 0))), (q198, .inl (d199, 2, .inl (fun _ => 0))), (q200, .inl (d201, 10, .inl (fun _ => 0))), (q202, .inl (d203, 160, .inl (fun _ => 0))), (q204, .inl (d205, 2, .inl (fun _ => 0))), (q206, .inl (d207, 2, .inl (fun _ => 0))), (q208, .inl (d209, 2, .inl (fun _ => 0))), (q210, .inl (d211, 2, .inl (fun _ => 0))), (q212, .inl (d213, 165, .inl (fun _ => 0))), (q214, .inl (d215, 165, .inl (fun _ => 0))), (q216, .inl (d217, 16, .inl (fun _ => 0))), (q218, .inl (d219, 16, .inl (fun _ => 0))), (q220, .inl (d221, 256, .inl (fun _ => 0))), (q222, .inl (d223, 6600, .inl (fun _ => 0)))]) hk (hN rfl) hin12 tyX12 tyX12_ok nmX12 0 rfl rfl 45 (by decide) (by decide +kernel) rfl rfl rfl rfl rfl (by decide) rfl dX12_init_195 ?_
  refine g_aload_n hk dX12_init_198 rfl ?_
  refine g_bipush (v := 40) hk dX12_init_199 (by decide) ?_
  refine g_newa (atype := .int) (ty := .int) (a0 := (40, .inl (fun _ => 0))) hk (by decide +kernel) rfl (fun cA => rfl) (by decide) (by decide) (Nat.le_of_ble_eq_true rfl) (Nat.le_of_ble_eq_true rfl) (Nat.le_of_ble_eq_true rfl) dX12_init_201 (fun q224 d225 hk => ?_)
  have hk : GC κ l D zt cX12_init 1 RX12 wsX12_init [(d179, .byte), (d181, .byte), (d183, .int), (d185, .int), (d187, .int), (d189, .long), (d191, .long), (d193, .long), (d195, .int), (d197, .int), (d199, .int), (d201, .int), (d203, .int), (d205, .int), (d207, .int), (d209, .int), (d211, .int), (d213, .int), (d215, .int), (d217, .int), (d219, .int), (d221, .int), (d223, .int), (d225, .int)] ({ frames := 2, cells := 29, slots := 14217, locals := 48 } : Room) := hk
  show GW κ 1 24 13390 ([(h0, .inr (12, [.int 0, .ref q178, .int 0, .ref q180, .int 0, .ref q182, .ref q184, .ref q186, .ref q188, .ref q190, .int 0, .int 0, .int 0, .int 0, .int 0, .int 0, .int 0, .int (-1), .int 0, .int 0, .int 0, .int 0, .int 0, .int 0, .int 0, .ref q192, .ref q194, .ref q196, .ref q198, .ref q200, .ref q202, .ref q204, .ref q206, .ref q208, .ref q210, .ref q212, .ref q214, .int 0, .ref q216, .ref q218, .ref q220, .int 0, .int 0, .int 0, .int 0, .ref q222, .null, .int 0, .null, .null, .int 0, .null, .int 0, .null, .null])), (q178, .inl (d179, 2000, .inl (fun _ => 0))), (q180, .inl (d181, 2000, .inl (fun _ => 0))), (q182, .inl (d183, 403, .inl (fun _ => 0))), (q184, .inl (d185, 403, .inl (fun _ => 0))), (q186, .inl (d187, 403, .inl (fun _ => 0))), (q188, .inl (d189, 403, .inr (.inl (fun _ => 0)))), (q190, .inl (d191, 13, .inr (.inl (fun _ => 0)))), (q192, .inl (d193, 5, .inr (.inl (fun _ => 0)))), (q194, .inl (d195, 2, .inl (fun _ => 0))), (q196, .inl (d197, 320, .inl (fun _ => 0))), (q198, .inl (d199, 2, .inl (fun _ => 0))), (q200, .inl (d201, 10, .inl (fun _ => 0))), (q202, .inl (d203, 160, .inl (fun _ => 0))), (q204, .inl (d205, 2, .inl (fun _ => 0))), (q206, .inl (d207, 2, .inl (fun _ => 0))), (q208, .inl (d209, 2, .inl (fun _ => 0))), (q210, .inl (d211, 2, .inl (fun _ => 0))), (q212, .inl (d213, 165, .inl (fun _ => 0))), (q214, .inl (d215, 165, .inl (fun _ => 0))), (q216, .inl (d217, 16, .inl (fun _ => 0))), (q218, .inl (d219, 16, .inl (fun _ => 0))), (q220, .inl (d221, 256, .inl (fun _ => 0))), (q222, .inl (d223, 6600, .inl (fun _ => 0))), (q224, .inl (d225, 40, .inl (fun _ => 0)))]) 203 [(0, .ref h0)] [.ref q224, .ref h0]
  refine g_putF (ws' := [(h0, .inr (12, [.int 0, .ref q178, .int 0, .ref q180, .int 0, .ref q182, .ref q184, .ref q186, .ref q188, .ref q190, .int 0, .int 0, .int 0, .int 0, .int 0, .int 0, .int 0, .int (-1), .int 0, .int 0, .int 0, .int 0, .int 0, .int 0, .int 0, .ref q192, .ref q194, .ref q196, .ref q198, .ref q200, .ref q202, .ref q204, .ref q206, .ref q208, .ref q210, .ref q212, .ref q214, .int 0, .ref q216, .ref q218, .ref q220, .int 0, .int 0, .int 0, .int 0, .ref q222, .ref q224, .int 0, .null, .null, .int 0, .null, .int 0, .null, .null])), (q178, .inl (d179, 2000, .inl (fun _ => 0))), (q180, .inl (d181, 2000, .inl (fun _ => 0))), (q182, .inl (d183, 403, .inl (fun _ => 0))), (q184, .inl (d185, 403, .inl (fun _ => 0))), (q186, .inl (d187, 403, .inl (fun _ => 0))), (q188, .inl (d189, 403, .inr (.inl (fun _ => 0)))), (q190, .inl (d191, 13, .inr (.inl (fun _ => 0)))), (q192, .inl (d193, 5, .inr (.inl (fun _ => 0)))), (q194, .inl (d195, 2, .inl (fun _ => 0))), (q196, .inl (d197, 320, .inl (fun _ => 0))), (q198, .inl (d199, 2, .inl (fun _ => 0))), (q200, .inl (d201, 10, .inl (fun _ => 0))), (q202, .inl (d203, 160, .inl (fun _ => 0))), (q204, .inl (d205, 2, .inl (fun _ => 0))), (q206, .inl (d207, 2, .inl (fun _ => 0))), (q208, .inl (d209, 2, .inl (fun _ => 0))), (q210, .inl (d211, 2, .inl (fun _ => 0))), (q212, .inl (d213, 165, .inl (fun _ => 0))), (q214, .inl (d215, 165, .inl (fun _ => 0))), (q216, .inl (d217, 16, .inl (fun _ => 0))), (q218, .inl (d219, 16, .inl (fun _ => 0))), (q220, .inl (d221, 256, .inl (fun _ => 0))), (q222, .inl (d223, 6600, .inl (fun _ => 0))), (q224, .inl (d225, 40, .inl (fun _ => 0)))]) hk (hN rfl) hin12 tyX12 tyX12_ok nmX12 0 rfl rfl 46 (by decide) (by decide +kernel) rfl rfl rfl rfl rfl (by decide) rfl dX12_init_203 ?_
  refine g_aload_n hk dX12_init_206 rfl ?_
  refine g_sipush (v := 160) hk dX12_init_207 (by decide) ?_
  refine g_newa (atype := .int) (ty := .int) (a0 := (160, .inl (fun _ => 0))) hk (by decide +kernel) rfl (fun cA => rfl) (by decide) (by decide) (Nat.le_of_ble_eq_true rfl) (Nat.le_of_ble_eq_true rfl) (Nat.le_of_ble_eq_true rfl) dX12_init_210 (fun q226 d227 hk => ?_)
  have hk : GC κ l D zt cX12_init 1 RX12 wsX12_init [(d179, .byte), (d181, .byte), (d183, .int), (d185, .int), (d187, .int), (d189, .long), (d191, .long), (d193, .long), (d195, .int), (d197, .int), (d199, .int), (d201, .int), (d203, .int), (d205, .int), (d207, .int), (d209, .int), (d211, .int), (d213, .int), (d215, .int), (d217, .int), (d219, .int), (d221, .int), (d223, .int), (d225, .int), (d227, .int)] ({ frames := 2, cells := 29, slots := 14217, locals := 48 } : Room) := hk
  show GW κ 1 25 13550 ([(h0, .inr (12, [.int 0, .ref q178, .int 0, .ref q180, .int 0, .ref q182, .ref q184, .ref q186, .ref q188, .ref q190, .int 0, .int 0, .int 0, .int 0, .int 0, .int 0, .int 0, .int (-1), .int 0, .int 0, .int 0, .int 0, .int 0, .int 0, .int 0, .ref q192, .ref q194, .ref q196, .ref q198, .ref q200, .ref q202, .ref q204, .ref q206, .ref q208, .ref q210, .ref q212, .ref q214, .int 0, .ref q216, .ref q218, .ref q220, .int 0, .int 0, .int 0, .int 0, .ref q222, .ref q224, .int 0, .null, .null, .int 0, .null, .int 0, .null, .null])), (q178, .inl (d179, 2000, .inl (fun _ => 0))), (q180, .inl (d181, 2000, .inl (fun _ => 0))), (q182, .inl (d183, 403, .inl (fun _ => 0))), (q184, .inl (d185, 403, .inl (fun _ => 0))), (q186, .inl (d187, 403, .inl (fun _ => 0))), (q188, .inl (d189, 403, .inr (.inl (fun _ => 0)))), (q190, .inl (d191, 13, .inr (.inl (fun _ => 0)))), (q192, .inl (d193, 5, .inr (.inl (fun _ => 0)))), (q194, .inl (d195, 2, .inl (fun _ => 0))), (q196, .inl (d197, 320, .inl (fun _ => 0))), (q198, .inl (d199, 2, .inl (fun _ => 0))), (q200, .inl (d201, 10, .inl (fun _ => 0))), (q202, .inl (d203, 160, .inl (fun _ => 0))), (q204, .inl (d205, 2, .inl (fun _ => 0))), (q206, .inl (d207, 2, .inl (fun _ => 0))), (q208, .inl (d209, 2, .inl (fun _ => 0))), (q210, .inl (d211, 2, .inl (fun _ => 0))), (q212, .inl (d213, 165, .inl (fun _ => 0))), (q214, .inl (d215, 165, .inl (fun _ => 0))), (q216, .inl (d217, 16, .inl (fun _ => 0))), (q218, .inl (d219, 16, .inl (fun _ => 0))), (q220, .inl (d221, 256, .inl (fun _ => 0))), (q222, .inl (d223, 6600, .inl (fun _ => 0))), (q224, .inl (d225, 40, .inl (fun _ => 0))), (q226, .inl (d227, 160, .inl (fun _ => 0)))]) 212 [(0, .ref h0)] [.ref q226, .ref h0]
  refine g_putF (ws' := [(h0, .inr (12, [.int 0, .ref q178, .int 0, .ref q180, .int 0, .ref q182, .ref q184, .ref q186, .ref q188, .ref q190, .int 0, .int 0, .int 0, .int 0, .int 0, .int 0, .int 0, .int (-1), .int 0, .int 0, .int 0, .int 0, .int 0, .int 0, .int 0, .ref q192, .ref q194, .ref q196, .ref q198, .ref q200, .ref q202, .ref q204, .ref q206, .ref q208, .ref q210, .ref q212, .ref q214, .int 0, .ref q216, .ref q218, .ref q220, .int 0, .int 0, .int 0, .int 0, .ref q222, .ref q224, .int 0, .ref q226, .null, .int 0, .null, .int 0, .null, .null])), (q178, .inl (d179, 2000, .inl (fun _ => 0))), (q180, .inl (d181, 2000, .inl (fun _ => 0))), (q182, .inl (d183, 403, .inl (fun _ => 0))), (q184, .inl (d185, 403, .inl (fun _ => 0))), (q186, .inl (d187, 403, .inl (fun _ => 0))), (q188, .inl (d189, 403, .inr (.inl (fun _ => 0)))), (q190, .inl (d191, 13, .inr (.inl (fun _ => 0)))), (q192, .inl (d193, 5, .inr (.inl (fun _ => 0)))), (q194, .inl (d195, 2, .inl (fun _ => 0))), (q196, .inl (d197, 320, .inl (fun _ => 0))), (q198, .inl (d199, 2, .inl (fun _ => 0))), (q200, .inl (d201, 10, .inl (fun _ => 0))), (q202, .inl (d203, 160, .inl (fun _ => 0))), (q204, .inl (d205, 2, .inl (fun _ => 0))), (q206, .inl (d207, 2, .inl (fun _ => 0))), (q208, .inl (d209, 2, .inl (fun _ => 0))), (q210, .inl (d211, 2, .inl (fun _ => 0))), (q212, .inl (d213, 165, .inl (fun _ => 0))), (q214, .inl (d215, 165, .inl (fun _ => 0))), (q216, .inl (d217, 16, .inl (fun _ => 0))), (q218, .inl (d219, 16, .inl (fun _ => 0))), (q220, .inl (d221, 256, .inl (fun _ => 0))), (q222, .inl (d223, 6600, .inl (fun _ => 0))), (q224, .inl (d225, 40, .inl (fun _ => 0))), (q226, .inl (d227, 160, .inl (fun _ => 0)))]) hk (hN rfl) hin12 tyX12 tyX12_ok nmX12 0 rfl rfl 48 (by decide) (by decide +kernel) rfl rfl rfl rfl rfl (by decide) rfl dX12_init_212 ?_
  refine g_aload_n hk dX12_init_215 rfl ?_
  refine g_bipush (v := 9) hk dX12_init_216 (by decide) ?_
  refine g_newa (atype := .int) (ty := .int) (a0 := (9, .inl (fun _ => 0))) hk (by decide +kernel) rfl (fun cA => rfl) (by decide) (by decide) (Nat.le_of_ble_eq_true rfl) (Nat.le_of_ble_eq_true rfl) (Nat.le_of_ble_eq_true rfl) dX12_init_218 (fun q228 d229 hk => ?_)
  have hk : GC κ l D zt cX12_init 1 RX12 wsX12_init [(d179, .byte), (d181, .byte), (d183, .int), (d185, .int), (d187, .int), (d189, .long), (d191, .long), (d193, .long), (d195, .int), (d197, .int), (d199, .int), (d201, .int), (d203, .int), (d205, .int), (d207, .int), (d209, .int), (d211, .int), (d213, .int), (d215, .int), (d217, .int), (d219, .int), (d221, .int), (d223, .int), (d225, .int), (d227, .int), (d229, .int)] ({ frames := 2, cells := 29, slots := 14217, locals := 48 } : Room) := hk
  show GW κ 1 26 13559 ([(h0, .inr (12, [.int 0, .ref q178, .int 0, .ref q180, .int 0, .ref q182, .ref q184, .ref q186, .ref q188, .ref q190, .int 0, .int 0, .int 0, .int 0, .int 0, .int 0, .int 0, .int (-1), .int 0, .int 0, .int 0, .int 0, .int 0, .int 0, .int 0, .ref q192, .ref q194, .ref q196, .ref q198, .ref q200, .ref q202, .ref q204, .ref q206, .ref q208, .ref q210, .ref q212, .ref q214, .int 0, .ref q216, .ref q218, .ref q220, .int 0, .int 0, .int 0, .int 0, .ref q222, .ref q224, .int 0, .ref q226, .null, .int 0, .null, .int 0, .null, .null])), (q178, .inl (d179, 2000, .inl (fun _ => 0))), (q180, .inl (d181, 2000, .inl (fun _ => 0))), (q182, .inl (d183, 403, .inl (fun _ => 0))), (q184, .inl (d185, 403, .inl (fun _ => 0))), (q186, .inl (d187, 403, .inl (fun _ => 0))), (q188, .inl (d189, 403, .inr (.inl (fun _ => 0)))), (q190, .inl (d191, 13, .inr (.inl (fun _ => 0)))), (q192, .inl (d193, 5, .inr (.inl (fun _ => 0)))), (q194, .inl (d195, 2, .inl (fun _ => 0))), (q196, .inl (d197, 320, .inl (fun _ => 0))), (q198, .inl (d199, 2, .inl (fun _ => 0))), (q200, .inl (d201, 10, .inl (fun _ => 0))), (q202, .inl (d203, 160, .inl (fun _ => 0))), (q204, .inl (d205, 2, .inl (fun _ => 0))), (q206, .inl (d207, 2, .inl (fun _ => 0))), (q208, .inl (d209, 2, .inl (fun _ => 0))), (q210, .inl (d211, 2, .inl (fun _ => 0))), (q212, .inl (d213, 165, .inl (fun _ => 0))), (q214, .inl (d215, 165, .inl (fun _ => 0))), (q216, .inl (d217, 16, .inl (fun _ => 0))), (q218, .inl (d219, 16, .inl (fun _ => 0))), (q220, .inl (d221, 256, .inl (fun _ => 0))), (q222, .inl (d223, 6600, .inl (fun _ => 0))), (q224, .inl (d225, 40, .inl (fun _ => 0))), (q226, .inl (d227, 160, .inl (fun _ => 0))), (q228, .inl (d229, 9, .inl (fun _ => 0)))]) 220 [(0, .ref h0)] [.ref q228, .ref h0]
  refine g_putF (ws' := [(h0, .inr (12, [.int 0, .ref q178, .int 0, .ref q180, .int 0, .ref q182, .ref q184, .ref q186, .ref q188, .ref q190, .int 0, .int 0, .int 0, .int 0, .int 0, .int 0, .int 0, .int (-1), .int 0, .int 0, .int 0, .int 0, .int 0, .int 0, .int 0, .ref q192, .ref q194, .ref q196, .ref q198, .ref q200, .ref q202, .ref q204, .ref q206, .ref q208, .ref q210, .ref q212, .ref q214, .int 0, .ref q216, .ref q218, .ref q220, .int 0, .int 0, .int 0, .int 0, .ref q222, .ref q224, .int 0, .ref q226, .ref q228, .int 0, .null, .int 0, .null, .null])), (q178, .inl (d179, 2000, .inl (fun _ => 0))), (q180, .inl (d181, 2000, .inl (fun _ => 0))), (q182, .inl (d183, 403, .inl (fun _ => 0))), (q184, .inl (d185, 403, .inl (fun _ => 0))), (q186, .inl (d187, 403, .inl (fun _ => 0))), (q188, .inl (d189, 403, .inr (.inl (fun _ => 0)))), (q190, .inl (d191, 13, .inr (.inl (fun _ => 0)))), (q192, .inl (d193, 5, .inr (.inl (fun _ => 0)))), (q194, .inl (d195, 2, .inl (fun _ => 0))), (q196, .inl (d197, 320, .inl (fun _ => 0))), (q198, .inl (d199, 2, .inl (fun _ => 0))), (q200, .inl (d201, 10, .inl (fun _ => 0))), (q202, .inl (d203, 160, .inl (fun _ => 0))), (q204, .inl (d205, 2, .inl (fun _ => 0))), (q206, .inl (d207, 2, .inl (fun _ => 0))), (q208, .inl (d209, 2, .inl (fun _ => 0))), (q210, .inl (d211, 2, .inl (fun _ => 0))), (q212, .inl (d213, 165, .inl (fun _ => 0))), (q214, .inl (d215, 165, .inl (fun _ => 0))), (q216, .inl (d217, 16, .inl (fun _ => 0))), (q218, .inl (d219, 16, .inl (fun _ => 0))), (q220, .inl (d221, 256, .inl (fun _ => 0))), (q222, .inl (d223, 6600, .inl (fun _ => 0))), (q224, .inl (d225, 40, .inl (fun _ => 0))), (q226, .inl (d227, 160, .inl (fun _ => 0))), (q228, .inl (d229, 9, .inl (fun _ => 0)))]) hk (hN rfl) hin12 tyX12 tyX12_ok nmX12 0 rfl rfl 49 (by decide) (by decide +kernel) rfl rfl rfl rfl rfl (by decide) rfl dX12_init_220 ?_
  refine g_aload_n hk dX12_init_223 rfl ?_
  refine g_sipush (v := 160) hk dX12_init_224 (by decide) ?_
  refine g_newa (atype := .int) (ty := .int) (a0 := (160, .inl (fun _ => 0))) hk (by decide +kernel) rfl (fun cA => rfl) (by decide) (by decide) (Nat.le_of_ble_eq_true rfl) (Nat.le_of_ble_eq_true rfl) (Nat.le_of_ble_eq_true rfl) dX12_init_227 (fun q230 d231 hk => ?_)
  have hk : GC κ l D zt cX12_init 1 RX12 wsX12_init [(d179, .byte), (d181, .byte), (d183, .int), (d185, .int), (d187, .int), (d189, .long), (d191, .long), (d193, .long), (d195, .int), (d197, .int), (d199, .int), (d201, .int), (d203, .int), (d205, .int), (d207, .int), (d209, .int), (d211, .int), (d213, .int), (d215, .int), (d217, .int), (d219, .int), (d221, .int), (d223, .int), (d225, .int), (d227, .int), (d229, .int), (d231, .int)] ({ frames := 2, cells := 29, slots := 14217, locals := 48 } : Room) := hk
  show GW κ 1 27 13719 ([(h0, .inr (12, [.int 0, .ref q178, .int 0, .ref q180, .int 0, .ref q182, .ref q184, .ref q186, .ref q188, .ref q190, .int 0, .int 0, .int 0, .int 0, .int 0, .int 0, .int 0, .int (-1), .int 0, .int 0, .int 0, .int 0, .int 0, .int 0, .int 0, .ref q192, .ref q194, .ref q196, .ref q198, .ref q200, .ref q202, .ref q204, .ref q206, .ref q208, .ref q210, .ref q212, .ref q214, .int 0, .ref q216, .ref q218, .ref q220, .int 0, .int 0, .int 0, .int 0, .ref q222, .ref q224, .int 0, .ref q226, .ref q228, .int 0, .null, .int 0, .null, .null])), (q178, .inl (d179, 2000, .inl (fun _ => 0))), (q180, .inl (d181, 2000, .inl (fun _ => 0))), (q182, .inl (d183, 403, .inl (fun _ => 0))), (q184, .inl (d185, 403, .inl (fun _ => 0))), (q186, .inl (d187, 403, .inl (fun _ => 0))), (q188, .inl (d189, 403, .inr (.inl (fun _ => 0)))), (q190, .inl (d191, 13, .inr (.inl (fun _ => 0)))), (q192, .inl (d193, 5, .inr (.inl (fun _ => 0)))), (q194, .inl (d195, 2, .inl (fun _ => 0))), (q196, .inl (d197, 320, .inl (fun _ => 0))), (q198, .inl (d199, 2, .inl (fun _ => 0))), (q200, .inl (d201, 10, .inl (fun _ => 0))), (q202, .inl (d203, 160, .inl (fun _ => 0))), (q204, .inl (d205, 2, .inl (fun _ => 0))), (q206, .inl (d207, 2, .inl (fun _ => 0))), (q208, .inl (d209, 2, .inl (fun _ => 0))), (q210, .inl (d211, 2, .inl (fun _ => 0))), (q212, .inl (d213, 165, .inl (fun _ => 0))), (q214, .inl (d215, 165, .inl (fun _ => 0))), (q216, .inl (d217, 16, .inl (fun _ => 0))), (q218, .inl (d219, 16, .inl (fun _ => 0))), (q220, .inl (d221, 256, .inl (fun _ => 0))), (q222, .inl (d223, 6600, .inl (fun _ => 0))), (q224, .inl (d225, 40, .inl (fun _ => 0))), (q226, .inl (d227, 160, .inl (fun _ => 0))), (q228, .inl (d229, 9, .inl (fun _ => 0))), (q230, .inl (d231, 160, .inl (fun _ => 0)))]) 229 [(0, .ref h0)] [.ref q230, .ref h0]
  refine g_putF (ws' := [(h0, .inr (12, [.int 0, .ref q178, .int 0, .ref q180, .int 0, .ref q182, .ref q184, .ref q186, .ref q188, .ref q190, .int 0, .int 0, .int 0, .int 0, .int 0, .int 0, .int 0, .int (-1), .int 0, .int 0, .int 0, .int 0, .int 0, .int 0, .int 0, .ref q192, .ref q194, .ref q196, .ref q198, .ref q200, .ref q202, .ref q204, .ref q206, .ref q208, .ref q210, .ref q212, .ref q214, .int 0, .ref q216, .ref q218, .ref q220, .int 0, .int 0, .int 0, .int 0, .ref q222, .ref q224, .int 0, .ref q226, .ref q228, .int 0, .ref q230, .int 0, .null, .null])), (q178, .inl (d179, 2000, .inl (fun _ => 0))), (q180, .inl (d181, 2000, .inl (fun _ => 0))), (q182, .inl (d183, 403, .inl (fun _ => 0))), (q184, .inl (d185, 403, .inl (fun _ => 0))), (q186, .inl (d187, 403, .inl (fun _ => 0))), (q188, .inl (d189, 403, .inr (.inl (fun _ => 0)))), (q190, .inl (d191, 13, .inr (.inl (fun _ => 0)))), (q192, .inl (d193, 5, .inr (.inl (fun _ => 0)))), (q194, .inl (d195, 2, .inl (fun _ => 0))), (q196, .inl (d197, 320, .inl (fun _ => 0))), (q198, .inl (d199, 2, .inl (fun _ => 0))), (q200, .inl (d201, 10, .inl (fun _ => 0))), (q202, .inl (d203, 160, .inl (fun _ => 0))), (q204, .inl (d205, 2, .inl (fun _ => 0))), (q206, .inl (d207, 2, .inl (fun _ => 0))), (q208, .inl (d209, 2, .inl (fun _ => 0))), (q210, .inl (d211, 2, .inl (fun _ => 0))), (q212, .inl (d213, 165, .inl (fun _ => 0))), (q214, .inl (d215, 165, .inl (fun _ => 0))), (q216, .inl (d217, 16, .inl (fun _ => 0))), (q218, .inl (d219, 16, .inl (fun _ => 0))), (q220, .inl (d221, 256, .inl (fun _ => 0))), (q222, .inl (d223, 6600, .inl (fun _ => 0))), (q224, .inl (d225, 40, .inl (fun _ => 0))), (q226, .inl (d227, 160, .inl (fun _ => 0))), (q228, .inl (d229, 9, .inl (fun _ => 0))), (q230, .inl (d231, 160, .inl (fun _ => 0)))]) hk (hN rfl) hin12 tyX12 tyX12_ok nmX12 0 rfl rfl 51 (by decide) (by decide +kernel) rfl rfl rfl rfl rfl (by decide) rfl dX12_init_229 ?_
  refine g_aload_n hk dX12_init_232 rfl ?_
  refine g_iconst (v := 3) hk dX12_init_233 (by decide) ?_
  refine g_newa (atype := .boolean) (ty := .boolean) (a0 := (3, .inl (fun _ => 0))) hk (by decide +kernel) rfl (fun cA => rfl) (by decide) (by decide) (Nat.le_of_ble_eq_true rfl) (Nat.le_of_ble_eq_true rfl) (Nat.le_of_ble_eq_true rfl) dX12_init_234 (fun q232 d233 hk => ?_)
  have hk : GC κ l D zt cX12_init 1 RX12 wsX12_init [(d179, .byte), (d181, .byte), (d183, .int), (d185, .int), (d187, .int), (d189, .long), (d191, .long), (d193, .long), (d195, .int), (d197, .int), (d199, .int), (d201, .int), (d203, .int), (d205, .int), (d207, .int), (d209, .int), (d211, .int), (d213, .int), (d215, .int), (d217, .int), (d219, .int), (d221, .int), (d223, .int), (d225, .int), (d227, .int), (d229, .int), (d231, .int), (d233, .boolean)] ({ frames := 2, cells := 29, slots := 14217, locals := 48 } : Room) := hk
  show GW κ 1 28 13722 ([(h0, .inr (12, [.int 0, .ref q178, .int 0, .ref q180, .int 0, .ref q182, .ref q184, .ref q186, .ref q188, .ref q190, .int 0, .int 0, .int 0, .int 0, .int 0, .int 0, .int 0, .int (-1), .int 0, .int 0, .int 0, .int 0, .int 0, .int 0, .int 0, .ref q192, .ref q194, .ref q196, .ref q198, .ref q200, .ref q202, .ref q204, .ref q206, .ref q208, .ref q210, .ref q212, .ref q214, .int 0, .ref q216, .ref q218, .ref q220, .int 0, .int 0, .int 0, .int 0, .ref q222, .ref q224, .int 0, .ref q226, .ref q228, .int 0, .ref q230, .int 0, .null, .null])), (q178, .inl (d179, 2000, .inl (fun _ => 0))), (q180, .inl (d181, 2000, .inl (fun _ => 0))), (q182, .inl (d183, 403, .inl (fun _ => 0))), (q184, .inl (d185, 403, .inl (fun _ => 0))), (q186, .inl (d187, 403, .inl (fun _ => 0))), (q188, .inl (d189, 403, .inr (.inl (fun _ => 0)))), (q190, .inl (d191, 13, .inr (.inl (fun _ => 0)))), (q192, .inl (d193, 5, .inr (.inl (fun _ => 0)))), (q194, .inl (d195, 2, .inl (fun _ => 0))), (q196, .inl (d197, 320, .inl (fun _ => 0))), (q198, .inl (d199, 2, .inl (fun _ => 0))), (q200, .inl (d201, 10, .inl (fun _ => 0))), (q202, .inl (d203, 160, .inl (fun _ => 0))), (q204, .inl (d205, 2, .inl (fun _ => 0))), (q206, .inl (d207, 2, .inl (fun _ => 0))), (q208, .inl (d209, 2, .inl (fun _ => 0))), (q210, .inl (d211, 2, .inl (fun _ => 0))), (q212, .inl (d213, 165, .inl (fun _ => 0))), (q214, .inl (d215, 165, .inl (fun _ => 0))), (q216, .inl (d217, 16, .inl (fun _ => 0))), (q218, .inl (d219, 16, .inl (fun _ => 0))), (q220, .inl (d221, 256, .inl (fun _ => 0))), (q222, .inl (d223, 6600, .inl (fun _ => 0))), (q224, .inl (d225, 40, .inl (fun _ => 0))), (q226, .inl (d227, 160, .inl (fun _ => 0))), (q228, .inl (d229, 9, .inl (fun _ => 0))), (q230, .inl (d231, 160, .inl (fun _ => 0))), (q232, .inl (d233, 3, .inl (fun _ => 0)))]) 236 [(0, .ref h0)] [.ref q232, .ref h0]
  refine g_putF (ws' := [(h0, .inr (12, [.int 0, .ref q178, .int 0, .ref q180, .int 0, .ref q182, .ref q184, .ref q186, .ref q188, .ref q190, .int 0, .int 0, .int 0, .int 0, .int 0, .int 0, .int 0, .int (-1), .int 0, .int 0, .int 0, .int 0, .int 0, .int 0, .int 0, .ref q192, .ref q194, .ref q196, .ref q198, .ref q200, .ref q202, .ref q204, .ref q206, .ref q208, .ref q210, .ref q212, .ref q214, .int 0, .ref q216, .ref q218, .ref q220, .int 0, .int 0, .int 0, .int 0, .ref q222, .ref q224, .int 0, .ref q226, .ref q228, .int 0, .ref q230, .int 0, .ref q232, .null])), (q178, .inl (d179, 2000, .inl (fun _ => 0))), (q180, .inl (d181, 2000, .inl (fun _ => 0))), (q182, .inl (d183, 403, .inl (fun _ => 0))), (q184, .inl (d185, 403, .inl (fun _ => 0))), (q186, .inl (d187, 403, .inl (fun _ => 0))), (q188, .inl (d189, 403, .inr (.inl (fun _ => 0)))), (q190, .inl (d191, 13, .inr (.inl (fun _ => 0)))), (q192, .inl (d193, 5, .inr (.inl (fun _ => 0)))), (q194, .inl (d195, 2, .inl (fun _ => 0))), (q196, .inl (d197, 320, .inl (fun _ => 0))), (q198, .inl (d199, 2, .inl (fun _ => 0))), (q200, .inl (d201, 10, .inl (fun _ => 0))), (q202, .inl (d203, 160, .inl (fun _ => 0))), (q204, .inl (d205, 2, .inl (fun _ => 0))), (q206, .inl (d207, 2, .inl (fun _ => 0))), (q208, .inl (d209, 2, .inl (fun _ => 0))), (q210, .inl (d211, 2, .inl (fun _ => 0))), (q212, .inl (d213, 165, .inl (fun _ => 0))), (q214, .inl (d215, 165, .inl (fun _ => 0))), (q216, .inl (d217, 16, .inl (fun _ => 0))), (q218, .inl (d219, 16, .inl (fun _ => 0))), (q220, .inl (d221, 256, .inl (fun _ => 0))), (q222, .inl (d223, 6600, .inl (fun _ => 0))), (q224, .inl (d225, 40, .inl (fun _ => 0))), (q226, .inl (d227, 160, .inl (fun _ => 0))), (q228, .inl (d229, 9, .inl (fun _ => 0))), (q230, .inl (d231, 160, .inl (fun _ => 0))), (q232, .inl (d233, 3, .inl (fun _ => 0)))]) hk (hN rfl) hin12 tyX12 tyX12_ok nmX12 0 rfl rfl 53 (by decide) (by decide +kernel) rfl rfl rfl rfl rfl (by decide) rfl dX12_init_236 ?_
  refine g_aload_n hk dX12_init_239 rfl ?_
  refine g_sipush (v := 495) hk dX12_init_240 (by decide) ?_
  refine g_newa (atype := .int) (ty := .int) (a0 := (495, .inl (fun _ => 0))) hk (by decide +kernel) rfl (fun cA => rfl) (by decide) (by decide) (Nat.le_of_ble_eq_true rfl) (Nat.le_of_ble_eq_true rfl) (Nat.le_of_ble_eq_true rfl) dX12_init_243 (fun q234 d235 hk => ?_)
  have hk : GC κ l D zt cX12_init 1 RX12 wsX12_init [(d179, .byte), (d181, .byte), (d183, .int), (d185, .int), (d187, .int), (d189, .long), (d191, .long), (d193, .long), (d195, .int), (d197, .int), (d199, .int), (d201, .int), (d203, .int), (d205, .int), (d207, .int), (d209, .int), (d211, .int), (d213, .int), (d215, .int), (d217, .int), (d219, .int), (d221, .int), (d223, .int), (d225, .int), (d227, .int), (d229, .int), (d231, .int), (d233, .boolean), (d235, .int)] ({ frames := 2, cells := 29, slots := 14217, locals := 48 } : Room) := hk
  show GW κ 1 29 14217 ([(h0, .inr (12, [.int 0, .ref q178, .int 0, .ref q180, .int 0, .ref q182, .ref q184, .ref q186, .ref q188, .ref q190, .int 0, .int 0, .int 0, .int 0, .int 0, .int 0, .int 0, .int (-1), .int 0, .int 0, .int 0, .int 0, .int 0, .int 0, .int 0, .ref q192, .ref q194, .ref q196, .ref q198, .ref q200, .ref q202, .ref q204, .ref q206, .ref q208, .ref q210, .ref q212, .ref q214, .int 0, .ref q216, .ref q218, .ref q220, .int 0, .int 0, .int 0, .int 0, .ref q222, .ref q224, .int 0, .ref q226, .ref q228, .int 0, .ref q230, .int 0, .ref q232, .null])), (q178, .inl (d179, 2000, .inl (fun _ => 0))), (q180, .inl (d181, 2000, .inl (fun _ => 0))), (q182, .inl (d183, 403, .inl (fun _ => 0))), (q184, .inl (d185, 403, .inl (fun _ => 0))), (q186, .inl (d187, 403, .inl (fun _ => 0))), (q188, .inl (d189, 403, .inr (.inl (fun _ => 0)))), (q190, .inl (d191, 13, .inr (.inl (fun _ => 0)))), (q192, .inl (d193, 5, .inr (.inl (fun _ => 0)))), (q194, .inl (d195, 2, .inl (fun _ => 0))), (q196, .inl (d197, 320, .inl (fun _ => 0))), (q198, .inl (d199, 2, .inl (fun _ => 0))), (q200, .inl (d201, 10, .inl (fun _ => 0))), (q202, .inl (d203, 160, .inl (fun _ => 0))), (q204, .inl (d205, 2, .inl (fun _ => 0))), (q206, .inl (d207, 2, .inl (fun _ => 0))), (q208, .inl (d209, 2, .inl (fun _ => 0))), (q210, .inl (d211, 2, .inl (fun _ => 0))), (q212, .inl (d213, 165, .inl (fun _ => 0))), (q214, .inl (d215, 165, .inl (fun _ => 0))), (q216, .inl (d217, 16, .inl (fun _ => 0))), (q218, .inl (d219, 16, .inl (fun _ => 0))), (q220, .inl (d221, 256, .inl (fun _ => 0))), (q222, .inl (d223, 6600, .inl (fun _ => 0))), (q224, .inl (d225, 40, .inl (fun _ => 0))), (q226, .inl (d227, 160, .inl (fun _ => 0))), (q228, .inl (d229, 9, .inl (fun _ => 0))), (q230, .inl (d231, 160, .inl (fun _ => 0))), (q232, .inl (d233, 3, .inl (fun _ => 0))), (q234, .inl (d235, 495, .inl (fun _ => 0)))]) 245 [(0, .ref h0)] [.ref q234, .ref h0]
  refine g_putF (ws' := [(h0, .inr (12, [.int 0, .ref q178, .int 0, .ref q180, .int 0, .ref q182, .ref q184, .ref q186, .ref q188, .ref q190, .int 0, .int 0, .int 0, .int 0, .int 0, .int 0, .int 0, .int (-1), .int 0, .int 0, .int 0, .int 0, .int 0, .int 0, .int 0, .ref q192, .ref q194, .ref q196, .ref q198, .ref q200, .ref q202, .ref q204, .ref q206, .ref q208, .ref q210, .ref q212, .ref q214, .int 0, .ref q216, .ref q218, .ref q220, .int 0, .int 0, .int 0, .int 0, .ref q222, .ref q224, .int 0, .ref q226, .ref q228, .int 0, .ref q230, .int 0, .ref q232, .ref q234])), (q178, .inl (d179, 2000, .inl (fun _ => 0))), (q180, .inl (d181, 2000, .inl (fun _ => 0))), (q182, .inl (d183, 403, .inl (fun _ => 0))), (q184, .inl (d185, 403, .inl (fun _ => 0))), (q186, .inl (d187, 403, .inl (fun _ => 0))), (q188, .inl (d189, 403, .inr (.inl (fun _ => 0)))), (q190, .inl (d191, 13, .inr (.inl (fun _ => 0)))), (q192, .inl (d193, 5, .inr (.inl (fun _ => 0)))), (q194, .inl (d195, 2, .inl (fun _ => 0))), (q196, .inl (d197, 320, .inl (fun _ => 0))), (q198, .inl (d199, 2, .inl (fun _ => 0))), (q200, .inl (d201, 10, .inl (fun _ => 0))), (q202, .inl (d203, 160, .inl (fun _ => 0))), (q204, .inl (d205, 2, .inl (fun _ => 0))), (q206, .inl (d207, 2, .inl (fun _ => 0))), (q208, .inl (d209, 2, .inl (fun _ => 0))), (q210, .inl (d211, 2, .inl (fun _ => 0))), (q212, .inl (d213, 165, .inl (fun _ => 0))), (q214, .inl (d215, 165, .inl (fun _ => 0))), (q216, .inl (d217, 16, .inl (fun _ => 0))), (q218, .inl (d219, 16, .inl (fun _ => 0))), (q220, .inl (d221, 256, .inl (fun _ => 0))), (q222, .inl (d223, 6600, .inl (fun _ => 0))), (q224, .inl (d225, 40, .inl (fun _ => 0))), (q226, .inl (d227, 160, .inl (fun _ => 0))), (q228, .inl (d229, 9, .inl (fun _ => 0))), (q230, .inl (d231, 160, .inl (fun _ => 0))), (q232, .inl (d233, 3, .inl (fun _ => 0))), (q234, .inl (d235, 495, .inl (fun _ => 0)))]) hk (hN rfl) hin12 tyX12 tyX12_ok nmX12 0 rfl rfl 54 (by decide) (by decide +kernel) rfl rfl rfl rfl rfl (by decide) rfl dX12_init_245 ?_
  refine g_aload_n hk dX12_init_248 rfl ?_
  refine g_iconst (v := 0) hk dX12_init_249 (by decide) ?_
  show GW κ 1 29 14217 (wM (fun k => ([h0, q178, q180, q182, q184, q186, q188, q190, q192, q194, q196, q198, q200, q202, q204, q206, q208, q210, q212, q214, q216, q218, q220, q222, q224, q226, q228, q230, q232, q234] : List Nat).getD k 0) (fun k => ([d179, d181, d183, d185, d187, d189, d191, d193, d195, d197, d199, d201, d203, d205, d207, d209, d211, d213, d215, d217, d219, d221, d223, d225, d227, d229, d231, d233, d235] : List ClassId).getD k d179) iM0 aM0 lM0) 250 [(0, .ref ((fun k => ([h0, q178, q180, q182, q184, q186, q188, q190, q192, q194, q196, q198, q200, q202, q204, q206, q208, q210, q212, q214, q216, q218, q220, q222, q224, q226, q228, q230, q232, q234] : List Nat).getD k 0) 0))] [.int 0, .ref ((fun k => ([h0, q178, q180, q182, q184, q186, q188, q190, q192, q194, q196, q198, q200, q202, q204, q206, q208, q210, q212, q214, q216, q218, q220, q222, q224, q226, q228, q230, q232, q234] : List Nat).getD k 0) 0)]
  have hk : GC κ l D zt cX12_init 1 RX12 wsX12_init (tyM (fun k => ([d179, d181, d183, d185, d187, d189, d191, d193, d195, d197, d199, d201, d203, d205, d207, d209, d211, d213, d215, d217, d219, d221, d223, d225, d227, d229, d231, d233, d235] : List ClassId).getD k d179)) ({ frames := 2, cells := 29, slots := 14217, locals := 48 } : Room) := hk
  have h00 : (fun k => ([h0, q178, q180, q182, q184, q186, q188, q190, q192, q194, q196, q198, q200, q202, q204, q206, q208, q210, q212, q214, q216, q218, q220, q222, q224, q226, q228, q230, q232, q234] : List Nat).getD k 0) 0 = h0 := rfl
  generalize (fun k => ([h0, q178, q180, q182, q184, q186, q188, q190, q192, q194, q196, q198, q200, q202, q204, q206, q208, q210, q212, q214, q216, q218, q220, q222, q224, q226, q228, q230, q232, q234] : List Nat).getD k 0) = r at h00 ⊢
  generalize (fun k => ([d179, d181, d183, d185, d187, d189, d191, d193, d195, d197, d199, d201, d203, d205, d207, d209, d211, d213, d215, d217, d219, d221, d223, d225, d227, d229, d231, d233, d235] : List ClassId).getD k d179) = g at hk ⊢
  refine g_callV hk (m21_X12_plain l D zt g r) (SP.same _) (fun _ h => h) gX12_init_X12_plain rfl rfl rfl (by decide +kernel) ⟨Nat.le_of_ble_eq_true rfl, Nat.le_of_ble_eq_true rfl⟩ 0 rfl rfl rfl rfl (Nat.le_of_ble_eq_true rfl) ⟨Nat.le_of_ble_eq_true rfl, Nat.le_of_ble_eq_true rfl⟩ dX12_init_250 (fun v ty' w' hp hk' => ?_)
  obtain ⟨rfl, rfl⟩ := hp
  show GW κ 1 29 14217 (wM r g iM0 (up3 (up3 aM0 13 0 2) 16 0 8) lM0) 253 [(0, .ref (r 0))] []
  refine g_aload_n hk dX12_init_253 rfl ?_
  refine g_iconst (v := 1) hk dX12_init_254 (by decide) ?_
  refine g_callV hk (m22_X12_plain l D zt g r) (SP.same _) (fun _ h => h) gX12_init_X12_plain rfl rfl rfl (by decide +kernel) ⟨Nat.le_of_ble_eq_true rfl, Nat.le_of_ble_eq_true rfl⟩ 0 rfl rfl rfl rfl (Nat.le_of_ble_eq_true rfl) ⟨Nat.le_of_ble_eq_true rfl, Nat.le_of_ble_eq_true rfl⟩ dX12_init_255 (fun v ty' w' hp hk' => ?_)
  obtain ⟨rfl, rfl⟩ := hp
  show GW κ 1 29 14217 (wM r g iM0 (up3 (up3 (up3 (up3 aM0 13 0 2) 16 0 8) 13 1 2) 16 1 8) lM0) 258 [(0, .ref (r 0))] []
  refine g_aload_n hk dX12_init_258 rfl ?_
  refine g_iconst (v := (-1)) hk dX12_init_259 (by decide) ?_
  refine pM_i14 hk hin12 (by decide +kernel) dX12_init_260 ?_
  refine g_aload_n hk dX12_init_263 rfl ?_
  refine gM_r0_9 hk hin12 (by decide +kernel) dX12_init_264 ?_
  refine g_iconst (v := 0) hk dX12_init_267 (by decide) ?_
  refine g_bipush (v := 115) hk dX12_init_268 (by decide) ?_
  refine g_bipush (v := 101) hk dX12_init_270 (by decide) ?_
  refine g_bipush (v := 114) hk dX12_init_272 (by decide) ?_
  refine g_bipush (v := 105) hk dX12_init_274 (by decide) ?_
  refine g_bipush (v := 101) hk dX12_init_276 (by decide) ?_
  refine g_bipush (v := 115) hk dX12_init_278 (by decide) ?_
  refine g_iconst (v := 0) hk dX12_init_280 (by decide) ?_
  refine g_callS hk (m30_X12_letters l D zt g r) (SP.same _) (fun _ h => h) gX12_init_X12_letters rfl rfl rfl (by decide +kernel) ⟨Nat.le_of_ble_eq_true rfl, Nat.le_of_ble_eq_true rfl⟩ rfl rfl (Nat.le_of_ble_eq_true rfl) ⟨Nat.le_of_ble_eq_true rfl, Nat.le_of_ble_eq_true rfl⟩ dX12_init_281 (fun v ty' w' hp hk' => ?_)
  obtain ⟨rfl, rfl⟩ := hp
  show GW κ 1 29 14217 (wM r g (upd iM0 14 (-1)) (up3 (up3 (up3 (up3 aM0 13 0 2) 16 0 8) 13 1 2) 16 1 8) lM0) 284 [(0, .ref (r 0))] [.long 275647447, .int 0, .ref (r 7)]
  refine sM_6 (j := 0) hk (vp_in_iff.mpr ⟨by decide, by decide⟩) (by decide) dX12_init_284 ?_
  refine g_aload_n hk dX12_init_285 rfl ?_
  refine gM_r0_9 hk hin12 (by decide +kernel) dX12_init_286 ?_
  refine g_iconst (v := 1) hk dX12_init_289 (by decide) ?_
  refine g_bipush (v := 113) hk dX12_init_290 (by decide) ?_
  refine g_bipush (v := 117) hk dX12_init_292 (by decide) ?_
  refine g_bipush (v := 101) hk dX12_init_294 (by decide) ?_
  refine g_bipush (v := 114) hk dX12_init_296 (by decide) ?_
  refine g_bipush (v := 121) hk dX12_init_298 (by decide) ?_
  refine g_iconst (v := 0) hk dX12_init_300 (by decide) ?_
  refine g_iconst (v := 0) hk dX12_init_301 (by decide) ?_
  refine g_callS hk (m37_X12_letters l D zt g r) (SP.same _) (fun _ h => h) gX12_init_X12_letters rfl rfl rfl (by decide +kernel) ⟨Nat.le_of_ble_eq_true rfl, Nat.le_of_ble_eq_true rfl⟩ rfl rfl (Nat.le_of_ble_eq_true rfl) ⟨Nat.le_of_ble_eq_true rfl, Nat.le_of_ble_eq_true rfl⟩ dX12_init_302 (fun v ty' w' hp hk' => ?_)
  obtain ⟨rfl, rfl⟩ := hp
  show GW κ 1 29 14217 (wM r g (upd iM0 14 (-1)) (up3 (up3 (up3 (up3 aM0 13 0 2) 16 0 8) 13 1 2) 16 1 8) (up3L lM0 6 0 275647447)) 305 [(0, .ref (r 0))] [.long 9451996, .int 1, .ref (r 7)]
  refine sM_6 (j := 1) hk (vp_in_iff.mpr ⟨by decide, by decide⟩) (by decide) dX12_init_305 ?_
  refine g_aload_n hk dX12_init_306 rfl ?_
  refine gM_r0_9 hk hin12 (by decide +kernel) dX12_init_307 ?_
  refine g_iconst (v := 2) hk dX12_init_310 (by decide) ?_
  refine g_bipush (v := 98) hk dX12_init_311 (by decide) ?_
  refine g_bipush (v := 97) hk dX12_init_313 (by decide) ?_
  refine g_bipush (v := 110) hk dX12_init_315 (by decide) ?_
  refine g_bipush (v := 100) hk dX12_init_317 (by decide) ?_
  refine g_iconst (v := 0) hk dX12_init_319 (by decide) ?_
  refine g_iconst (v := 0) hk dX12_init_320 (by decide) ?_
  refine g_iconst (v := 0) hk dX12_init_321 (by decide) ?_
  refine g_callS hk (m43_X12_letters l D zt g r) (SP.same _) (fun _ h => h) gX12_init_X12_letters rfl rfl rfl (by decide +kernel) ⟨Nat.le_of_ble_eq_true rfl, Nat.le_of_ble_eq_true rfl⟩ rfl rfl (Nat.le_of_ble_eq_true rfl) ⟨Nat.le_of_ble_eq_true rfl, Nat.le_of_ble_eq_true rfl⟩ dX12_init_322 (fun v ty' w' hp hk' => ?_)
  obtain ⟨rfl, rfl⟩ := hp
  show GW κ 1 29 14217 (wM r g (upd iM0 14 (-1)) (up3 (up3 (up3 (up3 aM0 13 0 2) 16 0 8) 13 1 2) 16 1 8) (up3L (up3L lM0 6 0 275647447) 6 1 9451996)) 325 [(0, .ref (r 0))] [.long 40477, .int 2, .ref (r 7)]
  refine sM_6 (j := 2) hk (vp_in_iff.mpr ⟨by decide, by decide⟩) (by decide) dX12_init_325 ?_
  refine g_aload_n hk dX12_init_326 rfl ?_
  refine gM_r0_9 hk hin12 (by decide +kernel) dX12_init_327 ?_
  refine g_iconst (v := 3) hk dX12_init_330 (by decide) ?_
  refine g_bipush (v := 108) hk dX12_init_331 (by decide) ?_
  refine g_bipush (v := 101) hk dX12_init_333 (by decide) ?_
  refine g_bipush (v := 118) hk dX12_init_335 (by decide) ?_
  refine g_bipush (v := 101) hk dX12_init_337 (by decide) ?_
  refine g_bipush (v := 108) hk dX12_init_339 (by decide) ?_
  refine g_iconst (v := 0) hk dX12_init_341 (by decide) ?_
  refine g_iconst (v := 0) hk dX12_init_342 (by decide) ?_
  refine g_callS hk (m50_X12_letters l D zt g r) (SP.same _) (fun _ h => h) gX12_init_X12_letters rfl rfl rfl (by decide +kernel) ⟨Nat.le_of_ble_eq_true rfl, Nat.le_of_ble_eq_true rfl⟩ rfl rfl (Nat.le_of_ble_eq_true rfl) ⟨Nat.le_of_ble_eq_true rfl, Nat.le_of_ble_eq_true rfl⟩ dX12_init_343 (fun v ty' w' hp hk' => ?_)
  obtain ⟨rfl, rfl⟩ := hp
  show GW κ 1 29 14217 (wM r g (upd iM0 14 (-1)) (up3 (up3 (up3 (up3 aM0 13 0 2) 16 0 8) 13 1 2) 16 1 8) (up3L (up3L (up3L lM0 6 0 275647447) 6 1 9451996) 6 2 40477)) 346 [(0, .ref (r 0))] [.long 6491892, .int 3, .ref (r 7)]
  refine sM_6 (j := 3) hk (vp_in_iff.mpr ⟨by decide, by decide⟩) (by decide) dX12_init_346 ?_
  refine g_aload_n hk dX12_init_347 rfl ?_
  refine gM_r0_9 hk hin12 (by decide +kernel) dX12_init_348 ?_
  refine g_iconst (v := 4) hk dX12_init_351 (by decide) ?_
  refine g_bipush (v := 99) hk dX12_init_352 (by decide) ?_
  refine g_bipush (v := 111) hk dX12_init_354 (by decide) ?_
  refine g_bipush (v := 115) hk dX12_init_356 (by decide) ?_
  refine g_bipush (v := 116) hk dX12_init_358 (by decide) ?_
  refine g_iconst (v := 0) hk dX12_init_360 (by decide) ?_
  refine g_iconst (v := 0) hk dX12_init_361 (by decide) ?_
  refine g_iconst (v := 0) hk dX12_init_362 (by decide) ?_
  refine g_callS hk (m56_X12_letters l D zt g r) (SP.same _) (fun _ h => h) gX12_init_X12_letters rfl rfl rfl (by decide +kernel) ⟨Nat.le_of_ble_eq_true rfl, Nat.le_of_ble_eq_true rfl⟩ rfl rfl (Nat.le_of_ble_eq_true rfl) ⟨Nat.le_of_ble_eq_true rfl, Nat.le_of_ble_eq_true rfl⟩ dX12_init_363 (fun v ty' w' hp hk' => ?_)
  obtain ⟨rfl, rfl⟩ := hp
  show GW κ 1 29 14217 (wM r g (upd iM0 14 (-1)) (up3 (up3 (up3 (up3 aM0 13 0 2) 16 0 8) 13 1 2) 16 1 8) (up3L (up3L (up3L (up3L lM0 6 0 275647447) 6 1 9451996) 6 2 40477) 6 3 6491892)) 366 [(0, .ref (r 0))] [.long 70517, .int 4, .ref (r 7)]
  refine sM_6 (j := 4) hk (vp_in_iff.mpr ⟨by decide, by decide⟩) (by decide) dX12_init_366 ?_
  refine g_aload_n hk dX12_init_367 rfl ?_
  refine gM_r0_9 hk hin12 (by decide +kernel) dX12_init_368 ?_
  refine g_iconst (v := 5) hk dX12_init_371 (by decide) ?_
  refine g_bipush (v := 97) hk dX12_init_372 (by decide) ?_
  refine g_bipush (v := 112) hk dX12_init_374 (by decide) ?_
  refine g_bipush (v := 97) hk dX12_init_376 (by decide) ?_
  refine g_bipush (v := 114) hk dX12_init_378 (by decide) ?_
  refine g_bipush (v := 116) hk dX12_init_380 (by decide) ?_
  refine g_iconst (v := 0) hk dX12_init_382 (by decide) ?_
  refine g_iconst (v := 0) hk dX12_init_383 (by decide) ?_
  refine g_callS hk (m63_X12_letters l D zt g r) (SP.same _) (fun _ h => h) gX12_init_X12_letters rfl rfl rfl (by decide +kernel) ⟨Nat.le_of_ble_eq_true rfl, Nat.le_of_ble_eq_true rfl⟩ rfl rfl (Nat.le_of_ble_eq_true rfl) ⟨Nat.le_of_ble_eq_true rfl, Nat.le_of_ble_eq_true rfl⟩ dX12_init_384 (fun v ty' w' hp hk' => ?_)
  obtain ⟨rfl, rfl⟩ := hp
  show GW κ 1 29 14217 (wM r g (upd iM0 14 (-1)) (up3 (up3 (up3 (up3 aM0 13 0 2) 16 0 8) 13 1 2) 16 1 8) (up3L (up3L (up3L (up3L (up3L lM0 6 0 275647447) 6 1 9451996) 6 2 40477) 6 3 6491892) 6 4 70517)) 387 [(0, .ref (r 0))] [.long 847604, .int 5, .ref (r 7)]
  refine sM_6 (j := 5) hk (vp_in_iff.mpr ⟨by decide, by decide⟩) (by decide) dX12_init_387 ?_
  refine g_aload_n hk dX12_init_388 rfl ?_
  refine gM_r0_9 hk hin12 (by decide +kernel) dX12_init_389 ?_
  refine g_bipush (v := 6) hk dX12_init_392 (by decide) ?_
  refine g_bipush (v := 103) hk dX12_init_394 (by decide) ?_
  refine g_bipush (v := 97) hk dX12_init_396 (by decide) ?_
  refine g_bipush (v := 112) hk dX12_init_398 (by decide) ?_
  refine g_iconst (v := 0) hk dX12_init_400 (by decide) ?_
  refine g_iconst (v := 0) hk dX12_init_401 (by decide) ?_
  refine g_iconst (v := 0) hk dX12_init_402 (by decide) ?_
  refine g_iconst (v := 0) hk dX12_init_403 (by decide) ?_
  refine g_callS hk (m68_X12_letters l D zt g r) (SP.same _) (fun _ h => h) gX12_init_X12_letters rfl rfl rfl (by decide +kernel) ⟨Nat.le_of_ble_eq_true rfl, Nat.le_of_ble_eq_true rfl⟩ rfl rfl (Nat.le_of_ble_eq_true rfl) ⟨Nat.le_of_ble_eq_true rfl, Nat.le_of_ble_eq_true rfl⟩ dX12_init_404 (fun v ty' w' hp hk' => ?_)
  obtain ⟨rfl, rfl⟩ := hp
  show GW κ 1 29 14217 (wM r g (upd iM0 14 (-1)) (up3 (up3 (up3 (up3 aM0 13 0 2) 16 0 8) 13 1 2) 16 1 8) (up3L (up3L (up3L (up3L (up3L (up3L lM0 6 0 275647447) 6 1 9451996) 6 2 40477) 6 3 6491892) 6 4 70517) 6 5 847604)) 407 [(0, .ref (r 0))] [.long 5146, .int 6, .ref (r 7)]
  refine sM_6 (j := 6) hk (vp_in_iff.mpr ⟨by decide, by decide⟩) (by decide) dX12_init_407 ?_
  refine g_aload_n hk dX12_init_408 rfl ?_
  refine gM_r0_9 hk hin12 (by decide +kernel) dX12_init_409 ?_
  refine g_bipush (v := 7) hk dX12_init_412 (by decide) ?_
  refine g_bipush (v := 110) hk dX12_init_414 (by decide) ?_
  refine g_bipush (v := 111) hk dX12_init_416 (by decide) ?_
  refine g_bipush (v := 110) hk dX12_init_418 (by decide) ?_
  refine g_bipush (v := 101) hk dX12_init_420 (by decide) ?_
  refine g_iconst (v := 0) hk dX12_init_422 (by decide) ?_
  refine g_iconst (v := 0) hk dX12_init_423 (by decide) ?_
  refine g_iconst (v := 0) hk dX12_init_424 (by decide) ?_
  refine g_callS hk (m74_X12_letters l D zt g r) (SP.same _) (fun _ h => h) gX12_init_X12_letters rfl rfl rfl (by decide +kernel) ⟨Nat.le_of_ble_eq_true rfl, Nat.le_of_ble_eq_true rfl⟩ rfl rfl (Nat.le_of_ble_eq_true rfl) ⟨Nat.le_of_ble_eq_true rfl, Nat.le_of_ble_eq_true rfl⟩ dX12_init_425 (fun v ty' w' hp hk' => ?_)
  obtain ⟨rfl, rfl⟩ := hp
  show GW κ 1 29 14217 (wM r g (upd iM0 14 (-1)) (up3 (up3 (up3 (up3 aM0 13 0 2) 16 0 8) 13 1 2) 16 1 8) (up3L (up3L (up3L (up3L (up3L (up3L (up3L lM0 6 0 275647447) 6 1 9451996) 6 2 40477) 6 3 6491892) 6 4 70517) 6 5 847604) 6 6 5146)) 428 [(0, .ref (r 0))] [.long 286880, .int 7, .ref (r 7)]
  refine sM_6 (j := 7) hk (vp_in_iff.mpr ⟨by decide, by decide⟩) (by decide) dX12_init_428 ?_
  refine g_aload_n hk dX12_init_429 rfl ?_
  refine gM_r0_9 hk hin12 (by decide +kernel) dX12_init_430 ?_
  refine g_bipush (v := 8) hk dX12_init_433 (by decide) ?_
  refine g_bipush (v := 109) hk dX12_init_435 (by decide) ?_
  refine g_bipush (v := 101) hk dX12_init_437 (by decide) ?_
  refine g_bipush (v := 97) hk dX12_init_439 (by decide) ?_
  refine g_bipush (v := 110) hk dX12_init_441 (by decide) ?_
  refine g_iconst (v := 0) hk dX12_init_443 (by decide) ?_
  refine g_iconst (v := 0) hk dX12_init_444 (by decide) ?_
  refine g_iconst (v := 0) hk dX12_init_445 (by decide) ?_
  refine g_callS hk (m80_X12_letters l D zt g r) (SP.same _) (fun _ h => h) gX12_init_X12_letters rfl rfl rfl (by decide +kernel) ⟨Nat.le_of_ble_eq_true rfl, Nat.le_of_ble_eq_true rfl⟩ rfl rfl (Nat.le_of_ble_eq_true rfl) ⟨Nat.le_of_ble_eq_true rfl, Nat.le_of_ble_eq_true rfl⟩ dX12_init_446 (fun v ty' w' hp hk' => ?_)
  obtain ⟨rfl, rfl⟩ := hp
  show GW κ 1 29 14217 (wM r g (upd iM0 14 (-1)) (up3 (up3 (up3 (up3 aM0 13 0 2) 16 0 8) 13 1 2) 16 1 8) (up3L (up3L (up3L (up3L (up3L (up3L (up3L (up3L lM0 6 0 275647447) 6 1 9451996) 6 2 40477) 6 3 6491892) 6 4 70517) 6 5 847604) 6 6 5146) 6 7 286880)) 449 [(0, .ref (r 0))] [.long 259565, .int 8, .ref (r 7)]
  refine sM_6 (j := 8) hk (vp_in_iff.mpr ⟨by decide, by decide⟩) (by decide) dX12_init_449 ?_
  refine g_aload_n hk dX12_init_450 rfl ?_
  refine gM_r0_9 hk hin12 (by decide +kernel) dX12_init_451 ?_
  refine g_bipush (v := 9) hk dX12_init_454 (by decide) ?_
  refine g_bipush (v := 102) hk dX12_init_456 (by decide) ?_
  refine g_bipush (v := 105) hk dX12_init_458 (by decide) ?_
  refine g_bipush (v := 114) hk dX12_init_460 (by decide) ?_
  refine g_bipush (v := 115) hk dX12_init_462 (by decide) ?_
  refine g_bipush (v := 116) hk dX12_init_464 (by decide) ?_
  refine g_iconst (v := 0) hk dX12_init_466 (by decide) ?_
  refine g_iconst (v := 0) hk dX12_init_467 (by decide) ?_
  refine g_callS hk (m87_X12_letters l D zt g r) (SP.same _) (fun _ h => h) gX12_init_X12_letters rfl rfl rfl (by decide +kernel) ⟨Nat.le_of_ble_eq_true rfl, Nat.le_of_ble_eq_true rfl⟩ rfl rfl (Nat.le_of_ble_eq_true rfl) ⟨Nat.le_of_ble_eq_true rfl, Nat.le_of_ble_eq_true rfl⟩ dX12_init_468 (fun v ty' w' hp hk' => ?_)
  obtain ⟨rfl, rfl⟩ := hp
  show GW κ 1 29 14217 (wM r g (upd iM0 14 (-1)) (up3 (up3 (up3 (up3 aM0 13 0 2) 16 0 8) 13 1 2) 16 1 8) (up3L (up3L (up3L (up3L (up3L (up3L (up3L (up3L (up3L lM0 6 0 275647447) 6 1 9451996) 6 2 40477) 6 3 6491892) 6 4 70517) 6 5 847604) 6 6 5146) 6 7 286880) 6 8 259565)) 471 [(0, .ref (r 0))] [.long 3379448, .int 9, .ref (r 7)]
  refine sM_6 (j := 9) hk (vp_in_iff.mpr ⟨by decide, by decide⟩) (by decide) dX12_init_471 ?_
  refine g_aload_n hk dX12_init_472 rfl ?_
  refine gM_r0_9 hk hin12 (by decide +kernel) dX12_init_473 ?_
  refine g_bipush (v := 10) hk dX12_init_476 (by decide) ?_
  refine g_bipush (v := 114) hk dX12_init_478 (by decide) ?_
  refine g_bipush (v := 97) hk dX12_init_480 (by decide) ?_
  refine g_bipush (v := 110) hk dX12_init_482 (by decide) ?_
  refine g_bipush (v := 103) hk dX12_init_484 (by decide) ?_
  refine g_bipush (v := 101) hk dX12_init_486 (by decide) ?_
  refine g_iconst (v := 0) hk dX12_init_488 (by decide) ?_
  refine g_iconst (v := 0) hk dX12_init_489 (by decide) ?_
  refine g_callS hk (m94_X12_letters l D zt g r) (SP.same _) (fun _ h => h) gX12_init_X12_letters rfl rfl rfl (by decide +kernel) ⟨Nat.le_of_ble_eq_true rfl, Nat.le_of_ble_eq_true rfl⟩ rfl rfl (Nat.le_of_ble_eq_true rfl) ⟨Nat.le_of_ble_eq_true rfl, Nat.le_of_ble_eq_true rfl⟩ dX12_init_490 (fun v ty' w' hp hk' => ?_)
  obtain ⟨rfl, rfl⟩ := hp
  show GW κ 1 29 14217 (wM r g (upd iM0 14 (-1)) (up3 (up3 (up3 (up3 aM0 13 0 2) 16 0 8) 13 1 2) 16 1 8) (up3L (up3L (up3L (up3L (up3L (up3L (up3L (up3L (up3L (up3L lM0 6 0 275647447) 6 1 9451996) 6 2 40477) 6 3 6491892) 6 4 70517) 6 5 847604) 6 6 5146) 6 7 286880) 6 8 259565) 6 9 3379448)) 493 [(0, .ref (r 0))] [.long 9596021, .int 10, .ref (r 7)]
  refine sM_6 (j := 10) hk (vp_in_iff.mpr ⟨by decide, by decide⟩) (by decide) dX12_init_493 ?_
  refine g_aload_n hk dX12_init_494 rfl ?_
  refine gM_r0_9 hk hin12 (by decide +kernel) dX12_init_495 ?_
  refine g_bipush (v := 11) hk dX12_init_498 (by decide) ?_
  refine g_bipush (v := 112) hk dX12_init_500 (by decide) ?_
  refine g_bipush (v := 108) hk dX12_init_502 (by decide) ?_
  refine g_bipush (v := 97) hk dX12_init_504 (by decide) ?_
  refine g_bipush (v := 105) hk dX12_init_506 (by decide) ?_
  refine g_bipush (v := 110) hk dX12_init_508 (by decide) ?_
  refine g_iconst (v := 0) hk dX12_init_510 (by decide) ?_
  refine g_iconst (v := 0) hk dX12_init_511 (by decide) ?_
  refine g_callS hk (m101_X12_letters l D zt g r) (SP.same _) (fun _ h => h) gX12_init_X12_letters rfl rfl rfl (by decide +kernel) ⟨Nat.le_of_ble_eq_true rfl, Nat.le_of_ble_eq_true rfl⟩ rfl rfl (Nat.le_of_ble_eq_true rfl) ⟨Nat.le_of_ble_eq_true rfl, Nat.le_of_ble_eq_true rfl⟩ dX12_init_512 (fun v ty' w' hp hk' => ?_)
  obtain ⟨rfl, rfl⟩ := hp
  show GW κ 1 29 14217 (wM r g (upd iM0 14 (-1)) (up3 (up3 (up3 (up3 aM0 13 0 2) 16 0 8) 13 1 2) 16 1 8) (up3L (up3L (up3L (up3L (up3L (up3L (up3L (up3L (up3L (up3L (up3L lM0 6 0 275647447) 6 1 9451996) 6 2 40477) 6 3 6491892) 6 4 70517) 6 5 847604) 6 6 5146) 6 7 286880) 6 8 259565) 6 9 3379448) 6 10 9596021)) 515 [(0, .ref (r 0))] [.long 8740238, .int 11, .ref (r 7)]
  refine sM_6 (j := 11) hk (vp_in_iff.mpr ⟨by decide, by decide⟩) (by decide) dX12_init_515 ?_
  refine g_aload_n hk dX12_init_516 rfl ?_
  refine gM_r0_9 hk hin12 (by decide +kernel) dX12_init_517 ?_
  refine g_bipush (v := 12) hk dX12_init_520 (by decide) ?_
  refine g_bipush (v := 115) hk dX12_init_522 (by decide) ?_
  refine g_bipush (v := 113) hk dX12_init_524 (by decide) ?_
  refine g_bipush (v := 117) hk dX12_init_526 (by decide) ?_
  refine g_bipush (v := 97) hk dX12_init_528 (by decide) ?_
  refine g_bipush (v := 114) hk dX12_init_530 (by decide) ?_
  refine g_bipush (v := 101) hk dX12_init_532 (by decide) ?_
  refine g_iconst (v := 0) hk dX12_init_534 (by decide) ?_
  refine g_callS hk (m109_X12_letters l D zt g r) (SP.same _) (fun _ h => h) gX12_init_X12_letters rfl rfl rfl (by decide +kernel) ⟨Nat.le_of_ble_eq_true rfl, Nat.le_of_ble_eq_true rfl⟩ rfl rfl (Nat.le_of_ble_eq_true rfl) ⟨Nat.le_of_ble_eq_true rfl, Nat.le_of_ble_eq_true rfl⟩ dX12_init_535 (fun v ty' w' hp hk' => ?_)
  obtain ⟨rfl, rfl⟩ := hp
  show GW κ 1 29 14217 (wM r g (upd iM0 14 (-1)) (up3 (up3 (up3 (up3 aM0 13 0 2) 16 0 8) 13 1 2) 16 1 8) (up3L (up3L (up3L (up3L (up3L (up3L (up3L (up3L (up3L (up3L (up3L (up3L lM0 6 0 275647447) 6 1 9451996) 6 2 40477) 6 3 6491892) 6 4 70517) 6 5 847604) 6 6 5146) 6 7 286880) 6 8 259565) 6 9 3379448) 6 10 9596021) 6 11 8740238)) 538 [(0, .ref (r 0))] [.long 282078293, .int 12, .ref (r 7)]
  refine sM_6 (j := 12) hk (vp_in_iff.mpr ⟨by decide, by decide⟩) (by decide) dX12_init_538 ?_
  refine g_aload_n hk dX12_init_539 rfl ?_
  refine g_callV hk (m110_X12_begins l D zt g r) (SP.same _) (fun _ h => h) gX12_init_X12_begins rfl rfl rfl (by decide +kernel) ⟨Nat.le_of_ble_eq_true rfl, Nat.le_of_ble_eq_true rfl⟩ 0 rfl rfl rfl rfl (Nat.le_of_ble_eq_true rfl) ⟨Nat.le_of_ble_eq_true rfl, Nat.le_of_ble_eq_true rfl⟩ dX12_init_540 (fun v ty' w' hp hk' => ?_)
  obtain ⟨rfl, rfl⟩ := hp
  show GW κ 1 29 14217 (wM r g (upd iM0 14 (-1)) (up3 (up3 (up2 (up3 (up3 (up3 (up3 aM0 13 0 2) 16 0 8) 13 1 2) 16 1 8) 18 (cp (fun _ => 0) ((up3 (up3 (up3 (up3 aM0 13 0 2) 16 0 8) 13 1 2) 16 1 8) 18) 165)) 18 161 2) 18 164 8) (up3L (up3L (up3L (up3L (up3L (up3L (up3L (up3L (up3L (up3L (up3L (up3L (up3L lM0 6 0 275647447) 6 1 9451996) 6 2 40477) 6 3 6491892) 6 4 70517) 6 5 847604) 6 6 5146) 6 7 286880) 6 8 259565) 6 9 3379448) 6 10 9596021) 6 11 8740238) 6 12 282078293)) 543 [(0, .ref (r 0))] []
  refine g_aload_n hk dX12_init_543 rfl ?_
  refine g_callV hk (m111_X12_keepsRow l D zt g r) (SP.same _) (fun _ h => h) gX12_init_X12_keepsRow rfl rfl rfl (by decide +kernel) ⟨Nat.le_of_ble_eq_true rfl, Nat.le_of_ble_eq_true rfl⟩ 0 rfl rfl rfl rfl (Nat.le_of_ble_eq_true rfl) ⟨Nat.le_of_ble_eq_true rfl, Nat.le_of_ble_eq_true rfl⟩ dX12_init_544 (fun v ty' w' hp hk' => ?_)
  obtain ⟨rfl, rfl⟩ := hp
  show GW κ 1 29 14217 (wM r g (upd iM0 14 (-1)) (up2 (up3 (up3 (up2 (up3 (up3 (up3 (up3 aM0 13 0 2) 16 0 8) 13 1 2) 16 1 8) 18 (cp (fun _ => 0) ((up3 (up3 (up3 (up3 aM0 13 0 2) 16 0 8) 13 1 2) 16 1 8) 18) 165)) 18 161 2) 18 164 8) 17 (cp ((up3 (up3 (up2 (up3 (up3 (up3 (up3 aM0 13 0 2) 16 0 8) 13 1 2) 16 1 8) 18 (cp (fun _ => 0) ((up3 (up3 (up3 (up3 aM0 13 0 2) 16 0 8) 13 1 2) 16 1 8) 18) 165)) 18 161 2) 18 164 8) 18) ((up3 (up3 (up2 (up3 (up3 (up3 (up3 aM0 13 0 2) 16 0 8) 13 1 2) 16 1 8) 18 (cp (fun _ => 0) ((up3 (up3 (up3 (up3 aM0 13 0 2) 16 0 8) 13 1 2) 16 1 8) 18) 165)) 18 161 2) 18 164 8) 17) 165)) (up3L (up3L (up3L (up3L (up3L (up3L (up3L (up3L (up3L (up3L (up3L (up3L (up3L lM0 6 0 275647447) 6 1 9451996) 6 2 40477) 6 3 6491892) 6 4 70517) 6 5 847604) 6 6 5146) 6 7 286880) 6 8 259565) 6 9 3379448) 6 10 9596021) 6 11 8740238) 6 12 282078293)) 547 [(0, .ref (r 0))] []
  exact g_vret hk hR ⟨r, g, h00, rfl, rfl, rfl⟩ dX12_init_547
set_option maxHeartbeats 4000000 in
set_option maxRecDepth 100000 in
theorem m113_X12_lays (l : Launch) (D : va_G) (zt : Nat × Nat × Nat) (g : Nat → ClassId) (r : Nat → Nat) (a1 : Int32) : GM l D zt (tyM g) yX12_lays wsX12_lays ({ frames := 0, cells := 0, slots := 0, locals := 0 } : Room) [.ref (r 0), .int a1] (wM r g iM1 aM1 lM1) (fun v _ w' => ∃ (y246 : Int32), ∃ (y249 : Int32), ∃ (y252 : Int32), ∃ (y255 : Int32), v = none ∧ w' = wM r g (upd (upd (upd (upd iM1 1 1) 1 2) 1 3) 1 4) (up3 (up3 (up3 (up3 aM1 0 0 y246) 0 1 y249) 0 2 y252) 0 3 y255) lM1) 0 0 := by
  refine GM.of (cc := cX12_lays) (maxL := 3) (ret := none) (own := RX12) (lv := [(0, .ref (r 0)), (1, .int a1)]) (by decide) rfl rfl (Nat.le_of_ble_eq_true rfl) rfl (fun κ sz hk hR hN => ?_)
  have hin12 : ∀ w ∈ u_ws RX12 TX12 55, w ∈ wsX12_lays := by decide +kernel
  refine g_bipush (v := 24) hk dX12_lays_0 (by decide) ?_
  refine g_istore_n (lv' := [(2, .int 24), (0, .ref (r 0)), (1, .int a1)]) hk dX12_lays_2 (by decide) rfl ?_
  refine g_iload_n hk dX12_lays_3 rfl ?_
  refine g_if_lt (tgt := 36) (a := 24) hk dX12_lays_4 (by decide) rfl (fun z9 => absurd z9 (show ¬ (24 < 0) from by decide)) (fun _ => ?_)
  refine g_aload_n hk dX12_lays_7 rfl ?_
  refine gM_r0_1 hk hin12 (by decide +kernel) dX12_lays_8 ?_
  refine g_aload_n hk dX12_lays_11 rfl ?_
  refine gM_i1 (v := 0) hk hin12 (by decide +kernel) dX12_lays_12 rfl ?_
  refine g_iload_n hk dX12_lays_15 rfl ?_
  refine g_iload_n hk dX12_lays_16 rfl ?_
  refine g_ishr hk dX12_lays_17 ?_
  refine g_topi (fun y244 ey244 => ?_)
  refine g_i2b hk dX12_lays_18 rfl ?_
  refine g_topi (fun y245 ey245 => ?_)
  refine sM_0 (j := 0) hk (vp_in_iff.mpr ⟨by decide, by decide⟩) (by decide) rfl dX12_lays_19 ?_
  generalize vp_nar .byte y245 = y246
  refine g_aload_n hk dX12_lays_20 rfl ?_
  refine g_dup hk dX12_lays_21 rfl ?_
  refine gM_i1 (v := 0) hk hin12 (by decide +kernel) dX12_lays_22 rfl ?_
  refine g_iconst (v := 1) hk dX12_lays_25 (by decide) ?_
  refine g_iadd hk dX12_lays_26 ?_
  refine g_norm (v := 1) (by decide) ?_
  refine pM_i1 hk hin12 (by decide +kernel) dX12_lays_27 ?_
  refine g_iinc (v := 16) (lv' := [(2, .int 16), (0, .ref (r 0)), (1, .int a1)]) hk 0 dX12_lays_30 rfl (by decide) (by decide) rfl ?_
  refine g_goto (tgt := 3) hk dX12_lays_33 (by decide) ?_
  refine g_iload_n hk dX12_lays_3 rfl ?_
  refine g_if_lt (tgt := 36) (a := 16) hk dX12_lays_4 (by decide) rfl (fun z9 => absurd z9 (show ¬ (16 < 0) from by decide)) (fun _ => ?_)
  refine g_aload_n hk dX12_lays_7 rfl ?_
  refine gM_r0_1 hk hin12 (by decide +kernel) dX12_lays_8 ?_
  refine g_aload_n hk dX12_lays_11 rfl ?_
  refine gM_i1 (v := 1) hk hin12 (by decide +kernel) dX12_lays_12 rfl ?_
  refine g_iload_n hk dX12_lays_15 rfl ?_
  refine g_iload_n hk dX12_lays_16 rfl ?_
  refine g_ishr hk dX12_lays_17 ?_
  refine g_topi (fun y247 ey247 => ?_)
  refine g_i2b hk dX12_lays_18 rfl ?_
  refine g_topi (fun y248 ey248 => ?_)
  refine sM_0 (j := 1) hk (vp_in_iff.mpr ⟨by decide, by decide⟩) (by decide) rfl dX12_lays_19 ?_
  generalize vp_nar .byte y248 = y249
  refine g_aload_n hk dX12_lays_20 rfl ?_
  refine g_dup hk dX12_lays_21 rfl ?_
  refine gM_i1 (v := 1) hk hin12 (by decide +kernel) dX12_lays_22 rfl ?_
  refine g_iconst (v := 1) hk dX12_lays_25 (by decide) ?_
  refine g_iadd hk dX12_lays_26 ?_
  refine g_norm (v := 2) (by decide) ?_
  refine pM_i1 hk hin12 (by decide +kernel) dX12_lays_27 ?_
  refine g_iinc (v := 8) (lv' := [(2, .int 8), (0, .ref (r 0)), (1, .int a1)]) hk 0 dX12_lays_30 rfl (by decide) (by decide) rfl ?_
  refine g_goto (tgt := 3) hk dX12_lays_33 (by decide) ?_
  refine g_iload_n hk dX12_lays_3 rfl ?_
  refine g_if_lt (tgt := 36) (a := 8) hk dX12_lays_4 (by decide) rfl (fun z9 => absurd z9 (show ¬ (8 < 0) from by decide)) (fun _ => ?_)
  refine g_aload_n hk dX12_lays_7 rfl ?_
  refine gM_r0_1 hk hin12 (by decide +kernel) dX12_lays_8 ?_
  refine g_aload_n hk dX12_lays_11 rfl ?_
  refine gM_i1 (v := 2) hk hin12 (by decide +kernel) dX12_lays_12 rfl ?_
  refine g_iload_n hk dX12_lays_15 rfl ?_
  refine g_iload_n hk dX12_lays_16 rfl ?_
  refine g_ishr hk dX12_lays_17 ?_
  refine g_topi (fun y250 ey250 => ?_)
  refine g_i2b hk dX12_lays_18 rfl ?_
  refine g_topi (fun y251 ey251 => ?_)
  refine sM_0 (j := 2) hk (vp_in_iff.mpr ⟨by decide, by decide⟩) (by decide) rfl dX12_lays_19 ?_
  generalize vp_nar .byte y251 = y252
  refine g_aload_n hk dX12_lays_20 rfl ?_
  refine g_dup hk dX12_lays_21 rfl ?_
  refine gM_i1 (v := 2) hk hin12 (by decide +kernel) dX12_lays_22 rfl ?_
  refine g_iconst (v := 1) hk dX12_lays_25 (by decide) ?_
  refine g_iadd hk dX12_lays_26 ?_
  refine g_norm (v := 3) (by decide) ?_
  refine pM_i1 hk hin12 (by decide +kernel) dX12_lays_27 ?_
  refine g_iinc (v := 0) (lv' := [(2, .int 0), (0, .ref (r 0)), (1, .int a1)]) hk 0 dX12_lays_30 rfl (by decide) (by decide) rfl ?_
  refine g_goto (tgt := 3) hk dX12_lays_33 (by decide) ?_
  refine g_iload_n hk dX12_lays_3 rfl ?_
  refine g_if_lt (tgt := 36) (a := 0) hk dX12_lays_4 (by decide) rfl (fun z9 => absurd z9 (show ¬ (0 < 0) from by decide)) (fun _ => ?_)
  refine g_aload_n hk dX12_lays_7 rfl ?_
  refine gM_r0_1 hk hin12 (by decide +kernel) dX12_lays_8 ?_
  refine g_aload_n hk dX12_lays_11 rfl ?_
  refine gM_i1 (v := 3) hk hin12 (by decide +kernel) dX12_lays_12 rfl ?_
  refine g_iload_n hk dX12_lays_15 rfl ?_
  refine g_iload_n hk dX12_lays_16 rfl ?_
  refine g_ishr hk dX12_lays_17 ?_
  refine g_topi (fun y253 ey253 => ?_)
  refine g_i2b hk dX12_lays_18 rfl ?_
  refine g_topi (fun y254 ey254 => ?_)
  refine sM_0 (j := 3) hk (vp_in_iff.mpr ⟨by decide, by decide⟩) (by decide) rfl dX12_lays_19 ?_
  generalize vp_nar .byte y254 = y255
  refine g_aload_n hk dX12_lays_20 rfl ?_
  refine g_dup hk dX12_lays_21 rfl ?_
  refine gM_i1 (v := 3) hk hin12 (by decide +kernel) dX12_lays_22 rfl ?_
  refine g_iconst (v := 1) hk dX12_lays_25 (by decide) ?_
  refine g_iadd hk dX12_lays_26 ?_
  refine g_norm (v := 4) (by decide) ?_
  refine pM_i1 hk hin12 (by decide +kernel) dX12_lays_27 ?_
  refine g_iinc (v := (-8)) (lv' := [(2, .int (-8)), (0, .ref (r 0)), (1, .int a1)]) hk 0 dX12_lays_30 rfl (by decide) (by decide) rfl ?_
  refine g_goto (tgt := 3) hk dX12_lays_33 (by decide) ?_
  refine g_iload_n hk dX12_lays_3 rfl ?_
  refine g_if_lt (tgt := 36) (a := (-8)) hk dX12_lays_4 (by decide) rfl (fun _ => ?_) (fun z9 => absurd (show (-8) < 0 from by decide) z9)
  exact g_vret hk hR ⟨y246, y249, y252, y255, rfl, rfl⟩ dX12_lays_36
set_option maxHeartbeats 4000000 in
set_option maxRecDepth 100000 in
theorem m114_X12_lays (l : Launch) (D : va_G) (zt : Nat × Nat × Nat) (g : Nat → ClassId) (r : Nat → Nat) (y256 : Int32) (y257 : Int32) (y258 : Int32) (y259 : Int32) (a1 : Int32) : GM l D zt (tyM g) yX12_lays wsX12_lays ({ frames := 0, cells := 0, slots := 0, locals := 0 } : Room) [.ref (r 0), .int a1] (wM r g (upd (upd (upd (upd iM1 1 1) 1 2) 1 3) 1 4) (up3 (up3 (up3 (up3 aM1 0 0 y256) 0 1 y257) 0 2 y258) 0 3 y259) lM1) (fun v _ w' => ∃ (y262 : Int32), ∃ (y265 : Int32), ∃ (y268 : Int32), ∃ (y271 : Int32), v = none ∧ w' = wM r g (upd (upd (upd (upd (upd (upd (upd (upd iM1 1 1) 1 2) 1 3) 1 4) 1 5) 1 6) 1 7) 1 8) (up3 (up3 (up3 (up3 (up3 (up3 (up3 (up3 aM1 0 0 y256) 0 1 y257) 0 2 y258) 0 3 y259) 0 4 y262) 0 5 y265) 0 6 y268) 0 7 y271) lM1) 0 0 := by
  refine GM.of (cc := cX12_lays) (maxL := 3) (ret := none) (own := RX12) (lv := [(0, .ref (r 0)), (1, .int a1)]) (by decide) rfl rfl (Nat.le_of_ble_eq_true rfl) rfl (fun κ sz hk hR hN => ?_)
  have hin12 : ∀ w ∈ u_ws RX12 TX12 55, w ∈ wsX12_lays := by decide +kernel
  refine g_bipush (v := 24) hk dX12_lays_0 (by decide) ?_
  refine g_istore_n (lv' := [(2, .int 24), (0, .ref (r 0)), (1, .int a1)]) hk dX12_lays_2 (by decide) rfl ?_
  refine g_iload_n hk dX12_lays_3 rfl ?_
  refine g_if_lt (tgt := 36) (a := 24) hk dX12_lays_4 (by decide) rfl (fun z9 => absurd z9 (show ¬ (24 < 0) from by decide)) (fun _ => ?_)
  refine g_aload_n hk dX12_lays_7 rfl ?_
  refine gM_r0_1 hk hin12 (by decide +kernel) dX12_lays_8 ?_
  refine g_aload_n hk dX12_lays_11 rfl ?_
  refine gM_i1 (v := 4) hk hin12 (by decide +kernel) dX12_lays_12 rfl ?_
  refine g_iload_n hk dX12_lays_15 rfl ?_
  refine g_iload_n hk dX12_lays_16 rfl ?_
  refine g_ishr hk dX12_lays_17 ?_
  refine g_topi (fun y260 ey260 => ?_)
  refine g_i2b hk dX12_lays_18 rfl ?_
  refine g_topi (fun y261 ey261 => ?_)
  refine sM_0 (j := 4) hk (vp_in_iff.mpr ⟨by decide, by decide⟩) (by decide) rfl dX12_lays_19 ?_
  generalize vp_nar .byte y261 = y262
  refine g_aload_n hk dX12_lays_20 rfl ?_
  refine g_dup hk dX12_lays_21 rfl ?_
  refine gM_i1 (v := 4) hk hin12 (by decide +kernel) dX12_lays_22 rfl ?_
  refine g_iconst (v := 1) hk dX12_lays_25 (by decide) ?_
  refine g_iadd hk dX12_lays_26 ?_
  refine g_norm (v := 5) (by decide) ?_
  refine pM_i1 hk hin12 (by decide +kernel) dX12_lays_27 ?_
  refine g_iinc (v := 16) (lv' := [(2, .int 16), (0, .ref (r 0)), (1, .int a1)]) hk 0 dX12_lays_30 rfl (by decide) (by decide) rfl ?_
  refine g_goto (tgt := 3) hk dX12_lays_33 (by decide) ?_
  refine g_iload_n hk dX12_lays_3 rfl ?_
  refine g_if_lt (tgt := 36) (a := 16) hk dX12_lays_4 (by decide) rfl (fun z9 => absurd z9 (show ¬ (16 < 0) from by decide)) (fun _ => ?_)
  refine g_aload_n hk dX12_lays_7 rfl ?_
  refine gM_r0_1 hk hin12 (by decide +kernel) dX12_lays_8 ?_
  refine g_aload_n hk dX12_lays_11 rfl ?_
  refine gM_i1 (v := 5) hk hin12 (by decide +kernel) dX12_lays_12 rfl ?_
  refine g_iload_n hk dX12_lays_15 rfl ?_
  refine g_iload_n hk dX12_lays_16 rfl ?_
  refine g_ishr hk dX12_lays_17 ?_
  refine g_topi (fun y263 ey263 => ?_)
  refine g_i2b hk dX12_lays_18 rfl ?_
  refine g_topi (fun y264 ey264 => ?_)
  refine sM_0 (j := 5) hk (vp_in_iff.mpr ⟨by decide, by decide⟩) (by decide) rfl dX12_lays_19 ?_
  generalize vp_nar .byte y264 = y265
  refine g_aload_n hk dX12_lays_20 rfl ?_
  refine g_dup hk dX12_lays_21 rfl ?_
  refine gM_i1 (v := 5) hk hin12 (by decide +kernel) dX12_lays_22 rfl ?_
  refine g_iconst (v := 1) hk dX12_lays_25 (by decide) ?_
  refine g_iadd hk dX12_lays_26 ?_
  refine g_norm (v := 6) (by decide) ?_
  refine pM_i1 hk hin12 (by decide +kernel) dX12_lays_27 ?_
  refine g_iinc (v := 8) (lv' := [(2, .int 8), (0, .ref (r 0)), (1, .int a1)]) hk 0 dX12_lays_30 rfl (by decide) (by decide) rfl ?_
  refine g_goto (tgt := 3) hk dX12_lays_33 (by decide) ?_
  refine g_iload_n hk dX12_lays_3 rfl ?_
  refine g_if_lt (tgt := 36) (a := 8) hk dX12_lays_4 (by decide) rfl (fun z9 => absurd z9 (show ¬ (8 < 0) from by decide)) (fun _ => ?_)
  refine g_aload_n hk dX12_lays_7 rfl ?_
  refine gM_r0_1 hk hin12 (by decide +kernel) dX12_lays_8 ?_
  refine g_aload_n hk dX12_lays_11 rfl ?_
  refine gM_i1 (v := 6) hk hin12 (by decide +kernel) dX12_lays_12 rfl ?_
  refine g_iload_n hk dX12_lays_15 rfl ?_
  refine g_iload_n hk dX12_lays_16 rfl ?_
  refine g_ishr hk dX12_lays_17 ?_
  refine g_topi (fun y266 ey266 => ?_)
  refine g_i2b hk dX12_lays_18 rfl ?_
  refine g_topi (fun y267 ey267 => ?_)
  refine sM_0 (j := 6) hk (vp_in_iff.mpr ⟨by decide, by decide⟩) (by decide) rfl dX12_lays_19 ?_
  generalize vp_nar .byte y267 = y268
  refine g_aload_n hk dX12_lays_20 rfl ?_
  refine g_dup hk dX12_lays_21 rfl ?_
  refine gM_i1 (v := 6) hk hin12 (by decide +kernel) dX12_lays_22 rfl ?_
  refine g_iconst (v := 1) hk dX12_lays_25 (by decide) ?_
  refine g_iadd hk dX12_lays_26 ?_
  refine g_norm (v := 7) (by decide) ?_
  refine pM_i1 hk hin12 (by decide +kernel) dX12_lays_27 ?_
  refine g_iinc (v := 0) (lv' := [(2, .int 0), (0, .ref (r 0)), (1, .int a1)]) hk 0 dX12_lays_30 rfl (by decide) (by decide) rfl ?_
  refine g_goto (tgt := 3) hk dX12_lays_33 (by decide) ?_
  refine g_iload_n hk dX12_lays_3 rfl ?_
  refine g_if_lt (tgt := 36) (a := 0) hk dX12_lays_4 (by decide) rfl (fun z9 => absurd z9 (show ¬ (0 < 0) from by decide)) (fun _ => ?_)
  refine g_aload_n hk dX12_lays_7 rfl ?_
  refine gM_r0_1 hk hin12 (by decide +kernel) dX12_lays_8 ?_
  refine g_aload_n hk dX12_lays_11 rfl ?_
  refine gM_i1 (v := 7) hk hin12 (by decide +kernel) dX12_lays_12 rfl ?_
  refine g_iload_n hk dX12_lays_15 rfl ?_
  refine g_iload_n hk dX12_lays_16 rfl ?_
  refine g_ishr hk dX12_lays_17 ?_
  refine g_topi (fun y269 ey269 => ?_)
  refine g_i2b hk dX12_lays_18 rfl ?_
  refine g_topi (fun y270 ey270 => ?_)
  refine sM_0 (j := 7) hk (vp_in_iff.mpr ⟨by decide, by decide⟩) (by decide) rfl dX12_lays_19 ?_
  generalize vp_nar .byte y270 = y271
  refine g_aload_n hk dX12_lays_20 rfl ?_
  refine g_dup hk dX12_lays_21 rfl ?_
  refine gM_i1 (v := 7) hk hin12 (by decide +kernel) dX12_lays_22 rfl ?_
  refine g_iconst (v := 1) hk dX12_lays_25 (by decide) ?_
  refine g_iadd hk dX12_lays_26 ?_
  refine g_norm (v := 8) (by decide) ?_
  refine pM_i1 hk hin12 (by decide +kernel) dX12_lays_27 ?_
  refine g_iinc (v := (-8)) (lv' := [(2, .int (-8)), (0, .ref (r 0)), (1, .int a1)]) hk 0 dX12_lays_30 rfl (by decide) (by decide) rfl ?_
  refine g_goto (tgt := 3) hk dX12_lays_33 (by decide) ?_
  refine g_iload_n hk dX12_lays_3 rfl ?_
  refine g_if_lt (tgt := 36) (a := (-8)) hk dX12_lays_4 (by decide) rfl (fun _ => ?_) (fun z9 => absurd (show (-8) < 0 from by decide) z9)
  exact g_vret hk hR ⟨y262, y265, y268, y271, rfl, rfl⟩ dX12_lays_36
set_option maxHeartbeats 4000000 in
set_option maxRecDepth 100000 in
theorem m115_X12_lays (l : Launch) (D : va_G) (zt : Nat × Nat × Nat) (g : Nat → ClassId) (r : Nat → Nat) (y256 : Int32) (y257 : Int32) (y258 : Int32) (y259 : Int32) (y272 : Int32) (y273 : Int32) (y274 : Int32) (y275 : Int32) (a1 : Int32) : GM l D zt (tyM g) yX12_lays wsX12_lays ({ frames := 0, cells := 0, slots := 0, locals := 0 } : Room) [.ref (r 0), .int a1] (wM r g (upd (upd (upd (upd (upd (upd (upd (upd iM1 1 1) 1 2) 1 3) 1 4) 1 5) 1 6) 1 7) 1 8) (up3 (up3 (up3 (up3 (up3 (up3 (up3 (up3 aM1 0 0 y256) 0 1 y257) 0 2 y258) 0 3 y259) 0 4 y272) 0 5 y273) 0 6 y274) 0 7 y275) lM1) (fun v _ w' => ∃ (y278 : Int32), ∃ (y281 : Int32), ∃ (y284 : Int32), ∃ (y287 : Int32), v = none ∧ w' = wM r g (upd (upd (upd (upd (upd (upd (upd (upd (upd (upd (upd (upd iM1 1 1) 1 2) 1 3) 1 4) 1 5) 1 6) 1 7) 1 8) 1 9) 1 10) 1 11) 1 12) (up3 (up3 (up3 (up3 (up3 (up3 (up3 (up3 (up3 (up3 (up3 (up3 aM1 0 0 y256) 0 1 y257) 0 2 y258) 0 3 y259) 0 4 y272) 0 5 y273) 0 6 y274) 0 7 y275) 0 8 y278) 0 9 y281) 0 10 y284) 0 11 y287) lM1) 0 0 := by
  refine GM.of (cc := cX12_lays) (maxL := 3) (ret := none) (own := RX12) (lv := [(0, .ref (r 0)), (1, .int a1)]) (by decide) rfl rfl (Nat.le_of_ble_eq_true rfl) rfl (fun κ sz hk hR hN => ?_)
  have hin12 : ∀ w ∈ u_ws RX12 TX12 55, w ∈ wsX12_lays := by decide +kernel
  refine g_bipush (v := 24) hk dX12_lays_0 (by decide) ?_
  refine g_istore_n (lv' := [(2, .int 24), (0, .ref (r 0)), (1, .int a1)]) hk dX12_lays_2 (by decide) rfl ?_
  refine g_iload_n hk dX12_lays_3 rfl ?_
  refine g_if_lt (tgt := 36) (a := 24) hk dX12_lays_4 (by decide) rfl (fun z9 => absurd z9 (show ¬ (24 < 0) from by decide)) (fun _ => ?_)
  refine g_aload_n hk dX12_lays_7 rfl ?_
  refine gM_r0_1 hk hin12 (by decide +kernel) dX12_lays_8 ?_
  refine g_aload_n hk dX12_lays_11 rfl ?_
  refine gM_i1 (v := 8) hk hin12 (by decide +kernel) dX12_lays_12 rfl ?_
  refine g_iload_n hk dX12_lays_15 rfl ?_
  refine g_iload_n hk dX12_lays_16 rfl ?_
  refine g_ishr hk dX12_lays_17 ?_
  refine g_topi (fun y276 ey276 => ?_)
  refine g_i2b hk dX12_lays_18 rfl ?_
  refine g_topi (fun y277 ey277 => ?_)
  refine sM_0 (j := 8) hk (vp_in_iff.mpr ⟨by decide, by decide⟩) (by decide) rfl dX12_lays_19 ?_
  generalize vp_nar .byte y277 = y278
  refine g_aload_n hk dX12_lays_20 rfl ?_
  refine g_dup hk dX12_lays_21 rfl ?_
  refine gM_i1 (v := 8) hk hin12 (by decide +kernel) dX12_lays_22 rfl ?_
  refine g_iconst (v := 1) hk dX12_lays_25 (by decide) ?_
  refine g_iadd hk dX12_lays_26 ?_
  refine g_norm (v := 9) (by decide) ?_
  refine pM_i1 hk hin12 (by decide +kernel) dX12_lays_27 ?_
  refine g_iinc (v := 16) (lv' := [(2, .int 16), (0, .ref (r 0)), (1, .int a1)]) hk 0 dX12_lays_30 rfl (by decide) (by decide) rfl ?_
  refine g_goto (tgt := 3) hk dX12_lays_33 (by decide) ?_
  refine g_iload_n hk dX12_lays_3 rfl ?_
  refine g_if_lt (tgt := 36) (a := 16) hk dX12_lays_4 (by decide) rfl (fun z9 => absurd z9 (show ¬ (16 < 0) from by decide)) (fun _ => ?_)
  refine g_aload_n hk dX12_lays_7 rfl ?_
  refine gM_r0_1 hk hin12 (by decide +kernel) dX12_lays_8 ?_
  refine g_aload_n hk dX12_lays_11 rfl ?_
  refine gM_i1 (v := 9) hk hin12 (by decide +kernel) dX12_lays_12 rfl ?_
  refine g_iload_n hk dX12_lays_15 rfl ?_
  refine g_iload_n hk dX12_lays_16 rfl ?_
  refine g_ishr hk dX12_lays_17 ?_
  refine g_topi (fun y279 ey279 => ?_)
  refine g_i2b hk dX12_lays_18 rfl ?_
  refine g_topi (fun y280 ey280 => ?_)
  refine sM_0 (j := 9) hk (vp_in_iff.mpr ⟨by decide, by decide⟩) (by decide) rfl dX12_lays_19 ?_
  generalize vp_nar .byte y280 = y281
  refine g_aload_n hk dX12_lays_20 rfl ?_
  refine g_dup hk dX12_lays_21 rfl ?_
  refine gM_i1 (v := 9) hk hin12 (by decide +kernel) dX12_lays_22 rfl ?_
  refine g_iconst (v := 1) hk dX12_lays_25 (by decide) ?_
  refine g_iadd hk dX12_lays_26 ?_
  refine g_norm (v := 10) (by decide) ?_
  refine pM_i1 hk hin12 (by decide +kernel) dX12_lays_27 ?_
  refine g_iinc (v := 8) (lv' := [(2, .int 8), (0, .ref (r 0)), (1, .int a1)]) hk 0 dX12_lays_30 rfl (by decide) (by decide) rfl ?_
  refine g_goto (tgt := 3) hk dX12_lays_33 (by decide) ?_
  refine g_iload_n hk dX12_lays_3 rfl ?_
  refine g_if_lt (tgt := 36) (a := 8) hk dX12_lays_4 (by decide) rfl (fun z9 => absurd z9 (show ¬ (8 < 0) from by decide)) (fun _ => ?_)
  refine g_aload_n hk dX12_lays_7 rfl ?_
  refine gM_r0_1 hk hin12 (by decide +kernel) dX12_lays_8 ?_
  refine g_aload_n hk dX12_lays_11 rfl ?_
  refine gM_i1 (v := 10) hk hin12 (by decide +kernel) dX12_lays_12 rfl ?_
  refine g_iload_n hk dX12_lays_15 rfl ?_
  refine g_iload_n hk dX12_lays_16 rfl ?_
  refine g_ishr hk dX12_lays_17 ?_
  refine g_topi (fun y282 ey282 => ?_)
  refine g_i2b hk dX12_lays_18 rfl ?_
  refine g_topi (fun y283 ey283 => ?_)
  refine sM_0 (j := 10) hk (vp_in_iff.mpr ⟨by decide, by decide⟩) (by decide) rfl dX12_lays_19 ?_
  generalize vp_nar .byte y283 = y284
  refine g_aload_n hk dX12_lays_20 rfl ?_
  refine g_dup hk dX12_lays_21 rfl ?_
  refine gM_i1 (v := 10) hk hin12 (by decide +kernel) dX12_lays_22 rfl ?_
  refine g_iconst (v := 1) hk dX12_lays_25 (by decide) ?_
  refine g_iadd hk dX12_lays_26 ?_
  refine g_norm (v := 11) (by decide) ?_
  refine pM_i1 hk hin12 (by decide +kernel) dX12_lays_27 ?_
  refine g_iinc (v := 0) (lv' := [(2, .int 0), (0, .ref (r 0)), (1, .int a1)]) hk 0 dX12_lays_30 rfl (by decide) (by decide) rfl ?_
  refine g_goto (tgt := 3) hk dX12_lays_33 (by decide) ?_
  refine g_iload_n hk dX12_lays_3 rfl ?_
  refine g_if_lt (tgt := 36) (a := 0) hk dX12_lays_4 (by decide) rfl (fun z9 => absurd z9 (show ¬ (0 < 0) from by decide)) (fun _ => ?_)
  refine g_aload_n hk dX12_lays_7 rfl ?_
  refine gM_r0_1 hk hin12 (by decide +kernel) dX12_lays_8 ?_
  refine g_aload_n hk dX12_lays_11 rfl ?_
  refine gM_i1 (v := 11) hk hin12 (by decide +kernel) dX12_lays_12 rfl ?_
  refine g_iload_n hk dX12_lays_15 rfl ?_
  refine g_iload_n hk dX12_lays_16 rfl ?_
  refine g_ishr hk dX12_lays_17 ?_
  refine g_topi (fun y285 ey285 => ?_)
  refine g_i2b hk dX12_lays_18 rfl ?_
  refine g_topi (fun y286 ey286 => ?_)
  refine sM_0 (j := 11) hk (vp_in_iff.mpr ⟨by decide, by decide⟩) (by decide) rfl dX12_lays_19 ?_
  generalize vp_nar .byte y286 = y287
  refine g_aload_n hk dX12_lays_20 rfl ?_
  refine g_dup hk dX12_lays_21 rfl ?_
  refine gM_i1 (v := 11) hk hin12 (by decide +kernel) dX12_lays_22 rfl ?_
  refine g_iconst (v := 1) hk dX12_lays_25 (by decide) ?_
  refine g_iadd hk dX12_lays_26 ?_
  refine g_norm (v := 12) (by decide) ?_
  refine pM_i1 hk hin12 (by decide +kernel) dX12_lays_27 ?_
  refine g_iinc (v := (-8)) (lv' := [(2, .int (-8)), (0, .ref (r 0)), (1, .int a1)]) hk 0 dX12_lays_30 rfl (by decide) (by decide) rfl ?_
  refine g_goto (tgt := 3) hk dX12_lays_33 (by decide) ?_
  refine g_iload_n hk dX12_lays_3 rfl ?_
  refine g_if_lt (tgt := 36) (a := (-8)) hk dX12_lays_4 (by decide) rfl (fun _ => ?_) (fun z9 => absurd (show (-8) < 0 from by decide) z9)
  exact g_vret hk hR ⟨y278, y281, y284, y287, rfl, rfl⟩ dX12_lays_36
set_option maxHeartbeats 4000000 in
set_option maxRecDepth 100000 in
theorem m116_X12_lays (l : Launch) (D : va_G) (zt : Nat × Nat × Nat) (g : Nat → ClassId) (r : Nat → Nat) (y256 : Int32) (y257 : Int32) (y258 : Int32) (y259 : Int32) (y272 : Int32) (y273 : Int32) (y274 : Int32) (y275 : Int32) (y288 : Int32) (y289 : Int32) (y290 : Int32) (y291 : Int32) (a1 : Int32) : GM l D zt (tyM g) yX12_lays wsX12_lays ({ frames := 0, cells := 0, slots := 0, locals := 0 } : Room) [.ref (r 0), .int a1] (wM r g (upd (upd (upd (upd (upd (upd (upd (upd (upd (upd (upd (upd iM1 1 1) 1 2) 1 3) 1 4) 1 5) 1 6) 1 7) 1 8) 1 9) 1 10) 1 11) 1 12) (up3 (up3 (up3 (up3 (up3 (up3 (up3 (up3 (up3 (up3 (up3 (up3 aM1 0 0 y256) 0 1 y257) 0 2 y258) 0 3 y259) 0 4 y272) 0 5 y273) 0 6 y274) 0 7 y275) 0 8 y288) 0 9 y289) 0 10 y290) 0 11 y291) lM1) (fun v _ w' => ∃ (y294 : Int32), ∃ (y297 : Int32), ∃ (y300 : Int32), ∃ (y303 : Int32), v = none ∧ w' = wM r g (upd (upd (upd (upd (upd (upd (upd (upd (upd (upd (upd (upd (upd (upd (upd (upd iM1 1 1) 1 2) 1 3) 1 4) 1 5) 1 6) 1 7) 1 8) 1 9) 1 10) 1 11) 1 12) 1 13) 1 14) 1 15) 1 16) (up3 (up3 (up3 (up3 (up3 (up3 (up3 (up3 (up3 (up3 (up3 (up3 (up3 (up3 (up3 (up3 aM1 0 0 y256) 0 1 y257) 0 2 y258) 0 3 y259) 0 4 y272) 0 5 y273) 0 6 y274) 0 7 y275) 0 8 y288) 0 9 y289) 0 10 y290) 0 11 y291) 0 12 y294) 0 13 y297) 0 14 y300) 0 15 y303) lM1) 0 0 := by
  refine GM.of (cc := cX12_lays) (maxL := 3) (ret := none) (own := RX12) (lv := [(0, .ref (r 0)), (1, .int a1)]) (by decide) rfl rfl (Nat.le_of_ble_eq_true rfl) rfl (fun κ sz hk hR hN => ?_)
  have hin12 : ∀ w ∈ u_ws RX12 TX12 55, w ∈ wsX12_lays := by decide +kernel
  refine g_bipush (v := 24) hk dX12_lays_0 (by decide) ?_
  refine g_istore_n (lv' := [(2, .int 24), (0, .ref (r 0)), (1, .int a1)]) hk dX12_lays_2 (by decide) rfl ?_
  refine g_iload_n hk dX12_lays_3 rfl ?_
  refine g_if_lt (tgt := 36) (a := 24) hk dX12_lays_4 (by decide) rfl (fun z9 => absurd z9 (show ¬ (24 < 0) from by decide)) (fun _ => ?_)
  refine g_aload_n hk dX12_lays_7 rfl ?_
  refine gM_r0_1 hk hin12 (by decide +kernel) dX12_lays_8 ?_
  refine g_aload_n hk dX12_lays_11 rfl ?_
  refine gM_i1 (v := 12) hk hin12 (by decide +kernel) dX12_lays_12 rfl ?_
  refine g_iload_n hk dX12_lays_15 rfl ?_
  refine g_iload_n hk dX12_lays_16 rfl ?_
  refine g_ishr hk dX12_lays_17 ?_
  refine g_topi (fun y292 ey292 => ?_)
  refine g_i2b hk dX12_lays_18 rfl ?_
  refine g_topi (fun y293 ey293 => ?_)
  refine sM_0 (j := 12) hk (vp_in_iff.mpr ⟨by decide, by decide⟩) (by decide) rfl dX12_lays_19 ?_
  generalize vp_nar .byte y293 = y294
  refine g_aload_n hk dX12_lays_20 rfl ?_
  refine g_dup hk dX12_lays_21 rfl ?_
  refine gM_i1 (v := 12) hk hin12 (by decide +kernel) dX12_lays_22 rfl ?_
  refine g_iconst (v := 1) hk dX12_lays_25 (by decide) ?_
  refine g_iadd hk dX12_lays_26 ?_
  refine g_norm (v := 13) (by decide) ?_
  refine pM_i1 hk hin12 (by decide +kernel) dX12_lays_27 ?_
  refine g_iinc (v := 16) (lv' := [(2, .int 16), (0, .ref (r 0)), (1, .int a1)]) hk 0 dX12_lays_30 rfl (by decide) (by decide) rfl ?_
  refine g_goto (tgt := 3) hk dX12_lays_33 (by decide) ?_
  refine g_iload_n hk dX12_lays_3 rfl ?_
  refine g_if_lt (tgt := 36) (a := 16) hk dX12_lays_4 (by decide) rfl (fun z9 => absurd z9 (show ¬ (16 < 0) from by decide)) (fun _ => ?_)
  refine g_aload_n hk dX12_lays_7 rfl ?_
  refine gM_r0_1 hk hin12 (by decide +kernel) dX12_lays_8 ?_
  refine g_aload_n hk dX12_lays_11 rfl ?_
  refine gM_i1 (v := 13) hk hin12 (by decide +kernel) dX12_lays_12 rfl ?_
  refine g_iload_n hk dX12_lays_15 rfl ?_
  refine g_iload_n hk dX12_lays_16 rfl ?_
  refine g_ishr hk dX12_lays_17 ?_
  refine g_topi (fun y295 ey295 => ?_)
  refine g_i2b hk dX12_lays_18 rfl ?_
  refine g_topi (fun y296 ey296 => ?_)
  refine sM_0 (j := 13) hk (vp_in_iff.mpr ⟨by decide, by decide⟩) (by decide) rfl dX12_lays_19 ?_
  generalize vp_nar .byte y296 = y297
  refine g_aload_n hk dX12_lays_20 rfl ?_
  refine g_dup hk dX12_lays_21 rfl ?_
  refine gM_i1 (v := 13) hk hin12 (by decide +kernel) dX12_lays_22 rfl ?_
  refine g_iconst (v := 1) hk dX12_lays_25 (by decide) ?_
  refine g_iadd hk dX12_lays_26 ?_
  refine g_norm (v := 14) (by decide) ?_
  refine pM_i1 hk hin12 (by decide +kernel) dX12_lays_27 ?_
  refine g_iinc (v := 8) (lv' := [(2, .int 8), (0, .ref (r 0)), (1, .int a1)]) hk 0 dX12_lays_30 rfl (by decide) (by decide) rfl ?_
  refine g_goto (tgt := 3) hk dX12_lays_33 (by decide) ?_
  refine g_iload_n hk dX12_lays_3 rfl ?_
  refine g_if_lt (tgt := 36) (a := 8) hk dX12_lays_4 (by decide) rfl (fun z9 => absurd z9 (show ¬ (8 < 0) from by decide)) (fun _ => ?_)
  refine g_aload_n hk dX12_lays_7 rfl ?_
  refine gM_r0_1 hk hin12 (by decide +kernel) dX12_lays_8 ?_
  refine g_aload_n hk dX12_lays_11 rfl ?_
  refine gM_i1 (v := 14) hk hin12 (by decide +kernel) dX12_lays_12 rfl ?_
  refine g_iload_n hk dX12_lays_15 rfl ?_
  refine g_iload_n hk dX12_lays_16 rfl ?_
  refine g_ishr hk dX12_lays_17 ?_
  refine g_topi (fun y298 ey298 => ?_)
  refine g_i2b hk dX12_lays_18 rfl ?_
  refine g_topi (fun y299 ey299 => ?_)
  refine sM_0 (j := 14) hk (vp_in_iff.mpr ⟨by decide, by decide⟩) (by decide) rfl dX12_lays_19 ?_
  generalize vp_nar .byte y299 = y300
  refine g_aload_n hk dX12_lays_20 rfl ?_
  refine g_dup hk dX12_lays_21 rfl ?_
  refine gM_i1 (v := 14) hk hin12 (by decide +kernel) dX12_lays_22 rfl ?_
  refine g_iconst (v := 1) hk dX12_lays_25 (by decide) ?_
  refine g_iadd hk dX12_lays_26 ?_
  refine g_norm (v := 15) (by decide) ?_
  refine pM_i1 hk hin12 (by decide +kernel) dX12_lays_27 ?_
  refine g_iinc (v := 0) (lv' := [(2, .int 0), (0, .ref (r 0)), (1, .int a1)]) hk 0 dX12_lays_30 rfl (by decide) (by decide) rfl ?_
  refine g_goto (tgt := 3) hk dX12_lays_33 (by decide) ?_
  refine g_iload_n hk dX12_lays_3 rfl ?_
  refine g_if_lt (tgt := 36) (a := 0) hk dX12_lays_4 (by decide) rfl (fun z9 => absurd z9 (show ¬ (0 < 0) from by decide)) (fun _ => ?_)
  refine g_aload_n hk dX12_lays_7 rfl ?_
  refine gM_r0_1 hk hin12 (by decide +kernel) dX12_lays_8 ?_
  refine g_aload_n hk dX12_lays_11 rfl ?_
  refine gM_i1 (v := 15) hk hin12 (by decide +kernel) dX12_lays_12 rfl ?_
  refine g_iload_n hk dX12_lays_15 rfl ?_
  refine g_iload_n hk dX12_lays_16 rfl ?_
  refine g_ishr hk dX12_lays_17 ?_
  refine g_topi (fun y301 ey301 => ?_)
  refine g_i2b hk dX12_lays_18 rfl ?_
  refine g_topi (fun y302 ey302 => ?_)
  refine sM_0 (j := 15) hk (vp_in_iff.mpr ⟨by decide, by decide⟩) (by decide) rfl dX12_lays_19 ?_
  generalize vp_nar .byte y302 = y303
  refine g_aload_n hk dX12_lays_20 rfl ?_
  refine g_dup hk dX12_lays_21 rfl ?_
  refine gM_i1 (v := 15) hk hin12 (by decide +kernel) dX12_lays_22 rfl ?_
  refine g_iconst (v := 1) hk dX12_lays_25 (by decide) ?_
  refine g_iadd hk dX12_lays_26 ?_
  refine g_norm (v := 16) (by decide) ?_
  refine pM_i1 hk hin12 (by decide +kernel) dX12_lays_27 ?_
  refine g_iinc (v := (-8)) (lv' := [(2, .int (-8)), (0, .ref (r 0)), (1, .int a1)]) hk 0 dX12_lays_30 rfl (by decide) (by decide) rfl ?_
  refine g_goto (tgt := 3) hk dX12_lays_33 (by decide) ?_
  refine g_iload_n hk dX12_lays_3 rfl ?_
  refine g_if_lt (tgt := 36) (a := (-8)) hk dX12_lays_4 (by decide) rfl (fun _ => ?_) (fun z9 => absurd (show (-8) < 0 from by decide) z9)
  exact g_vret hk hR ⟨y294, y297, y300, y303, rfl, rfl⟩ dX12_lays_36
set_option maxHeartbeats 4000000 in
set_option maxRecDepth 100000 in
theorem m117_X12_lays (l : Launch) (D : va_G) (zt : Nat × Nat × Nat) (g : Nat → ClassId) (r : Nat → Nat) (y256 : Int32) (y257 : Int32) (y258 : Int32) (y259 : Int32) (y272 : Int32) (y273 : Int32) (y274 : Int32) (y275 : Int32) (y288 : Int32) (y289 : Int32) (y290 : Int32) (y291 : Int32) (y304 : Int32) (y305 : Int32) (y306 : Int32) (y307 : Int32) (a1 : Int32) : GM l D zt (tyM g) yX12_lays wsX12_lays ({ frames := 0, cells := 0, slots := 0, locals := 0 } : Room) [.ref (r 0), .int a1] (wM r g (upd (upd (upd (upd (upd (upd (upd (upd (upd (upd (upd (upd (upd (upd (upd (upd iM1 1 1) 1 2) 1 3) 1 4) 1 5) 1 6) 1 7) 1 8) 1 9) 1 10) 1 11) 1 12) 1 13) 1 14) 1 15) 1 16) (up3 (up3 (up3 (up3 (up3 (up3 (up3 (up3 (up3 (up3 (up3 (up3 (up3 (up3 (up3 (up3 aM1 0 0 y256) 0 1 y257) 0 2 y258) 0 3 y259) 0 4 y272) 0 5 y273) 0 6 y274) 0 7 y275) 0 8 y288) 0 9 y289) 0 10 y290) 0 11 y291) 0 12 y304) 0 13 y305) 0 14 y306) 0 15 y307) lM1) (fun v _ w' => ∃ (y310 : Int32), ∃ (y313 : Int32), ∃ (y316 : Int32), ∃ (y319 : Int32), v = none ∧ w' = wM r g (upd (upd (upd (upd (upd (upd (upd (upd (upd (upd (upd (upd (upd (upd (upd (upd (upd (upd (upd (upd iM1 1 1) 1 2) 1 3) 1 4) 1 5) 1 6) 1 7) 1 8) 1 9) 1 10) 1 11) 1 12) 1 13) 1 14) 1 15) 1 16) 1 17) 1 18) 1 19) 1 20) (up3 (up3 (up3 (up3 (up3 (up3 (up3 (up3 (up3 (up3 (up3 (up3 (up3 (up3 (up3 (up3 (up3 (up3 (up3 (up3 aM1 0 0 y256) 0 1 y257) 0 2 y258) 0 3 y259) 0 4 y272) 0 5 y273) 0 6 y274) 0 7 y275) 0 8 y288) 0 9 y289) 0 10 y290) 0 11 y291) 0 12 y304) 0 13 y305) 0 14 y306) 0 15 y307) 0 16 y310) 0 17 y313) 0 18 y316) 0 19 y319) lM1) 0 0 := by
  refine GM.of (cc := cX12_lays) (maxL := 3) (ret := none) (own := RX12) (lv := [(0, .ref (r 0)), (1, .int a1)]) (by decide) rfl rfl (Nat.le_of_ble_eq_true rfl) rfl (fun κ sz hk hR hN => ?_)
  have hin12 : ∀ w ∈ u_ws RX12 TX12 55, w ∈ wsX12_lays := by decide +kernel
  refine g_bipush (v := 24) hk dX12_lays_0 (by decide) ?_
  refine g_istore_n (lv' := [(2, .int 24), (0, .ref (r 0)), (1, .int a1)]) hk dX12_lays_2 (by decide) rfl ?_
  refine g_iload_n hk dX12_lays_3 rfl ?_
  refine g_if_lt (tgt := 36) (a := 24) hk dX12_lays_4 (by decide) rfl (fun z9 => absurd z9 (show ¬ (24 < 0) from by decide)) (fun _ => ?_)
  refine g_aload_n hk dX12_lays_7 rfl ?_
  refine gM_r0_1 hk hin12 (by decide +kernel) dX12_lays_8 ?_
  refine g_aload_n hk dX12_lays_11 rfl ?_
  refine gM_i1 (v := 16) hk hin12 (by decide +kernel) dX12_lays_12 rfl ?_
  refine g_iload_n hk dX12_lays_15 rfl ?_
  refine g_iload_n hk dX12_lays_16 rfl ?_
  refine g_ishr hk dX12_lays_17 ?_
  refine g_topi (fun y308 ey308 => ?_)
  refine g_i2b hk dX12_lays_18 rfl ?_
  refine g_topi (fun y309 ey309 => ?_)
  refine sM_0 (j := 16) hk (vp_in_iff.mpr ⟨by decide, by decide⟩) (by decide) rfl dX12_lays_19 ?_
  generalize vp_nar .byte y309 = y310
  refine g_aload_n hk dX12_lays_20 rfl ?_
  refine g_dup hk dX12_lays_21 rfl ?_
  refine gM_i1 (v := 16) hk hin12 (by decide +kernel) dX12_lays_22 rfl ?_
  refine g_iconst (v := 1) hk dX12_lays_25 (by decide) ?_
  refine g_iadd hk dX12_lays_26 ?_
  refine g_norm (v := 17) (by decide) ?_
  refine pM_i1 hk hin12 (by decide +kernel) dX12_lays_27 ?_
  refine g_iinc (v := 16) (lv' := [(2, .int 16), (0, .ref (r 0)), (1, .int a1)]) hk 0 dX12_lays_30 rfl (by decide) (by decide) rfl ?_
  refine g_goto (tgt := 3) hk dX12_lays_33 (by decide) ?_
  refine g_iload_n hk dX12_lays_3 rfl ?_
  refine g_if_lt (tgt := 36) (a := 16) hk dX12_lays_4 (by decide) rfl (fun z9 => absurd z9 (show ¬ (16 < 0) from by decide)) (fun _ => ?_)
  refine g_aload_n hk dX12_lays_7 rfl ?_
  refine gM_r0_1 hk hin12 (by decide +kernel) dX12_lays_8 ?_
  refine g_aload_n hk dX12_lays_11 rfl ?_
  refine gM_i1 (v := 17) hk hin12 (by decide +kernel) dX12_lays_12 rfl ?_
  refine g_iload_n hk dX12_lays_15 rfl ?_
  refine g_iload_n hk dX12_lays_16 rfl ?_
  refine g_ishr hk dX12_lays_17 ?_
  refine g_topi (fun y311 ey311 => ?_)
  refine g_i2b hk dX12_lays_18 rfl ?_
  refine g_topi (fun y312 ey312 => ?_)
  refine sM_0 (j := 17) hk (vp_in_iff.mpr ⟨by decide, by decide⟩) (by decide) rfl dX12_lays_19 ?_
  generalize vp_nar .byte y312 = y313
  refine g_aload_n hk dX12_lays_20 rfl ?_
  refine g_dup hk dX12_lays_21 rfl ?_
  refine gM_i1 (v := 17) hk hin12 (by decide +kernel) dX12_lays_22 rfl ?_
  refine g_iconst (v := 1) hk dX12_lays_25 (by decide) ?_
  refine g_iadd hk dX12_lays_26 ?_
  refine g_norm (v := 18) (by decide) ?_
  refine pM_i1 hk hin12 (by decide +kernel) dX12_lays_27 ?_
  refine g_iinc (v := 8) (lv' := [(2, .int 8), (0, .ref (r 0)), (1, .int a1)]) hk 0 dX12_lays_30 rfl (by decide) (by decide) rfl ?_
  refine g_goto (tgt := 3) hk dX12_lays_33 (by decide) ?_
  refine g_iload_n hk dX12_lays_3 rfl ?_
  refine g_if_lt (tgt := 36) (a := 8) hk dX12_lays_4 (by decide) rfl (fun z9 => absurd z9 (show ¬ (8 < 0) from by decide)) (fun _ => ?_)
  refine g_aload_n hk dX12_lays_7 rfl ?_
  refine gM_r0_1 hk hin12 (by decide +kernel) dX12_lays_8 ?_
  refine g_aload_n hk dX12_lays_11 rfl ?_
  refine gM_i1 (v := 18) hk hin12 (by decide +kernel) dX12_lays_12 rfl ?_
  refine g_iload_n hk dX12_lays_15 rfl ?_
  refine g_iload_n hk dX12_lays_16 rfl ?_
  refine g_ishr hk dX12_lays_17 ?_
  refine g_topi (fun y314 ey314 => ?_)
  refine g_i2b hk dX12_lays_18 rfl ?_
  refine g_topi (fun y315 ey315 => ?_)
  refine sM_0 (j := 18) hk (vp_in_iff.mpr ⟨by decide, by decide⟩) (by decide) rfl dX12_lays_19 ?_
  generalize vp_nar .byte y315 = y316
  refine g_aload_n hk dX12_lays_20 rfl ?_
  refine g_dup hk dX12_lays_21 rfl ?_
  refine gM_i1 (v := 18) hk hin12 (by decide +kernel) dX12_lays_22 rfl ?_
  refine g_iconst (v := 1) hk dX12_lays_25 (by decide) ?_
  refine g_iadd hk dX12_lays_26 ?_
  refine g_norm (v := 19) (by decide) ?_
  refine pM_i1 hk hin12 (by decide +kernel) dX12_lays_27 ?_
  refine g_iinc (v := 0) (lv' := [(2, .int 0), (0, .ref (r 0)), (1, .int a1)]) hk 0 dX12_lays_30 rfl (by decide) (by decide) rfl ?_
  refine g_goto (tgt := 3) hk dX12_lays_33 (by decide) ?_
  refine g_iload_n hk dX12_lays_3 rfl ?_
  refine g_if_lt (tgt := 36) (a := 0) hk dX12_lays_4 (by decide) rfl (fun z9 => absurd z9 (show ¬ (0 < 0) from by decide)) (fun _ => ?_)
  refine g_aload_n hk dX12_lays_7 rfl ?_
  refine gM_r0_1 hk hin12 (by decide +kernel) dX12_lays_8 ?_
  refine g_aload_n hk dX12_lays_11 rfl ?_
  refine gM_i1 (v := 19) hk hin12 (by decide +kernel) dX12_lays_12 rfl ?_
  refine g_iload_n hk dX12_lays_15 rfl ?_
  refine g_iload_n hk dX12_lays_16 rfl ?_
  refine g_ishr hk dX12_lays_17 ?_
  refine g_topi (fun y317 ey317 => ?_)
  refine g_i2b hk dX12_lays_18 rfl ?_
  refine g_topi (fun y318 ey318 => ?_)
  refine sM_0 (j := 19) hk (vp_in_iff.mpr ⟨by decide, by decide⟩) (by decide) rfl dX12_lays_19 ?_
  generalize vp_nar .byte y318 = y319
  refine g_aload_n hk dX12_lays_20 rfl ?_
  refine g_dup hk dX12_lays_21 rfl ?_
  refine gM_i1 (v := 19) hk hin12 (by decide +kernel) dX12_lays_22 rfl ?_
  refine g_iconst (v := 1) hk dX12_lays_25 (by decide) ?_
  refine g_iadd hk dX12_lays_26 ?_
  refine g_norm (v := 20) (by decide) ?_
  refine pM_i1 hk hin12 (by decide +kernel) dX12_lays_27 ?_
  refine g_iinc (v := (-8)) (lv' := [(2, .int (-8)), (0, .ref (r 0)), (1, .int a1)]) hk 0 dX12_lays_30 rfl (by decide) (by decide) rfl ?_
  refine g_goto (tgt := 3) hk dX12_lays_33 (by decide) ?_
  refine g_iload_n hk dX12_lays_3 rfl ?_
  refine g_if_lt (tgt := 36) (a := (-8)) hk dX12_lays_4 (by decide) rfl (fun _ => ?_) (fun z9 => absurd (show (-8) < 0 from by decide) z9)
  exact g_vret hk hR ⟨y310, y313, y316, y319, rfl, rfl⟩ dX12_lays_36
set_option maxHeartbeats 4000000 in
set_option maxRecDepth 100000 in
theorem m118_X12_feed (l : Launch) (D : va_G) (zt : Nat × Nat × Nat) (g : Nat → ClassId) (r : Nat → Nat) (a1 : Int32) (a2 : Int32) (a3 : Int32) (a4 : Int32) (a5 : Int32) : GM l D zt (tyM g) yX12_feed wsX12_feed ({ frames := 1, cells := 0, slots := 0, locals := 22 } : Room) [.ref (r 0), .int a1, .int a2, .int a3, .int a4, .int a5] (wM r g iM1 aM1 lM1) (fun v _ w' => ∃ (y256 : Int32), ∃ (y257 : Int32), ∃ (y258 : Int32), ∃ (y259 : Int32), ∃ (y272 : Int32), ∃ (y273 : Int32), ∃ (y274 : Int32), ∃ (y275 : Int32), ∃ (y288 : Int32), ∃ (y289 : Int32), ∃ (y290 : Int32), ∃ (y291 : Int32), ∃ (y304 : Int32), ∃ (y305 : Int32), ∃ (y306 : Int32), ∃ (y307 : Int32), ∃ (y320 : Int32), ∃ (y321 : Int32), ∃ (y322 : Int32), ∃ (y323 : Int32), v = some (.int 20) ∧ w' = wM r g (upd (upd (upd (upd (upd (upd (upd (upd (upd (upd (upd (upd (upd (upd (upd (upd (upd (upd (upd (upd iM1 1 1) 1 2) 1 3) 1 4) 1 5) 1 6) 1 7) 1 8) 1 9) 1 10) 1 11) 1 12) 1 13) 1 14) 1 15) 1 16) 1 17) 1 18) 1 19) 1 20) (up3 (up3 (up3 (up3 (up3 (up3 (up3 (up3 (up3 (up3 (up3 (up3 (up3 (up3 (up3 (up3 (up3 (up3 (up3 (up3 aM1 0 0 y256) 0 1 y257) 0 2 y258) 0 3 y259) 0 4 y272) 0 5 y273) 0 6 y274) 0 7 y275) 0 8 y288) 0 9 y289) 0 10 y290) 0 11 y291) 0 12 y304) 0 13 y305) 0 14 y306) 0 15 y307) 0 16 y320) 0 17 y321) 0 18 y322) 0 19 y323) lM1) 0 0 := by
  refine GM.of (cc := cX12_feed) (maxL := 6) (ret := (some .int)) (own := RX12) (lv := [(0, .ref (r 0)), (1, .int a1), (2, .int a2), (3, .int a3), (4, .int a4), (5, .int a5)]) (by decide) rfl rfl (Nat.le_of_ble_eq_true rfl) rfl (fun κ sz hk hR hN => ?_)
  have hin12 : ∀ w ∈ u_ws RX12 TX12 55, w ∈ wsX12_feed := by decide +kernel
  refine g_aload_n hk dX12_feed_0 rfl ?_
  refine gM_i1 (v := 0) hk hin12 (by decide +kernel) dX12_feed_1 rfl ?_
  refine g_bipush (v := 20) hk dX12_feed_4 (by decide) ?_
  refine g_iadd hk dX12_feed_6 ?_
  refine g_norm (v := 20) (by decide) ?_
  refine g_sipush (v := 2000) hk dX12_feed_7 (by decide) ?_
  refine g_icmp_le (tgt := 15) (a := 20) (b := 2000) hk dX12_feed_10 (by decide) rfl rfl (fun _ => ?_) (fun z9 => absurd (show 20 ≤ 2000 from by decide) z9)
  refine g_aload_n hk dX12_feed_15 rfl ?_
  refine g_iload_n hk dX12_feed_16 rfl ?_
  refine g_callV hk (m113_X12_lays l D zt g r a1) (SP.same _) (fun _ h => h) gX12_feed_X12_lays rfl rfl rfl (by decide +kernel) ⟨Nat.le_of_ble_eq_true rfl, Nat.le_of_ble_eq_true rfl⟩ 0 rfl rfl rfl rfl (Nat.le_of_ble_eq_true rfl) ⟨Nat.le_of_ble_eq_true rfl, Nat.le_of_ble_eq_true rfl⟩ dX12_feed_17 (fun v ty' w' hp hk' => ?_)
  obtain ⟨y256, y257, y258, y259, rfl, rfl⟩ := hp
  show GW κ 6 0 0 (wM r g (upd (upd (upd (upd iM1 1 1) 1 2) 1 3) 1 4) (up3 (up3 (up3 (up3 aM1 0 0 y256) 0 1 y257) 0 2 y258) 0 3 y259) lM1) 20 [(0, .ref (r 0)), (1, .int a1), (2, .int a2), (3, .int a3), (4, .int a4), (5, .int a5)] []
  refine g_aload_n hk dX12_feed_20 rfl ?_
  refine g_iload_n hk dX12_feed_21 rfl ?_
  refine g_callV hk (m114_X12_lays l D zt g r y256 y257 y258 y259 a2) (SP.same _) (fun _ h => h) gX12_feed_X12_lays rfl rfl rfl (by decide +kernel) ⟨Nat.le_of_ble_eq_true rfl, Nat.le_of_ble_eq_true rfl⟩ 0 rfl rfl rfl rfl (Nat.le_of_ble_eq_true rfl) ⟨Nat.le_of_ble_eq_true rfl, Nat.le_of_ble_eq_true rfl⟩ dX12_feed_22 (fun v ty' w' hp hk' => ?_)
  obtain ⟨y272, y273, y274, y275, rfl, rfl⟩ := hp
  show GW κ 6 0 0 (wM r g (upd (upd (upd (upd (upd (upd (upd (upd iM1 1 1) 1 2) 1 3) 1 4) 1 5) 1 6) 1 7) 1 8) (up3 (up3 (up3 (up3 (up3 (up3 (up3 (up3 aM1 0 0 y256) 0 1 y257) 0 2 y258) 0 3 y259) 0 4 y272) 0 5 y273) 0 6 y274) 0 7 y275) lM1) 25 [(0, .ref (r 0)), (1, .int a1), (2, .int a2), (3, .int a3), (4, .int a4), (5, .int a5)] []
  refine g_aload_n hk dX12_feed_25 rfl ?_
  refine g_iload_n hk dX12_feed_26 rfl ?_
  refine g_callV hk (m115_X12_lays l D zt g r y256 y257 y258 y259 y272 y273 y274 y275 a3) (SP.same _) (fun _ h => h) gX12_feed_X12_lays rfl rfl rfl (by decide +kernel) ⟨Nat.le_of_ble_eq_true rfl, Nat.le_of_ble_eq_true rfl⟩ 0 rfl rfl rfl rfl (Nat.le_of_ble_eq_true rfl) ⟨Nat.le_of_ble_eq_true rfl, Nat.le_of_ble_eq_true rfl⟩ dX12_feed_27 (fun v ty' w' hp hk' => ?_)
  obtain ⟨y288, y289, y290, y291, rfl, rfl⟩ := hp
  show GW κ 6 0 0 (wM r g (upd (upd (upd (upd (upd (upd (upd (upd (upd (upd (upd (upd iM1 1 1) 1 2) 1 3) 1 4) 1 5) 1 6) 1 7) 1 8) 1 9) 1 10) 1 11) 1 12) (up3 (up3 (up3 (up3 (up3 (up3 (up3 (up3 (up3 (up3 (up3 (up3 aM1 0 0 y256) 0 1 y257) 0 2 y258) 0 3 y259) 0 4 y272) 0 5 y273) 0 6 y274) 0 7 y275) 0 8 y288) 0 9 y289) 0 10 y290) 0 11 y291) lM1) 30 [(0, .ref (r 0)), (1, .int a1), (2, .int a2), (3, .int a3), (4, .int a4), (5, .int a5)] []
  refine g_aload_n hk dX12_feed_30 rfl ?_
  refine g_iload hk dX12_feed_31 rfl ?_
  refine g_callV hk (m116_X12_lays l D zt g r y256 y257 y258 y259 y272 y273 y274 y275 y288 y289 y290 y291 a4) (SP.same _) (fun _ h => h) gX12_feed_X12_lays rfl rfl rfl (by decide +kernel) ⟨Nat.le_of_ble_eq_true rfl, Nat.le_of_ble_eq_true rfl⟩ 0 rfl rfl rfl rfl (Nat.le_of_ble_eq_true rfl) ⟨Nat.le_of_ble_eq_true rfl, Nat.le_of_ble_eq_true rfl⟩ dX12_feed_33 (fun v ty' w' hp hk' => ?_)
  obtain ⟨y304, y305, y306, y307, rfl, rfl⟩ := hp
  show GW κ 6 0 0 (wM r g (upd (upd (upd (upd (upd (upd (upd (upd (upd (upd (upd (upd (upd (upd (upd (upd iM1 1 1) 1 2) 1 3) 1 4) 1 5) 1 6) 1 7) 1 8) 1 9) 1 10) 1 11) 1 12) 1 13) 1 14) 1 15) 1 16) (up3 (up3 (up3 (up3 (up3 (up3 (up3 (up3 (up3 (up3 (up3 (up3 (up3 (up3 (up3 (up3 aM1 0 0 y256) 0 1 y257) 0 2 y258) 0 3 y259) 0 4 y272) 0 5 y273) 0 6 y274) 0 7 y275) 0 8 y288) 0 9 y289) 0 10 y290) 0 11 y291) 0 12 y304) 0 13 y305) 0 14 y306) 0 15 y307) lM1) 36 [(0, .ref (r 0)), (1, .int a1), (2, .int a2), (3, .int a3), (4, .int a4), (5, .int a5)] []
  refine g_aload_n hk dX12_feed_36 rfl ?_
  refine g_iload hk dX12_feed_37 rfl ?_
  refine g_callV hk (m117_X12_lays l D zt g r y256 y257 y258 y259 y272 y273 y274 y275 y288 y289 y290 y291 y304 y305 y306 y307 a5) (SP.same _) (fun _ h => h) gX12_feed_X12_lays rfl rfl rfl (by decide +kernel) ⟨Nat.le_of_ble_eq_true rfl, Nat.le_of_ble_eq_true rfl⟩ 0 rfl rfl rfl rfl (Nat.le_of_ble_eq_true rfl) ⟨Nat.le_of_ble_eq_true rfl, Nat.le_of_ble_eq_true rfl⟩ dX12_feed_39 (fun v ty' w' hp hk' => ?_)
  obtain ⟨y320, y321, y322, y323, rfl, rfl⟩ := hp
  show GW κ 6 0 0 (wM r g (upd (upd (upd (upd (upd (upd (upd (upd (upd (upd (upd (upd (upd (upd (upd (upd (upd (upd (upd (upd iM1 1 1) 1 2) 1 3) 1 4) 1 5) 1 6) 1 7) 1 8) 1 9) 1 10) 1 11) 1 12) 1 13) 1 14) 1 15) 1 16) 1 17) 1 18) 1 19) 1 20) (up3 (up3 (up3 (up3 (up3 (up3 (up3 (up3 (up3 (up3 (up3 (up3 (up3 (up3 (up3 (up3 (up3 (up3 (up3 (up3 aM1 0 0 y256) 0 1 y257) 0 2 y258) 0 3 y259) 0 4 y272) 0 5 y273) 0 6 y274) 0 7 y275) 0 8 y288) 0 9 y289) 0 10 y290) 0 11 y291) 0 12 y304) 0 13 y305) 0 14 y306) 0 15 y307) 0 16 y320) 0 17 y321) 0 18 y322) 0 19 y323) lM1) 42 [(0, .ref (r 0)), (1, .int a1), (2, .int a2), (3, .int a3), (4, .int a4), (5, .int a5)] []
  refine g_aload_n hk dX12_feed_42 rfl ?_
  refine gM_i1 (v := 20) hk hin12 (by decide +kernel) dX12_feed_43 rfl ?_
  exact g_iret hk hR rfl ⟨y256, y257, y258, y259, y272, y273, y274, y275, y288, y289, y290, y291, y304, y305, y306, y307, y320, y321, y322, y323, rfl, rfl⟩ dX12_feed_46
set_option maxHeartbeats 4000000 in
set_option maxRecDepth 100000 in
theorem m119_X12_back (l : Launch) (D : va_G) (zt : Nat × Nat × Nat) (g : Nat → ClassId) (r : Nat → Nat) (a1 : Int32) : GM l D zt (tyM g) yX12_back wsX12_back ({ frames := 0, cells := 0, slots := 0, locals := 0 } : Room) [.ref (r 0), .int a1] (wM r g iM1 aM1 lM1) (fun v _ w' => ((a1.toInt < 0) ∧ v = some (.int (-1)) ∧ w' = wM r g iM1 aM1 lM1) ∨ ((¬ (a1.toInt < 0)) ∧ (a1.toInt ≤ 0) ∧ (a1.toInt = 0) ∧ v = some (.int 0) ∧ w' = wM r g iM1 aM1 lM1) ∨ ((¬ (a1.toInt < 0)) ∧ (¬ (a1.toInt ≤ 0)) ∧ v = some (.int (-1)) ∧ w' = wM r g iM1 aM1 lM1)) 0 0 := by
  refine GM.of (cc := cX12_back) (maxL := 2) (ret := (some .int)) (own := RX12) (lv := [(0, .ref (r 0)), (1, .int a1)]) (by decide) rfl rfl (Nat.le_of_ble_eq_true rfl) rfl (fun κ sz hk hR hN => ?_)
  have hin12 : ∀ w ∈ u_ws RX12 TX12 55, w ∈ wsX12_back := by decide +kernel
  refine g_iload_n hk dX12_back_0 rfl ?_
  refine g_if_lt (tgt := 12) (a := a1.toInt) hk dX12_back_1 (by decide) rfl (fun c324 => ?_) (fun c324 => ?_)
  · skip
    refine g_iconst (v := (-1)) hk dX12_back_12 (by decide) ?_
    exact g_iret hk hR rfl (Or.inl ⟨c324, rfl, rfl⟩) dX12_back_13
  · skip
    refine g_iload_n hk dX12_back_4 rfl ?_
    refine g_aload_n hk dX12_back_5 rfl ?_
    refine gM_i1 (v := 0) hk hin12 (by decide +kernel) dX12_back_6 rfl ?_
    refine g_icmp_le (tgt := 14) (a := a1.toInt) (b := 0) hk dX12_back_9 (by decide) rfl rfl (fun c325 => ?_) (fun c325 => ?_)
    · skip
      refine g_aload_n hk dX12_back_14 rfl ?_
      refine g_dup hk dX12_back_15 rfl ?_
      refine gM_i1 (v := 0) hk hin12 (by decide +kernel) dX12_back_16 rfl ?_
      refine g_iload_n hk dX12_back_19 rfl ?_
      by_cases c326 : a1.toInt = 0
      · obtain rfl : a1 = 0 := Int32.toInt_inj.mp c326
        refine g_isub hk dX12_back_20 ?_
        refine g_norm (v := 0) (by decide) ?_
        refine pM_i1 hk hin12 (by decide +kernel) dX12_back_21 ?_
        refine gM_sameI rfl ?_
        refine g_aload_n hk dX12_back_24 rfl ?_
        refine gM_i1 (v := 0) hk hin12 (by decide +kernel) dX12_back_25 rfl ?_
        exact g_iret hk hR rfl (Or.inr (Or.inl ⟨c324, c325, c326, rfl, rfl⟩)) dX12_back_28
      exfalso; omega
    · skip
      refine g_iconst (v := (-1)) hk dX12_back_12 (by decide) ?_
      exact g_iret hk hR rfl (Or.inr (Or.inr (⟨c324, c325, rfl, rfl⟩))) dX12_back_13
set_option maxHeartbeats 4000000 in
set_option maxRecDepth 100000 in
theorem m120_X12_byteAt (l : Launch) (D : va_G) (zt : Nat × Nat × Nat) (g : Nat → ClassId) (r : Nat → Nat) : GM l D zt (tyM g) yX12_byteAt wsX12_byteAt ({ frames := 0, cells := 0, slots := 0, locals := 0 } : Room) [.ref (r 0), .int 0] (wM r g iM1 aM1 lM1) (fun v _ w' => v = some (.int 0) ∧ w' = wM r g iM1 aM1 lM1) 0 0 := by
  refine GM.of (cc := cX12_byteAt) (maxL := 2) (ret := (some .int)) (own := RX12) (lv := [(0, .ref (r 0)), (1, .int 0)]) (by decide) rfl rfl (Nat.le_of_ble_eq_true rfl) rfl (fun κ sz hk hR hN => ?_)
  have hin12 : ∀ w ∈ u_ws RX12 TX12 55, w ∈ wsX12_byteAt := by decide +kernel
  refine g_iload_n hk dX12_byteAt_0 rfl ?_
  refine g_aload_n hk dX12_byteAt_1 rfl ?_
  refine gM_i2 (v := 0) hk hin12 (by decide +kernel) dX12_byteAt_2 rfl ?_
  refine g_icmp_ge (tgt := 21) (a := 0) (b := 0) hk dX12_byteAt_5 (by decide) rfl rfl (fun _ => ?_) (fun z9 => absurd (show 0 ≤ 0 from by decide) z9)
  refine g_iconst (v := 0) hk dX12_byteAt_21 (by decide) ?_
  exact g_iret hk hR rfl ⟨rfl, rfl⟩ dX12_byteAt_22
set_option maxHeartbeats 4000000 in
set_option maxRecDepth 100000 in
theorem m121_X12_token (l : Launch) (D : va_G) (zt : Nat × Nat × Nat) (g : Nat → ClassId) (r : Nat → Nat) : GM l D zt (tyM g) yX12_token wsX12_token ({ frames := 0, cells := 0, slots := 0, locals := 0 } : Room) [.ref (r 0), .int 0, .int 0, .int 0, .long 0] (wM r g iM1 aM1 lM1) (fun v _ w' => v = none ∧ w' = wM r g (upd iM1 3 1) aM1 (up3L lM1 5 0 0)) 0 0 := by
  refine GM.of (cc := cX12_token) (maxL := 6) (ret := none) (own := RX12) (lv := [(0, .ref (r 0)), (1, .int 0), (2, .int 0), (3, .int 0), (4, .long 0)]) (by decide) rfl rfl (Nat.le_of_ble_eq_true rfl) rfl (fun κ sz hk hR hN => ?_)
  have hin12 : ∀ w ∈ u_ws RX12 TX12 55, w ∈ wsX12_token := by decide +kernel
  refine g_aload_n hk dX12_token_0 rfl ?_
  refine gM_r0_5 hk hin12 (by decide +kernel) dX12_token_1 ?_
  refine g_aload_n hk dX12_token_4 rfl ?_
  refine gM_i3 (v := 0) hk hin12 (by decide +kernel) dX12_token_5 rfl ?_
  refine g_iload_n hk dX12_token_8 rfl ?_
  refine sM_2 (j := 0) hk (vp_in_iff.mpr ⟨by decide, by decide⟩) (by decide) dX12_token_9 ?_
  refine gM_same rfl ?_
  refine g_aload_n hk dX12_token_10 rfl ?_
  refine gM_r0_6 hk hin12 (by decide +kernel) dX12_token_11 ?_
  refine g_aload_n hk dX12_token_14 rfl ?_
  refine gM_i3 (v := 0) hk hin12 (by decide +kernel) dX12_token_15 rfl ?_
  refine g_iload_n hk dX12_token_18 rfl ?_
  refine sM_3 (j := 0) hk (vp_in_iff.mpr ⟨by decide, by decide⟩) (by decide) dX12_token_19 ?_
  refine gM_same rfl ?_
  refine g_aload_n hk dX12_token_20 rfl ?_
  refine gM_r0_7 hk hin12 (by decide +kernel) dX12_token_21 ?_
  refine g_aload_n hk dX12_token_24 rfl ?_
  refine gM_i3 (v := 0) hk hin12 (by decide +kernel) dX12_token_25 rfl ?_
  refine g_iload_n hk dX12_token_28 rfl ?_
  refine sM_4 (j := 0) hk (vp_in_iff.mpr ⟨by decide, by decide⟩) (by decide) dX12_token_29 ?_
  refine gM_same rfl ?_
  refine g_aload_n hk dX12_token_30 rfl ?_
  refine gM_r0_8 hk hin12 (by decide +kernel) dX12_token_31 ?_
  refine g_aload_n hk dX12_token_34 rfl ?_
  refine gM_i3 (v := 0) hk hin12 (by decide +kernel) dX12_token_35 rfl ?_
  refine g_lload hk dX12_token_38 rfl ?_
  refine sM_5 (j := 0) hk (vp_in_iff.mpr ⟨by decide, by decide⟩) (by decide) dX12_token_40 ?_
  refine g_aload_n hk dX12_token_41 rfl ?_
  refine g_dup hk dX12_token_42 rfl ?_
  refine gM_i3 (v := 0) hk hin12 (by decide +kernel) dX12_token_43 rfl ?_
  refine g_iconst (v := 1) hk dX12_token_46 (by decide) ?_
  refine g_iadd hk dX12_token_47 ?_
  refine g_norm (v := 1) (by decide) ?_
  refine pM_i3 hk hin12 (by decide +kernel) dX12_token_48 ?_
  exact g_vret hk hR ⟨rfl, rfl⟩ dX12_token_51
