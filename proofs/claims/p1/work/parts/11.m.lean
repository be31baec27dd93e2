set_option maxHeartbeats 4000000 in
set_option maxRecDepth 100000 in
theorem m20_X11_init (l : Launch) (D : va_G) (zt : Nat × Nat × Nat) (h0 : Nat) : GM l D zt [] yX11_init wsX11_init ({ frames := 4, cells := 51, slots := 7000, locals := 76 } : Room) [.ref h0] ([(h0, .inr (11, [.null, .null, .null, .null, .null, .null, .null, .null, .null, .null]))]) (fun v ty' w' => ∃ (q1 : Nat), ∃ (q4 : Nat), ∃ (d5 : ClassId), ∃ (q6 : Nat), ∃ (q33 : Nat), ∃ (q34 : Nat), ∃ (d35 : ClassId), ∃ (q36 : Nat), ∃ (q37 : Nat), ∃ (d38 : ClassId), ∃ (q39 : Nat), ∃ (q40 : Nat), ∃ (d41 : ClassId), ∃ (q42 : Nat), ∃ (d43 : ClassId), ∃ (q44 : Nat), ∃ (d45 : ClassId), ∃ (q46 : Nat), ∃ (d47 : ClassId), ∃ (q48 : Nat), ∃ (q51 : Nat), ∃ (d52 : ClassId), ∃ (q53 : Nat), ∃ (q58 : Nat), ∃ (d59 : ClassId), ∃ (q60 : Nat), ∃ (d61 : ClassId), ∃ (q62 : Nat), ∃ (q65 : Nat), ∃ (d66 : ClassId), ∃ (q67 : Nat), ∃ (q74 : Nat), ∃ (d75 : ClassId), ∃ (q76 : Nat), ∃ (d77 : ClassId), ∃ (q78 : Nat), ∃ (d79 : ClassId), ∃ (q80 : Nat), ∃ (d81 : ClassId), ∃ (q82 : Nat), ∃ (q90 : Nat), ∃ (d91 : ClassId), ∃ (q92 : Nat), ∃ (q93 : Nat), ∃ (d94 : ClassId), ∃ (q95 : Nat), ∃ (q103 : Nat), ∃ (d104 : ClassId), ∃ (q105 : Nat), ∃ (q106 : Nat), ∃ (d107 : ClassId), ∃ (q108 : Nat), ∃ (q116 : Nat), ∃ (d117 : ClassId), ∃ (q118 : Nat), ∃ (q119 : Nat), ∃ (d120 : ClassId), ∃ (q121 : Nat), ∃ (q139 : Nat), ∃ (q140 : Nat), ∃ (d141 : ClassId), ∃ (q142 : Nat), ∃ (d143 : ClassId), ∃ (q144 : Nat), ∃ (d145 : ClassId), ∃ (q146 : Nat), ∃ (d147 : ClassId), ∃ (q148 : Nat), ∃ (q159 : Nat), ∃ (d160 : ClassId), ∃ (q161 : Nat), ∃ (d162 : ClassId), ∃ (q163 : Nat), ∃ (d164 : ClassId), ∃ (q165 : Nat), ∃ (d166 : ClassId), ∃ (q167 : Nat), ∃ (d168 : ClassId), ∃ (q169 : Nat), ∃ (q174 : Nat), ∃ (d175 : ClassId), ∃ (q176 : Nat), ∃ (d177 : ClassId), v = none ∧ ty' = [(d5, .int), (d35, .int), (d38, .int), (d41, .int), (d43, .int), (d45, .int), (d47, .int), (d52, .int), (d59, .int), (d61, .int), (d66, .int), (d75, .int), (d77, .int), (d79, .int), (d81, .object RX8), (d91, .int), (d94, .int), (d104, .int), (d107, .int), (d117, .int), (d120, .int), (d141, .int), (d143, .int), (d145, .int), (d147, .int), (d160, .int), (d162, .int), (d164, .int), (d166, .int), (d168, .boolean), (d175, .int), (d177, .boolean)] ∧ w' = [(h0, .inr (11, [.ref q1, .ref q6, .ref q48, .ref q53, .ref q62, .ref q67, .ref q80, .ref q121, .ref q148, .ref q169])), (q1, .inr (10, [.ref q4, .int 0, .int 0, .int 0, .int 0, .int 0, .int 0])), (q4, .inl (d5, 2000, .inl (fun _ => 0))), (q6, .inr (5, [.ref q1, .ref q33, .ref q39, .ref q44, .ref q46, .int 0, .int 0, .int 0, .int (-2), .int 0, .int 0, .int (-1), .int (-1)])), (q33, .inr (8, [.ref q34, .int 0, .ref q36, .int 0])), (q34, .inl (d35, 160, .inl (fun _ => 0))), (q36, .inr (7, [.ref q37])), (q37, .inl (d38, 4, .inl unI)), (q39, .inr (4, [.ref q40, .ref q42, .int 0])), (q40, .inl (d41, 80, .inl (fun _ => 0))), (q42, .inl (d43, 5, .inl (fun _ => 0))), (q44, .inl (d45, 5, .inl (fun _ => 0))), (q46, .inl (d47, 5, .inl (fun _ => 0))), (q48, .inr (6, [.ref q51, .int 0, .int 0])), (q51, .inl (d52, 256, .inl (fun _ => 0))), (q53, .inr (4, [.ref q58, .ref q60, .int 0])), (q58, .inl (d59, 80, .inl (fun _ => 0))), (q60, .inl (d61, 5, .inl (fun _ => 0))), (q62, .inr (7, [.ref q65])), (q65, .inl (d66, 4, .inl unI)), (q67, .inr (3, [.ref q74, .ref q76, .ref q78, .int 0, .int 0])), (q74, .inl (d75, 40, .inl (fun _ => 0))), (q76, .inl (d77, 40, .inl (fun _ => 0))), (q78, .inl (d79, 40, .inl (fun _ => 0))), (q80, .inl (d81, 3, .inr (.inr (.inr (.inr (va_up (va_up (va_up (fun _ => none) 0 (some q82)) 1 (some q95)) 2 (some q108))))))), (q82, .inr (8, [.ref q90, .int 0, .ref q92, .int 0])), (q90, .inl (d91, 160, .inl (fun _ => 0))), (q92, .inr (7, [.ref q93])), (q93, .inl (d94, 4, .inl unI)), (q95, .inr (8, [.ref q103, .int 0, .ref q105, .int 0])), (q103, .inl (d104, 160, .inl (fun _ => 0))), (q105, .inr (7, [.ref q106])), (q106, .inl (d107, 4, .inl unI)), (q108, .inr (8, [.ref q116, .int 0, .ref q118, .int 0])), (q116, .inl (d117, 160, .inl (fun _ => 0))), (q118, .inr (7, [.ref q119])), (q119, .inl (d120, 4, .inl unI)), (q121, .inr (0, [.ref q48, .ref q53, .ref q62, .ref q139, .int 0])), (q139, .inr (2, [.ref q140, .ref q142, .ref q144, .ref q146, .int 0, .int 1, .int 0, .int 0, .int 0, .int 0])), (q140, .inl (d141, 16, .inl (fun _ => 0))), (q142, .inl (d143, 16, .inl (fun _ => 0))), (q144, .inl (d145, 256, .inl (fun _ => 0))), (q146, .inl (d147, 32, .inl (fun _ => 0))), (q148, .inr (1, [.ref q121, .ref q48, .ref q53, .ref q159, .int 0, .int 0, .ref q161, .ref q163, .ref q165, .int 0, .ref q167])), (q159, .inl (d160, 9, .inl (fun _ => 0))), (q161, .inl (d162, 160, .inl (fun _ => 0))), (q163, .inl (d164, 160, .inl (fun _ => 0))), (q165, .inl (d166, 160, .inl (fun _ => 0))), (q167, .inl (d168, 160, .inl (fun _ => 0))), (q169, .inr (9, [.ref q121, .ref q139, .ref q174, .ref q176, .int 0, .int 0, .int 0, .int 0, .int 0, .int 0, .int 0])), (q174, .inl (d175, 2560, .inl (fun _ => 0))), (q176, .inl (d177, 160, .inl (fun _ => 0)))]) 51 7000 := by
  refine GM.of (cc := cX11_init) (maxL := 1) (ret := none) (own := RX11) (lv := [(0, .ref h0)]) (by decide) rfl rfl (Nat.le_of_ble_eq_true rfl) rfl (fun κ sz hk hR hN => ?_)
  have hin0 : ∀ w ∈ u_ws RX0 TX0 5, w ∈ wsX11_init := by decide +kernel
  have hin1 : ∀ w ∈ u_ws RX1 TX1 11, w ∈ wsX11_init := by decide +kernel
  have hin3 : ∀ w ∈ u_ws RX3 TX3 5, w ∈ wsX11_init := by decide +kernel
  have hin4 : ∀ w ∈ u_ws RX4 TX4 3, w ∈ wsX11_init := by decide +kernel
  have hin5 : ∀ w ∈ u_ws RX5 TX5 13, w ∈ wsX11_init := by decide +kernel
  have hin6 : ∀ w ∈ u_ws RX6 TX6 3, w ∈ wsX11_init := by decide +kernel
  have hin7 : ∀ w ∈ u_ws RX7 TX7 1, w ∈ wsX11_init := by decide +kernel
  have hin8 : ∀ w ∈ u_ws RX8 TX8 4, w ∈ wsX11_init := by decide +kernel
  have hin9 : ∀ w ∈ u_ws RX9 TX9 11, w ∈ wsX11_init := by decide +kernel
  have hin10 : ∀ w ∈ u_ws RX10 TX10 7, w ∈ wsX11_init := by decide +kernel
  have hin11 : ∀ w ∈ u_ws RX11 TX11 10, w ∈ wsX11_init := by decide +kernel
  refine g_aload_n hk dX11_init_0 rfl ?_
  refine g_objInit hk (by decide +kernel) (by decide +kernel) (by decide +kernel) (Nat.le_of_ble_eq_true rfl) (Nat.le_of_ble_eq_true rfl) dX11_init_1 ?_
  refine g_aload_n hk dX11_init_4 rfl ?_
  refine g_new (ci := 10) (fs := [.null, .int 0, .int 0, .int 0, .int 0, .int 0, .int 0]) hk hin10 tyX10 tyX10_ok (by decide +kernel) (by decide +kernel) (by decide +kernel) rfl (fun j hj => by rcases (show j = 0 ∨ j = 1 ∨ j = 2 ∨ j = 3 ∨ j = 4 ∨ j = 5 ∨ j = 6 by omega) with rfl | rfl | rfl | rfl | rfl | rfl | rfl <;> rfl) (Nat.le_of_ble_eq_true rfl) (Nat.le_of_ble_eq_true rfl) dX11_init_5 (fun q1 => ?_)
  show GW κ 1 1 7 ([(h0, .inr (11, [.null, .null, .null, .null, .null, .null, .null, .null, .null, .null])), (q1, .inr (10, [.null, .int 0, .int 0, .int 0, .int 0, .int 0, .int 0]))]) 8 [(0, .ref h0)] [.ref q1, .ref h0]
  refine g_dup hk dX11_init_8 rfl ?_
  refine g_callN hk (m1_X10_init l D zt q1) (SP.suf [(h0, .inr (11, [.null, .null, .null, .null, .null, .null, .null, .null, .null, .null]))] _) (fun _ h => absurd h List.not_mem_nil) gX11_init_X10_init_n9 rfl rfl rfl (by decide +kernel) (fun U h => h.2.2.1) (by decide +kernel) rfl (by decide +kernel) ⟨Nat.le_of_ble_eq_true rfl, Nat.le_of_ble_eq_true rfl⟩ rfl rfl (Nat.le_of_ble_eq_true rfl) ⟨Nat.le_of_ble_eq_true rfl, Nat.le_of_ble_eq_true rfl⟩ dX11_init_9 (fun v ty' w' hp hk' => ?_)
  obtain ⟨q4, d5, rfl, rfl, rfl⟩ := hp
  have hk : GC κ l D zt cX11_init 1 RX11 wsX11_init [(d5, .int)] ({ frames := 4, cells := 51, slots := 7000, locals := 76 } : Room) := hk'
  show GW κ 1 2 2007 ([(h0, .inr (11, [.null, .null, .null, .null, .null, .null, .null, .null, .null, .null])), (q1, .inr (10, [.ref q4, .int 0, .int 0, .int 0, .int 0, .int 0, .int 0])), (q4, .inl (d5, 2000, .inl (fun _ => 0)))]) 12 [(0, .ref h0)] [.ref q1, .ref h0]
  refine g_putF (ws' := [(h0, .inr (11, [.ref q1, .null, .null, .null, .null, .null, .null, .null, .null, .null])), (q1, .inr (10, [.ref q4, .int 0, .int 0, .int 0, .int 0, .int 0, .int 0])), (q4, .inl (d5, 2000, .inl (fun _ => 0)))]) hk (hN rfl) hin11 tyX11 tyX11_ok nmX11 0 rfl rfl 0 (by decide) (by decide +kernel) rfl rfl rfl rfl rfl (by decide) rfl dX11_init_12 ?_
  refine g_aload_n hk dX11_init_15 rfl ?_
  refine g_new (ci := 5) (fs := [.null, .null, .null, .null, .null, .int 0, .int 0, .int 0, .int 0, .int 0, .int 0, .int 0, .int 0]) hk hin5 tyX5 tyX5_ok (by decide +kernel) (by decide +kernel) (by decide +kernel) rfl (fun j hj => by rcases (show j = 0 ∨ j = 1 ∨ j = 2 ∨ j = 3 ∨ j = 4 ∨ j = 5 ∨ j = 6 ∨ j = 7 ∨ j = 8 ∨ j = 9 ∨ j = 10 ∨ j = 11 ∨ j = 12 by omega) with rfl | rfl | rfl | rfl | rfl | rfl | rfl | rfl | rfl | rfl | rfl | rfl | rfl <;> rfl) (Nat.le_of_ble_eq_true rfl) (Nat.le_of_ble_eq_true rfl) dX11_init_16 (fun q6 => ?_)
  show GW κ 1 3 2020 ([(h0, .inr (11, [.ref q1, .null, .null, .null, .null, .null, .null, .null, .null, .null])), (q1, .inr (10, [.ref q4, .int 0, .int 0, .int 0, .int 0, .int 0, .int 0])), (q4, .inl (d5, 2000, .inl (fun _ => 0))), (q6, .inr (5, [.null, .null, .null, .null, .null, .int 0, .int 0, .int 0, .int 0, .int 0, .int 0, .int 0, .int 0]))]) 19 [(0, .ref h0)] [.ref q6, .ref h0]
  refine g_dup hk dX11_init_19 rfl ?_
  refine g_aload_n hk dX11_init_20 rfl ?_
  refine g_get (v := .ref q1) hk hin11 0 rfl rfl 0 (by decide) (by decide +kernel) rfl rfl dX11_init_21 ?_
  refine g_callI hk (m5_X5_init l D zt q1 q6) (SP.suf [(h0, .inr (11, [.ref q1, .null, .null, .null, .null, .null, .null, .null, .null, .null])), (q1, .inr (10, [.ref q4, .int 0, .int 0, .int 0, .int 0, .int 0, .int 0])), (q4, .inl (d5, 2000, .inl (fun _ => 0)))] _) (fun _ h => absurd h List.not_mem_nil) gX11_init_X5_init rfl rfl rfl (by decide +kernel) (by decide +kernel) (by decide +kernel) rfl (by decide +kernel) ⟨Nat.le_of_ble_eq_true rfl, Nat.le_of_ble_eq_true rfl⟩ rfl rfl (Nat.le_of_ble_eq_true rfl) ⟨Nat.le_of_ble_eq_true rfl, Nat.le_of_ble_eq_true rfl⟩ dX11_init_24 (fun v ty' w' hp hk' => ?_)
  obtain ⟨q33, q34, d35, q36, q37, d38, q39, q40, d41, q42, d43, q44, d45, q46, d47, rfl, rfl, rfl⟩ := hp
  have hk : GC κ l D zt cX11_init 1 RX11 wsX11_init [(d5, .int), (d35, .int), (d38, .int), (d41, .int), (d43, .int), (d45, .int), (d47, .int)] ({ frames := 4, cells := 51, slots := 7000, locals := 76 } : Room) := hk'
  show GW κ 1 12 2287 ([(h0, .inr (11, [.ref q1, .null, .null, .null, .null, .null, .null, .null, .null, .null])), (q1, .inr (10, [.ref q4, .int 0, .int 0, .int 0, .int 0, .int 0, .int 0])), (q4, .inl (d5, 2000, .inl (fun _ => 0))), (q6, .inr (5, [.ref q1, .ref q33, .ref q39, .ref q44, .ref q46, .int 0, .int 0, .int 0, .int (-2), .int 0, .int 0, .int (-1), .int (-1)])), (q33, .inr (8, [.ref q34, .int 0, .ref q36, .int 0])), (q34, .inl (d35, 160, .inl (fun _ => 0))), (q36, .inr (7, [.ref q37])), (q37, .inl (d38, 4, .inl unI)), (q39, .inr (4, [.ref q40, .ref q42, .int 0])), (q40, .inl (d41, 80, .inl (fun _ => 0))), (q42, .inl (d43, 5, .inl (fun _ => 0))), (q44, .inl (d45, 5, .inl (fun _ => 0))), (q46, .inl (d47, 5, .inl (fun _ => 0)))]) 27 [(0, .ref h0)] [.ref q6, .ref h0]
  refine g_putF (ws' := [(h0, .inr (11, [.ref q1, .ref q6, .null, .null, .null, .null, .null, .null, .null, .null])), (q1, .inr (10, [.ref q4, .int 0, .int 0, .int 0, .int 0, .int 0, .int 0])), (q4, .inl (d5, 2000, .inl (fun _ => 0))), (q6, .inr (5, [.ref q1, .ref q33, .ref q39, .ref q44, .ref q46, .int 0, .int 0, .int 0, .int (-2), .int 0, .int 0, .int (-1), .int (-1)])), (q33, .inr (8, [.ref q34, .int 0, .ref q36, .int 0])), (q34, .inl (d35, 160, .inl (fun _ => 0))), (q36, .inr (7, [.ref q37])), (q37, .inl (d38, 4, .inl unI)), (q39, .inr (4, [.ref q40, .ref q42, .int 0])), (q40, .inl (d41, 80, .inl (fun _ => 0))), (q42, .inl (d43, 5, .inl (fun _ => 0))), (q44, .inl (d45, 5, .inl (fun _ => 0))), (q46, .inl (d47, 5, .inl (fun _ => 0)))]) hk (hN rfl) hin11 tyX11 tyX11_ok nmX11 0 rfl rfl 1 (by decide) (by decide +kernel) rfl rfl rfl rfl rfl (by decide) rfl dX11_init_27 ?_
  refine g_aload_n hk dX11_init_30 rfl ?_
  refine g_new (ci := 6) (fs := [.null, .int 0, .int 0]) hk hin6 tyX6 tyX6_ok (by decide +kernel) (by decide +kernel) (by decide +kernel) rfl (fun j hj => by rcases (show j = 0 ∨ j = 1 ∨ j = 2 by omega) with rfl | rfl | rfl <;> rfl) (Nat.le_of_ble_eq_true rfl) (Nat.le_of_ble_eq_true rfl) dX11_init_31 (fun q48 => ?_)
  show GW κ 1 13 2290 ([(h0, .inr (11, [.ref q1, .ref q6, .null, .null, .null, .null, .null, .null, .null, .null])), (q1, .inr (10, [.ref q4, .int 0, .int 0, .int 0, .int 0, .int 0, .int 0])), (q4, .inl (d5, 2000, .inl (fun _ => 0))), (q6, .inr (5, [.ref q1, .ref q33, .ref q39, .ref q44, .ref q46, .int 0, .int 0, .int 0, .int (-2), .int 0, .int 0, .int (-1), .int (-1)])), (q33, .inr (8, [.ref q34, .int 0, .ref q36, .int 0])), (q34, .inl (d35, 160, .inl (fun _ => 0))), (q36, .inr (7, [.ref q37])), (q37, .inl (d38, 4, .inl unI)), (q39, .inr (4, [.ref q40, .ref q42, .int 0])), (q40, .inl (d41, 80, .inl (fun _ => 0))), (q42, .inl (d43, 5, .inl (fun _ => 0))), (q44, .inl (d45, 5, .inl (fun _ => 0))), (q46, .inl (d47, 5, .inl (fun _ => 0))), (q48, .inr (6, [.null, .int 0, .int 0]))]) 34 [(0, .ref h0)] [.ref q48, .ref h0]
  refine g_dup hk dX11_init_34 rfl ?_
  refine g_callN hk (m6_X6_init l D zt q48) (SP.suf [(h0, .inr (11, [.ref q1, .ref q6, .null, .null, .null, .null, .null, .null, .null, .null])), (q1, .inr (10, [.ref q4, .int 0, .int 0, .int 0, .int 0, .int 0, .int 0])), (q4, .inl (d5, 2000, .inl (fun _ => 0))), (q6, .inr (5, [.ref q1, .ref q33, .ref q39, .ref q44, .ref q46, .int 0, .int 0, .int 0, .int (-2), .int 0, .int 0, .int (-1), .int (-1)])), (q33, .inr (8, [.ref q34, .int 0, .ref q36, .int 0])), (q34, .inl (d35, 160, .inl (fun _ => 0))), (q36, .inr (7, [.ref q37])), (q37, .inl (d38, 4, .inl unI)), (q39, .inr (4, [.ref q40, .ref q42, .int 0])), (q40, .inl (d41, 80, .inl (fun _ => 0))), (q42, .inl (d43, 5, .inl (fun _ => 0))), (q44, .inl (d45, 5, .inl (fun _ => 0))), (q46, .inl (d47, 5, .inl (fun _ => 0)))] _) (fun _ h => absurd h List.not_mem_nil) gX11_init_X6_init_n27 rfl rfl rfl (by decide +kernel) (fun U h => h.2.2.2.2.2.2.1) (by decide +kernel) rfl (by decide +kernel) ⟨Nat.le_of_ble_eq_true rfl, Nat.le_of_ble_eq_true rfl⟩ rfl rfl (Nat.le_of_ble_eq_true rfl) ⟨Nat.le_of_ble_eq_true rfl, Nat.le_of_ble_eq_true rfl⟩ dX11_init_35 (fun v ty' w' hp hk' => ?_)
  obtain ⟨q51, d52, rfl, rfl, rfl⟩ := hp
  have hk : GC κ l D zt cX11_init 1 RX11 wsX11_init [(d5, .int), (d35, .int), (d38, .int), (d41, .int), (d43, .int), (d45, .int), (d47, .int), (d52, .int)] ({ frames := 4, cells := 51, slots := 7000, locals := 76 } : Room) := hk'
  show GW κ 1 14 2546 ([(h0, .inr (11, [.ref q1, .ref q6, .null, .null, .null, .null, .null, .null, .null, .null])), (q1, .inr (10, [.ref q4, .int 0, .int 0, .int 0, .int 0, .int 0, .int 0])), (q4, .inl (d5, 2000, .inl (fun _ => 0))), (q6, .inr (5, [.ref q1, .ref q33, .ref q39, .ref q44, .ref q46, .int 0, .int 0, .int 0, .int (-2), .int 0, .int 0, .int (-1), .int (-1)])), (q33, .inr (8, [.ref q34, .int 0, .ref q36, .int 0])), (q34, .inl (d35, 160, .inl (fun _ => 0))), (q36, .inr (7, [.ref q37])), (q37, .inl (d38, 4, .inl unI)), (q39, .inr (4, [.ref q40, .ref q42, .int 0])), (q40, .inl (d41, 80, .inl (fun _ => 0))), (q42, .inl (d43, 5, .inl (fun _ => 0))), (q44, .inl (d45, 5, .inl (fun _ => 0))), (q46, .inl (d47, 5, .inl (fun _ => 0))), (q48, .inr (6, [.ref q51, .int 0, .int 0])), (q51, .inl (d52, 256, .inl (fun _ => 0)))]) 38 [(0, .ref h0)] [.ref q48, .ref h0]
  refine g_putF (ws' := [(h0, .inr (11, [.ref q1, .ref q6, .ref q48, .null, .null, .null, .null, .null, .null, .null])), (q1, .inr (10, [.ref q4, .int 0, .int 0, .int 0, .int 0, .int 0, .int 0])), (q4, .inl (d5, 2000, .inl (fun _ => 0))), (q6, .inr (5, [.ref q1, .ref q33, .ref q39, .ref q44, .ref q46, .int 0, .int 0, .int 0, .int (-2), .int 0, .int 0, .int (-1), .int (-1)])), (q33, .inr (8, [.ref q34, .int 0, .ref q36, .int 0])), (q34, .inl (d35, 160, .inl (fun _ => 0))), (q36, .inr (7, [.ref q37])), (q37, .inl (d38, 4, .inl unI)), (q39, .inr (4, [.ref q40, .ref q42, .int 0])), (q40, .inl (d41, 80, .inl (fun _ => 0))), (q42, .inl (d43, 5, .inl (fun _ => 0))), (q44, .inl (d45, 5, .inl (fun _ => 0))), (q46, .inl (d47, 5, .inl (fun _ => 0))), (q48, .inr (6, [.ref q51, .int 0, .int 0])), (q51, .inl (d52, 256, .inl (fun _ => 0)))]) hk (hN rfl) hin11 tyX11 tyX11_ok nmX11 0 rfl rfl 2 (by decide) (by decide +kernel) rfl rfl rfl rfl rfl (by decide) rfl dX11_init_38 ?_
  refine g_aload_n hk dX11_init_41 rfl ?_
  refine g_new (ci := 4) (fs := [.null, .null, .int 0]) hk hin4 tyX4 tyX4_ok (by decide +kernel) (by decide +kernel) (by decide +kernel) rfl (fun j hj => by rcases (show j = 0 ∨ j = 1 ∨ j = 2 by omega) with rfl | rfl | rfl <;> rfl) (Nat.le_of_ble_eq_true rfl) (Nat.le_of_ble_eq_true rfl) dX11_init_42 (fun q53 => ?_)
  show GW κ 1 15 2549 ([(h0, .inr (11, [.ref q1, .ref q6, .ref q48, .null, .null, .null, .null, .null, .null, .null])), (q1, .inr (10, [.ref q4, .int 0, .int 0, .int 0, .int 0, .int 0, .int 0])), (q4, .inl (d5, 2000, .inl (fun _ => 0))), (q6, .inr (5, [.ref q1, .ref q33, .ref q39, .ref q44, .ref q46, .int 0, .int 0, .int 0, .int (-2), .int 0, .int 0, .int (-1), .int (-1)])), (q33, .inr (8, [.ref q34, .int 0, .ref q36, .int 0])), (q34, .inl (d35, 160, .inl (fun _ => 0))), (q36, .inr (7, [.ref q37])), (q37, .inl (d38, 4, .inl unI)), (q39, .inr (4, [.ref q40, .ref q42, .int 0])), (q40, .inl (d41, 80, .inl (fun _ => 0))), (q42, .inl (d43, 5, .inl (fun _ => 0))), (q44, .inl (d45, 5, .inl (fun _ => 0))), (q46, .inl (d47, 5, .inl (fun _ => 0))), (q48, .inr (6, [.ref q51, .int 0, .int 0])), (q51, .inl (d52, 256, .inl (fun _ => 0))), (q53, .inr (4, [.null, .null, .int 0]))]) 45 [(0, .ref h0)] [.ref q53, .ref h0]
  refine g_dup hk dX11_init_45 rfl ?_
  refine g_callN hk (m7_X4_init l D zt q53) (SP.suf [(h0, .inr (11, [.ref q1, .ref q6, .ref q48, .null, .null, .null, .null, .null, .null, .null])), (q1, .inr (10, [.ref q4, .int 0, .int 0, .int 0, .int 0, .int 0, .int 0])), (q4, .inl (d5, 2000, .inl (fun _ => 0))), (q6, .inr (5, [.ref q1, .ref q33, .ref q39, .ref q44, .ref q46, .int 0, .int 0, .int 0, .int (-2), .int 0, .int 0, .int (-1), .int (-1)])), (q33, .inr (8, [.ref q34, .int 0, .ref q36, .int 0])), (q34, .inl (d35, 160, .inl (fun _ => 0))), (q36, .inr (7, [.ref q37])), (q37, .inl (d38, 4, .inl unI)), (q39, .inr (4, [.ref q40, .ref q42, .int 0])), (q40, .inl (d41, 80, .inl (fun _ => 0))), (q42, .inl (d43, 5, .inl (fun _ => 0))), (q44, .inl (d45, 5, .inl (fun _ => 0))), (q46, .inl (d47, 5, .inl (fun _ => 0))), (q48, .inr (6, [.ref q51, .int 0, .int 0])), (q51, .inl (d52, 256, .inl (fun _ => 0)))] _) (fun _ h => absurd h List.not_mem_nil) gX11_init_X4_init_n34 rfl rfl rfl (by decide +kernel) (fun U h => h.2.2.2.2.2.2.2.1) (by decide +kernel) rfl (by decide +kernel) ⟨Nat.le_of_ble_eq_true rfl, Nat.le_of_ble_eq_true rfl⟩ rfl rfl (Nat.le_of_ble_eq_true rfl) ⟨Nat.le_of_ble_eq_true rfl, Nat.le_of_ble_eq_true rfl⟩ dX11_init_46 (fun v ty' w' hp hk' => ?_)
  obtain ⟨q58, d59, q60, d61, rfl, rfl, rfl⟩ := hp
  have hk : GC κ l D zt cX11_init 1 RX11 wsX11_init [(d5, .int), (d35, .int), (d38, .int), (d41, .int), (d43, .int), (d45, .int), (d47, .int), (d52, .int), (d59, .int), (d61, .int)] ({ frames := 4, cells := 51, slots := 7000, locals := 76 } : Room) := hk'
  show GW κ 1 17 2634 ([(h0, .inr (11, [.ref q1, .ref q6, .ref q48, .null, .null, .null, .null, .null, .null, .null])), (q1, .inr (10, [.ref q4, .int 0, .int 0, .int 0, .int 0, .int 0, .int 0])), (q4, .inl (d5, 2000, .inl (fun _ => 0))), (q6, .inr (5, [.ref q1, .ref q33, .ref q39, .ref q44, .ref q46, .int 0, .int 0, .int 0, .int (-2), .int 0, .int 0, .int (-1), .int (-1)])), (q33, .inr (8, [.ref q34, .int 0, .ref q36, .int 0])), (q34, .inl (d35, 160, .inl (fun _ => 0))), (q36, .inr (7, [.ref q37])), (q37, .inl (d38, 4, .inl unI)), (q39, .inr (4, [.ref q40, .ref q42, .int 0])), (q40, .inl (d41, 80, .inl (fun _ => 0))), (q42, .inl (d43, 5, .inl (fun _ => 0))), (q44, .inl (d45, 5, .inl (fun _ => 0))), (q46, .inl (d47, 5, .inl (fun _ => 0))), (q48, .inr (6, [.ref q51, .int 0, .int 0])), (q51, .inl (d52, 256, .inl (fun _ => 0))), (q53, .inr (4, [.ref q58, .ref q60, .int 0])), (q58, .inl (d59, 80, .inl (fun _ => 0))), (q60, .inl (d61, 5, .inl (fun _ => 0)))]) 49 [(0, .ref h0)] [.ref q53, .ref h0]
  refine g_putF (ws' := [(h0, .inr (11, [.ref q1, .ref q6, .ref q48, .ref q53, .null, .null, .null, .null, .null, .null])), (q1, .inr (10, [.ref q4, .int 0, .int 0, .int 0, .int 0, .int 0, .int 0])), (q4, .inl (d5, 2000, .inl (fun _ => 0))), (q6, .inr (5, [.ref q1, .ref q33, .ref q39, .ref q44, .ref q46, .int 0, .int 0, .int 0, .int (-2), .int 0, .int 0, .int (-1), .int (-1)])), (q33, .inr (8, [.ref q34, .int 0, .ref q36, .int 0])), (q34, .inl (d35, 160, .inl (fun _ => 0))), (q36, .inr (7, [.ref q37])), (q37, .inl (d38, 4, .inl unI)), (q39, .inr (4, [.ref q40, .ref q42, .int 0])), (q40, .inl (d41, 80, .inl (fun _ => 0))), (q42, .inl (d43, 5, .inl (fun _ => 0))), (q44, .inl (d45, 5, .inl (fun _ => 0))), (q46, .inl (d47, 5, .inl (fun _ => 0))), (q48, .inr (6, [.ref q51, .int 0, .int 0])), (q51, .inl (d52, 256, .inl (fun _ => 0))), (q53, .inr (4, [.ref q58, .ref q60, .int 0])), (q58, .inl (d59, 80, .inl (fun _ => 0))), (q60, .inl (d61, 5, .inl (fun _ => 0)))]) hk (hN rfl) hin11 tyX11 tyX11_ok nmX11 0 rfl rfl 3 (by decide) (by decide +kernel) rfl rfl rfl rfl rfl (by decide) rfl dX11_init_49 ?_
  refine g_aload_n hk dX11_init_52 rfl ?_
  refine g_new (ci := 7) (fs := [.null]) hk hin7 tyX7 tyX7_ok (by decide +kernel) (by decide +kernel) (by decide +kernel) rfl (fun j hj => by rcases (show j = 0 by omega) with rfl <;> rfl) (Nat.le_of_ble_eq_true rfl) (Nat.le_of_ble_eq_true rfl) dX11_init_53 (fun q62 => ?_)
  show GW κ 1 18 2635 ([(h0, .inr (11, [.ref q1, .ref q6, .ref q48, .ref q53, .null, .null, .null, .null, .null, .null])), (q1, .inr (10, [.ref q4, .int 0, .int 0, .int 0, .int 0, .int 0, .int 0])), (q4, .inl (d5, 2000, .inl (fun _ => 0))), (q6, .inr (5, [.ref q1, .ref q33, .ref q39, .ref q44, .ref q46, .int 0, .int 0, .int 0, .int (-2), .int 0, .int 0, .int (-1), .int (-1)])), (q33, .inr (8, [.ref q34, .int 0, .ref q36, .int 0])), (q34, .inl (d35, 160, .inl (fun _ => 0))), (q36, .inr (7, [.ref q37])), (q37, .inl (d38, 4, .inl unI)), (q39, .inr (4, [.ref q40, .ref q42, .int 0])), (q40, .inl (d41, 80, .inl (fun _ => 0))), (q42, .inl (d43, 5, .inl (fun _ => 0))), (q44, .inl (d45, 5, .inl (fun _ => 0))), (q46, .inl (d47, 5, .inl (fun _ => 0))), (q48, .inr (6, [.ref q51, .int 0, .int 0])), (q51, .inl (d52, 256, .inl (fun _ => 0))), (q53, .inr (4, [.ref q58, .ref q60, .int 0])), (q58, .inl (d59, 80, .inl (fun _ => 0))), (q60, .inl (d61, 5, .inl (fun _ => 0))), (q62, .inr (7, [.null]))]) 56 [(0, .ref h0)] [.ref q62, .ref h0]
  refine g_dup hk dX11_init_56 rfl ?_
  refine g_callN hk (m8_X7_init l D zt q62) (SP.suf [(h0, .inr (11, [.ref q1, .ref q6, .ref q48, .ref q53, .null, .null, .null, .null, .null, .null])), (q1, .inr (10, [.ref q4, .int 0, .int 0, .int 0, .int 0, .int 0, .int 0])), (q4, .inl (d5, 2000, .inl (fun _ => 0))), (q6, .inr (5, [.ref q1, .ref q33, .ref q39, .ref q44, .ref q46, .int 0, .int 0, .int 0, .int (-2), .int 0, .int 0, .int (-1), .int (-1)])), (q33, .inr (8, [.ref q34, .int 0, .ref q36, .int 0])), (q34, .inl (d35, 160, .inl (fun _ => 0))), (q36, .inr (7, [.ref q37])), (q37, .inl (d38, 4, .inl unI)), (q39, .inr (4, [.ref q40, .ref q42, .int 0])), (q40, .inl (d41, 80, .inl (fun _ => 0))), (q42, .inl (d43, 5, .inl (fun _ => 0))), (q44, .inl (d45, 5, .inl (fun _ => 0))), (q46, .inl (d47, 5, .inl (fun _ => 0))), (q48, .inr (6, [.ref q51, .int 0, .int 0])), (q51, .inl (d52, 256, .inl (fun _ => 0))), (q53, .inr (4, [.ref q58, .ref q60, .int 0])), (q58, .inl (d59, 80, .inl (fun _ => 0))), (q60, .inl (d61, 5, .inl (fun _ => 0)))] _) (fun _ h => absurd h List.not_mem_nil) gX11_init_X7_init_n41 rfl rfl rfl (by decide +kernel) (fun U h => h.2.2.2.2.2.2.2.2.1) (by decide +kernel) rfl (by decide +kernel) ⟨Nat.le_of_ble_eq_true rfl, Nat.le_of_ble_eq_true rfl⟩ rfl rfl (Nat.le_of_ble_eq_true rfl) ⟨Nat.le_of_ble_eq_true rfl, Nat.le_of_ble_eq_true rfl⟩ dX11_init_57 (fun v ty' w' hp hk' => ?_)
  obtain ⟨q65, d66, rfl, rfl, rfl⟩ := hp
  have hk : GC κ l D zt cX11_init 1 RX11 wsX11_init [(d5, .int), (d35, .int), (d38, .int), (d41, .int), (d43, .int), (d45, .int), (d47, .int), (d52, .int), (d59, .int), (d61, .int), (d66, .int)] ({ frames := 4, cells := 51, slots := 7000, locals := 76 } : Room) := hk'
  show GW κ 1 19 2639 ([(h0, .inr (11, [.ref q1, .ref q6, .ref q48, .ref q53, .null, .null, .null, .null, .null, .null])), (q1, .inr (10, [.ref q4, .int 0, .int 0, .int 0, .int 0, .int 0, .int 0])), (q4, .inl (d5, 2000, .inl (fun _ => 0))), (q6, .inr (5, [.ref q1, .ref q33, .ref q39, .ref q44, .ref q46, .int 0, .int 0, .int 0, .int (-2), .int 0, .int 0, .int (-1), .int (-1)])), (q33, .inr (8, [.ref q34, .int 0, .ref q36, .int 0])), (q34, .inl (d35, 160, .inl (fun _ => 0))), (q36, .inr (7, [.ref q37])), (q37, .inl (d38, 4, .inl unI)), (q39, .inr (4, [.ref q40, .ref q42, .int 0])), (q40, .inl (d41, 80, .inl (fun _ => 0))), (q42, .inl (d43, 5, .inl (fun _ => 0))), (q44, .inl (d45, 5, .inl (fun _ => 0))), (q46, .inl (d47, 5, .inl (fun _ => 0))), (q48, .inr (6, [.ref q51, .int 0, .int 0])), (q51, .inl (d52, 256, .inl (fun _ => 0))), (q53, .inr (4, [.ref q58, .ref q60, .int 0])), (q58, .inl (d59, 80, .inl (fun _ => 0))), (q60, .inl (d61, 5, .inl (fun _ => 0))), (q62, .inr (7, [.ref q65])), (q65, .inl (d66, 4, .inl unI))]) 60 [(0, .ref h0)] [.ref q62, .ref h0]
  refine g_putF (ws' := [(h0, .inr (11, [.ref q1, .ref q6, .ref q48, .ref q53, .ref q62, .null, .null, .null, .null, .null])), (q1, .inr (10, [.ref q4, .int 0, .int 0, .int 0, .int 0, .int 0, .int 0])), (q4, .inl (d5, 2000, .inl (fun _ => 0))), (q6, .inr (5, [.ref q1, .ref q33, .ref q39, .ref q44, .ref q46, .int 0, .int 0, .int 0, .int (-2), .int 0, .int 0, .int (-1), .int (-1)])), (q33, .inr (8, [.ref q34, .int 0, .ref q36, .int 0])), (q34, .inl (d35, 160, .inl (fun _ => 0))), (q36, .inr (7, [.ref q37])), (q37, .inl (d38, 4, .inl unI)), (q39, .inr (4, [.ref q40, .ref q42, .int 0])), (q40, .inl (d41, 80, .inl (fun _ => 0))), (q42, .inl (d43, 5, .inl (fun _ => 0))), (q44, .inl (d45, 5, .inl (fun _ => 0))), (q46, .inl (d47, 5, .inl (fun _ => 0))), (q48, .inr (6, [.ref q51, .int 0, .int 0])), (q51, .inl (d52, 256, .inl (fun _ => 0))), (q53, .inr (4, [.ref q58, .ref q60, .int 0])), (q58, .inl (d59, 80, .inl (fun _ => 0))), (q60, .inl (d61, 5, .inl (fun _ => 0))), (q62, .inr (7, [.ref q65])), (q65, .inl (d66, 4, .inl unI))]) hk (hN rfl) hin11 tyX11 tyX11_ok nmX11 0 rfl rfl 4 (by decide) (by decide +kernel) rfl rfl rfl rfl rfl (by decide) rfl dX11_init_60 ?_
  refine g_aload_n hk dX11_init_63 rfl ?_
  refine g_new (ci := 3) (fs := [.null, .null, .null, .int 0, .int 0]) hk hin3 tyX3 tyX3_ok (by decide +kernel) (by decide +kernel) (by decide +kernel) rfl (fun j hj => by rcases (show j = 0 ∨ j = 1 ∨ j = 2 ∨ j = 3 ∨ j = 4 by omega) with rfl | rfl | rfl | rfl | rfl <;> rfl) (Nat.le_of_ble_eq_true rfl) (Nat.le_of_ble_eq_true rfl) dX11_init_64 (fun q67 => ?_)
  show GW κ 1 20 2644 ([(h0, .inr (11, [.ref q1, .ref q6, .ref q48, .ref q53, .ref q62, .null, .null, .null, .null, .null])), (q1, .inr (10, [.ref q4, .int 0, .int 0, .int 0, .int 0, .int 0, .int 0])), (q4, .inl (d5, 2000, .inl (fun _ => 0))), (q6, .inr (5, [.ref q1, .ref q33, .ref q39, .ref q44, .ref q46, .int 0, .int 0, .int 0, .int (-2), .int 0, .int 0, .int (-1), .int (-1)])), (q33, .inr (8, [.ref q34, .int 0, .ref q36, .int 0])), (q34, .inl (d35, 160, .inl (fun _ => 0))), (q36, .inr (7, [.ref q37])), (q37, .inl (d38, 4, .inl unI)), (q39, .inr (4, [.ref q40, .ref q42, .int 0])), (q40, .inl (d41, 80, .inl (fun _ => 0))), (q42, .inl (d43, 5, .inl (fun _ => 0))), (q44, .inl (d45, 5, .inl (fun _ => 0))), (q46, .inl (d47, 5, .inl (fun _ => 0))), (q48, .inr (6, [.ref q51, .int 0, .int 0])), (q51, .inl (d52, 256, .inl (fun _ => 0))), (q53, .inr (4, [.ref q58, .ref q60, .int 0])), (q58, .inl (d59, 80, .inl (fun _ => 0))), (q60, .inl (d61, 5, .inl (fun _ => 0))), (q62, .inr (7, [.ref q65])), (q65, .inl (d66, 4, .inl unI)), (q67, .inr (3, [.null, .null, .null, .int 0, .int 0]))]) 67 [(0, .ref h0)] [.ref q67, .ref h0]
  refine g_dup hk dX11_init_67 rfl ?_
  refine g_callN hk (m9_X3_init l D zt q67) (SP.suf [(h0, .inr (11, [.ref q1, .ref q6, .ref q48, .ref q53, .ref q62, .null, .null, .null, .null, .null])), (q1, .inr (10, [.ref q4, .int 0, .int 0, .int 0, .int 0, .int 0, .int 0])), (q4, .inl (d5, 2000, .inl (fun _ => 0))), (q6, .inr (5, [.ref q1, .ref q33, .ref q39, .ref q44, .ref q46, .int 0, .int 0, .int 0, .int (-2), .int 0, .int 0, .int (-1), .int (-1)])), (q33, .inr (8, [.ref q34, .int 0, .ref q36, .int 0])), (q34, .inl (d35, 160, .inl (fun _ => 0))), (q36, .inr (7, [.ref q37])), (q37, .inl (d38, 4, .inl unI)), (q39, .inr (4, [.ref q40, .ref q42, .int 0])), (q40, .inl (d41, 80, .inl (fun _ => 0))), (q42, .inl (d43, 5, .inl (fun _ => 0))), (q44, .inl (d45, 5, .inl (fun _ => 0))), (q46, .inl (d47, 5, .inl (fun _ => 0))), (q48, .inr (6, [.ref q51, .int 0, .int 0])), (q51, .inl (d52, 256, .inl (fun _ => 0))), (q53, .inr (4, [.ref q58, .ref q60, .int 0])), (q58, .inl (d59, 80, .inl (fun _ => 0))), (q60, .inl (d61, 5, .inl (fun _ => 0))), (q62, .inr (7, [.ref q65])), (q65, .inl (d66, 4, .inl unI))] _) (fun _ h => absurd h List.not_mem_nil) gX11_init_X3_init_n48 rfl rfl rfl (by decide +kernel) (fun U h => h.2.2.2.2.2.2.2.2.2.1) (by decide +kernel) rfl (by decide +kernel) ⟨Nat.le_of_ble_eq_true rfl, Nat.le_of_ble_eq_true rfl⟩ rfl rfl (Nat.le_of_ble_eq_true rfl) ⟨Nat.le_of_ble_eq_true rfl, Nat.le_of_ble_eq_true rfl⟩ dX11_init_68 (fun v ty' w' hp hk' => ?_)
  obtain ⟨q74, d75, q76, d77, q78, d79, rfl, rfl, rfl⟩ := hp
  have hk : GC κ l D zt cX11_init 1 RX11 wsX11_init [(d5, .int), (d35, .int), (d38, .int), (d41, .int), (d43, .int), (d45, .int), (d47, .int), (d52, .int), (d59, .int), (d61, .int), (d66, .int), (d75, .int), (d77, .int), (d79, .int)] ({ frames := 4, cells := 51, slots := 7000, locals := 76 } : Room) := hk'
  show GW κ 1 23 2764 ([(h0, .inr (11, [.ref q1, .ref q6, .ref q48, .ref q53, .ref q62, .null, .null, .null, .null, .null])), (q1, .inr (10, [.ref q4, .int 0, .int 0, .int 0, .int 0, .int 0, .int 0])), (q4, .inl (d5, 2000, .inl (fun _ => 0))), (q6, .inr (5, [.ref q1, .ref q33, .ref q39, .ref q44, .ref q46, .int 0, .int 0, .int 0, .int (-2), .int 0, .int 0, .int (-1), .int (-1)])), (q33, .inr (8, [.ref q34, .int 0, .ref q36, .int 0])), (q34, .inl (d35, 160, .inl (fun _ => 0))), (q36, .inr (7, [.ref q37])), (q37, .inl (d38, 4, .inl unI)), (q39, .inr (4, [.ref q40, .ref q42, .int 0])), (q40, .inl (d41, 80, .inl (fun _ => 0))), (q42, .inl (d43, 5, .inl (fun _ => 0))), (q44, .inl (d45, 5, .inl (fun _ => 0))), (q46, .inl (d47, 5, .inl (fun _ => 0))), (q48, .inr (6, [.ref q51, .int 0, .int 0])), (q51, .inl (d52, 256, .inl (fun _ => 0))), (q53, .inr (4, [.ref q58, .ref q60, .int 0])), (q58, .inl (d59, 80, .inl (fun _ => 0))), (q60, .inl (d61, 5, .inl (fun _ => 0))), (q62, .inr (7, [.ref q65])), (q65, .inl (d66, 4, .inl unI)), (q67, .inr (3, [.ref q74, .ref q76, .ref q78, .int 0, .int 0])), (q74, .inl (d75, 40, .inl (fun _ => 0))), (q76, .inl (d77, 40, .inl (fun _ => 0))), (q78, .inl (d79, 40, .inl (fun _ => 0)))]) 71 [(0, .ref h0)] [.ref q67, .ref h0]
  refine g_putF (ws' := [(h0, .inr (11, [.ref q1, .ref q6, .ref q48, .ref q53, .ref q62, .ref q67, .null, .null, .null, .null])), (q1, .inr (10, [.ref q4, .int 0, .int 0, .int 0, .int 0, .int 0, .int 0])), (q4, .inl (d5, 2000, .inl (fun _ => 0))), (q6, .inr (5, [.ref q1, .ref q33, .ref q39, .ref q44, .ref q46, .int 0, .int 0, .int 0, .int (-2), .int 0, .int 0, .int (-1), .int (-1)])), (q33, .inr (8, [.ref q34, .int 0, .ref q36, .int 0])), (q34, .inl (d35, 160, .inl (fun _ => 0))), (q36, .inr (7, [.ref q37])), (q37, .inl (d38, 4, .inl unI)), (q39, .inr (4, [.ref q40, .ref q42, .int 0])), (q40, .inl (d41, 80, .inl (fun _ => 0))), (q42, .inl (d43, 5, .inl (fun _ => 0))), (q44, .inl (d45, 5, .inl (fun _ => 0))), (q46, .inl (d47, 5, .inl (fun _ => 0))), (q48, .inr (6, [.ref q51, .int 0, .int 0])), (q51, .inl (d52, 256, .inl (fun _ => 0))), (q53, .inr (4, [.ref q58, .ref q60, .int 0])), (q58, .inl (d59, 80, .inl (fun _ => 0))), (q60, .inl (d61, 5, .inl (fun _ => 0))), (q62, .inr (7, [.ref q65])), (q65, .inl (d66, 4, .inl unI)), (q67, .inr (3, [.ref q74, .ref q76, .ref q78, .int 0, .int 0])), (q74, .inl (d75, 40, .inl (fun _ => 0))), (q76, .inl (d77, 40, .inl (fun _ => 0))), (q78, .inl (d79, 40, .inl (fun _ => 0)))]) hk (hN rfl) hin11 tyX11 tyX11_ok nmX11 0 rfl rfl 5 (by decide) (by decide +kernel) rfl rfl rfl rfl rfl (by decide) rfl dX11_init_71 ?_
  refine g_aload_n hk dX11_init_74 rfl ?_
  refine g_iconst (v := 3) hk dX11_init_75 (by decide) ?_
  refine g_newq hk (by decide +kernel) (by decide) (by decide) (Nat.le_of_ble_eq_true rfl) (Nat.le_of_ble_eq_true rfl) (Nat.le_of_ble_eq_true rfl) dX11_init_76 (fun q80 d81 hk => ?_)
  have hk : GC κ l D zt cX11_init 1 RX11 wsX11_init [(d5, .int), (d35, .int), (d38, .int), (d41, .int), (d43, .int), (d45, .int), (d47, .int), (d52, .int), (d59, .int), (d61, .int), (d66, .int), (d75, .int), (d77, .int), (d79, .int), (d81, .object RX8)] ({ frames := 4, cells := 51, slots := 7000, locals := 76 } : Room) := hk
  show GW κ 1 24 2767 ([(h0, .inr (11, [.ref q1, .ref q6, .ref q48, .ref q53, .ref q62, .ref q67, .null, .null, .null, .null])), (q1, .inr (10, [.ref q4, .int 0, .int 0, .int 0, .int 0, .int 0, .int 0])), (q4, .inl (d5, 2000, .inl (fun _ => 0))), (q6, .inr (5, [.ref q1, .ref q33, .ref q39, .ref q44, .ref q46, .int 0, .int 0, .int 0, .int (-2), .int 0, .int 0, .int (-1), .int (-1)])), (q33, .inr (8, [.ref q34, .int 0, .ref q36, .int 0])), (q34, .inl (d35, 160, .inl (fun _ => 0))), (q36, .inr (7, [.ref q37])), (q37, .inl (d38, 4, .inl unI)), (q39, .inr (4, [.ref q40, .ref q42, .int 0])), (q40, .inl (d41, 80, .inl (fun _ => 0))), (q42, .inl (d43, 5, .inl (fun _ => 0))), (q44, .inl (d45, 5, .inl (fun _ => 0))), (q46, .inl (d47, 5, .inl (fun _ => 0))), (q48, .inr (6, [.ref q51, .int 0, .int 0])), (q51, .inl (d52, 256, .inl (fun _ => 0))), (q53, .inr (4, [.ref q58, .ref q60, .int 0])), (q58, .inl (d59, 80, .inl (fun _ => 0))), (q60, .inl (d61, 5, .inl (fun _ => 0))), (q62, .inr (7, [.ref q65])), (q65, .inl (d66, 4, .inl unI)), (q67, .inr (3, [.ref q74, .ref q76, .ref q78, .int 0, .int 0])), (q74, .inl (d75, 40, .inl (fun _ => 0))), (q76, .inl (d77, 40, .inl (fun _ => 0))), (q78, .inl (d79, 40, .inl (fun _ => 0))), (q80, .inl (d81, 3, .inr (.inr (.inr (.inr (fun _ => none))))))]) 79 [(0, .ref h0)] [.ref q80, .ref h0]
  refine g_dup hk dX11_init_79 rfl ?_
  refine g_iconst (v := 0) hk dX11_init_80 (by decide) ?_
  refine g_new (ci := 8) (fs := [.null, .int 0, .null, .int 0]) hk hin8 tyX8 tyX8_ok (by decide +kernel) (by decide +kernel) (by decide +kernel) rfl (fun j hj => by rcases (show j = 0 ∨ j = 1 ∨ j = 2 ∨ j = 3 by omega) with rfl | rfl | rfl | rfl <;> rfl) (Nat.le_of_ble_eq_true rfl) (Nat.le_of_ble_eq_true rfl) dX11_init_81 (fun q82 => ?_)
  show GW κ 1 25 2771 ([(h0, .inr (11, [.ref q1, .ref q6, .ref q48, .ref q53, .ref q62, .ref q67, .null, .null, .null, .null])), (q1, .inr (10, [.ref q4, .int 0, .int 0, .int 0, .int 0, .int 0, .int 0])), (q4, .inl (d5, 2000, .inl (fun _ => 0))), (q6, .inr (5, [.ref q1, .ref q33, .ref q39, .ref q44, .ref q46, .int 0, .int 0, .int 0, .int (-2), .int 0, .int 0, .int (-1), .int (-1)])), (q33, .inr (8, [.ref q34, .int 0, .ref q36, .int 0])), (q34, .inl (d35, 160, .inl (fun _ => 0))), (q36, .inr (7, [.ref q37])), (q37, .inl (d38, 4, .inl unI)), (q39, .inr (4, [.ref q40, .ref q42, .int 0])), (q40, .inl (d41, 80, .inl (fun _ => 0))), (q42, .inl (d43, 5, .inl (fun _ => 0))), (q44, .inl (d45, 5, .inl (fun _ => 0))), (q46, .inl (d47, 5, .inl (fun _ => 0))), (q48, .inr (6, [.ref q51, .int 0, .int 0])), (q51, .inl (d52, 256, .inl (fun _ => 0))), (q53, .inr (4, [.ref q58, .ref q60, .int 0])), (q58, .inl (d59, 80, .inl (fun _ => 0))), (q60, .inl (d61, 5, .inl (fun _ => 0))), (q62, .inr (7, [.ref q65])), (q65, .inl (d66, 4, .inl unI)), (q67, .inr (3, [.ref q74, .ref q76, .ref q78, .int 0, .int 0])), (q74, .inl (d75, 40, .inl (fun _ => 0))), (q76, .inl (d77, 40, .inl (fun _ => 0))), (q78, .inl (d79, 40, .inl (fun _ => 0))), (q80, .inl (d81, 3, .inr (.inr (.inr (.inr (fun _ => none)))))), (q82, .inr (8, [.null, .int 0, .null, .int 0]))]) 84 [(0, .ref h0)] [.ref q82, .int 0, .ref q80, .ref q80, .ref h0]
  refine g_dup hk dX11_init_84 rfl ?_
  refine g_callN hk (m11_X8_init l D zt q82) (SP.suf [(h0, .inr (11, [.ref q1, .ref q6, .ref q48, .ref q53, .ref q62, .ref q67, .null, .null, .null, .null])), (q1, .inr (10, [.ref q4, .int 0, .int 0, .int 0, .int 0, .int 0, .int 0])), (q4, .inl (d5, 2000, .inl (fun _ => 0))), (q6, .inr (5, [.ref q1, .ref q33, .ref q39, .ref q44, .ref q46, .int 0, .int 0, .int 0, .int (-2), .int 0, .int 0, .int (-1), .int (-1)])), (q33, .inr (8, [.ref q34, .int 0, .ref q36, .int 0])), (q34, .inl (d35, 160, .inl (fun _ => 0))), (q36, .inr (7, [.ref q37])), (q37, .inl (d38, 4, .inl unI)), (q39, .inr (4, [.ref q40, .ref q42, .int 0])), (q40, .inl (d41, 80, .inl (fun _ => 0))), (q42, .inl (d43, 5, .inl (fun _ => 0))), (q44, .inl (d45, 5, .inl (fun _ => 0))), (q46, .inl (d47, 5, .inl (fun _ => 0))), (q48, .inr (6, [.ref q51, .int 0, .int 0])), (q51, .inl (d52, 256, .inl (fun _ => 0))), (q53, .inr (4, [.ref q58, .ref q60, .int 0])), (q58, .inl (d59, 80, .inl (fun _ => 0))), (q60, .inl (d61, 5, .inl (fun _ => 0))), (q62, .inr (7, [.ref q65])), (q65, .inl (d66, 4, .inl unI)), (q67, .inr (3, [.ref q74, .ref q76, .ref q78, .int 0, .int 0])), (q74, .inl (d75, 40, .inl (fun _ => 0))), (q76, .inl (d77, 40, .inl (fun _ => 0))), (q78, .inl (d79, 40, .inl (fun _ => 0))), (q80, .inl (d81, 3, .inr (.inr (.inr (.inr (fun _ => none))))))] _) (fun _ h => absurd h List.not_mem_nil) gX11_init_X8_init_n55 rfl rfl rfl (by decide +kernel) (fun U h => h.2.2.2.2.2.2.2.2.2.2.1) (by decide +kernel) rfl (by decide +kernel) ⟨Nat.le_of_ble_eq_true rfl, Nat.le_of_ble_eq_true rfl⟩ rfl rfl (Nat.le_of_ble_eq_true rfl) ⟨Nat.le_of_ble_eq_true rfl, Nat.le_of_ble_eq_true rfl⟩ dX11_init_85 (fun v ty' w' hp hk' => ?_)
  obtain ⟨q90, d91, q92, q93, d94, rfl, rfl, rfl⟩ := hp
  have hk : GC κ l D zt cX11_init 1 RX11 wsX11_init [(d5, .int), (d35, .int), (d38, .int), (d41, .int), (d43, .int), (d45, .int), (d47, .int), (d52, .int), (d59, .int), (d61, .int), (d66, .int), (d75, .int), (d77, .int), (d79, .int), (d81, .object RX8), (d91, .int), (d94, .int)] ({ frames := 4, cells := 51, slots := 7000, locals := 76 } : Room) := hk'
  show GW κ 1 28 2936 ([(h0, .inr (11, [.ref q1, .ref q6, .ref q48, .ref q53, .ref q62, .ref q67, .null, .null, .null, .null])), (q1, .inr (10, [.ref q4, .int 0, .int 0, .int 0, .int 0, .int 0, .int 0])), (q4, .inl (d5, 2000, .inl (fun _ => 0))), (q6, .inr (5, [.ref q1, .ref q33, .ref q39, .ref q44, .ref q46, .int 0, .int 0, .int 0, .int (-2), .int 0, .int 0, .int (-1), .int (-1)])), (q33, .inr (8, [.ref q34, .int 0, .ref q36, .int 0])), (q34, .inl (d35, 160, .inl (fun _ => 0))), (q36, .inr (7, [.ref q37])), (q37, .inl (d38, 4, .inl unI)), (q39, .inr (4, [.ref q40, .ref q42, .int 0])), (q40, .inl (d41, 80, .inl (fun _ => 0))), (q42, .inl (d43, 5, .inl (fun _ => 0))), (q44, .inl (d45, 5, .inl (fun _ => 0))), (q46, .inl (d47, 5, .inl (fun _ => 0))), (q48, .inr (6, [.ref q51, .int 0, .int 0])), (q51, .inl (d52, 256, .inl (fun _ => 0))), (q53, .inr (4, [.ref q58, .ref q60, .int 0])), (q58, .inl (d59, 80, .inl (fun _ => 0))), (q60, .inl (d61, 5, .inl (fun _ => 0))), (q62, .inr (7, [.ref q65])), (q65, .inl (d66, 4, .inl unI)), (q67, .inr (3, [.ref q74, .ref q76, .ref q78, .int 0, .int 0])), (q74, .inl (d75, 40, .inl (fun _ => 0))), (q76, .inl (d77, 40, .inl (fun _ => 0))), (q78, .inl (d79, 40, .inl (fun _ => 0))), (q80, .inl (d81, 3, .inr (.inr (.inr (.inr (fun _ => none)))))), (q82, .inr (8, [.ref q90, .int 0, .ref q92, .int 0])), (q90, .inl (d91, 160, .inl (fun _ => 0))), (q92, .inr (7, [.ref q93])), (q93, .inl (d94, 4, .inl unI))]) 88 [(0, .ref h0)] [.ref q82, .int 0, .ref q80, .ref q80, .ref h0]
  refine g_aast (j := 0) (ws' := [(h0, .inr (11, [.ref q1, .ref q6, .ref q48, .ref q53, .ref q62, .ref q67, .null, .null, .null, .null])), (q1, .inr (10, [.ref q4, .int 0, .int 0, .int 0, .int 0, .int 0, .int 0])), (q4, .inl (d5, 2000, .inl (fun _ => 0))), (q6, .inr (5, [.ref q1, .ref q33, .ref q39, .ref q44, .ref q46, .int 0, .int 0, .int 0, .int (-2), .int 0, .int 0, .int (-1), .int (-1)])), (q33, .inr (8, [.ref q34, .int 0, .ref q36, .int 0])), (q34, .inl (d35, 160, .inl (fun _ => 0))), (q36, .inr (7, [.ref q37])), (q37, .inl (d38, 4, .inl unI)), (q39, .inr (4, [.ref q40, .ref q42, .int 0])), (q40, .inl (d41, 80, .inl (fun _ => 0))), (q42, .inl (d43, 5, .inl (fun _ => 0))), (q44, .inl (d45, 5, .inl (fun _ => 0))), (q46, .inl (d47, 5, .inl (fun _ => 0))), (q48, .inr (6, [.ref q51, .int 0, .int 0])), (q51, .inl (d52, 256, .inl (fun _ => 0))), (q53, .inr (4, [.ref q58, .ref q60, .int 0])), (q58, .inl (d59, 80, .inl (fun _ => 0))), (q60, .inl (d61, 5, .inl (fun _ => 0))), (q62, .inr (7, [.ref q65])), (q65, .inl (d66, 4, .inl unI)), (q67, .inr (3, [.ref q74, .ref q76, .ref q78, .int 0, .int 0])), (q74, .inl (d75, 40, .inl (fun _ => 0))), (q76, .inl (d77, 40, .inl (fun _ => 0))), (q78, .inl (d79, 40, .inl (fun _ => 0))), (q80, .inl (d81, 3, .inr (.inr (.inr (.inr (va_up (fun _ => none) 0 (some q82))))))), (q82, .inr (8, [.ref q90, .int 0, .ref q92, .int 0])), (q90, .inl (d91, 160, .inl (fun _ => 0))), (q92, .inr (7, [.ref q93])), (q93, .inl (d94, 4, .inl unI))]) hk 24 14 25 8 rfl rfl rfl rfl (vp_in_iff.mpr ⟨by decide, by decide⟩) (by decide) rfl dX11_init_88 ?_
  refine g_dup hk dX11_init_89 rfl ?_
  refine g_iconst (v := 1) hk dX11_init_90 (by decide) ?_
  refine g_new (ci := 8) (fs := [.null, .int 0, .null, .int 0]) hk hin8 tyX8 tyX8_ok (by decide +kernel) (by decide +kernel) (by decide +kernel) rfl (fun j hj => by rcases (show j = 0 ∨ j = 1 ∨ j = 2 ∨ j = 3 by omega) with rfl | rfl | rfl | rfl <;> rfl) (Nat.le_of_ble_eq_true rfl) (Nat.le_of_ble_eq_true rfl) dX11_init_91 (fun q95 => ?_)
  show GW κ 1 29 2940 ([(h0, .inr (11, [.ref q1, .ref q6, .ref q48, .ref q53, .ref q62, .ref q67, .null, .null, .null, .null])), (q1, .inr (10, [.ref q4, .int 0, .int 0, .int 0, .int 0, .int 0, .int 0])), (q4, .inl (d5, 2000, .inl (fun _ => 0))), (q6, .inr (5, [.ref q1, .ref q33, .ref q39, .ref q44, .ref q46, .int 0, .int 0, .int 0, .int (-2), .int 0, .int 0, .int (-1), .int (-1)])), (q33, .inr (8, [.ref q34, .int 0, .ref q36, .int 0])), (q34, .inl (d35, 160, .inl (fun _ => 0))), (q36, .inr (7, [.ref q37])), (q37, .inl (d38, 4, .inl unI)), (q39, .inr (4, [.ref q40, .ref q42, .int 0])), (q40, .inl (d41, 80, .inl (fun _ => 0))), (q42, .inl (d43, 5, .inl (fun _ => 0))), (q44, .inl (d45, 5, .inl (fun _ => 0))), (q46, .inl (d47, 5, .inl (fun _ => 0))), (q48, .inr (6, [.ref q51, .int 0, .int 0])), (q51, .inl (d52, 256, .inl (fun _ => 0))), (q53, .inr (4, [.ref q58, .ref q60, .int 0])), (q58, .inl (d59, 80, .inl (fun _ => 0))), (q60, .inl (d61, 5, .inl (fun _ => 0))), (q62, .inr (7, [.ref q65])), (q65, .inl (d66, 4, .inl unI)), (q67, .inr (3, [.ref q74, .ref q76, .ref q78, .int 0, .int 0])), (q74, .inl (d75, 40, .inl (fun _ => 0))), (q76, .inl (d77, 40, .inl (fun _ => 0))), (q78, .inl (d79, 40, .inl (fun _ => 0))), (q80, .inl (d81, 3, .inr (.inr (.inr (.inr (va_up (fun _ => none) 0 (some q82))))))), (q82, .inr (8, [.ref q90, .int 0, .ref q92, .int 0])), (q90, .inl (d91, 160, .inl (fun _ => 0))), (q92, .inr (7, [.ref q93])), (q93, .inl (d94, 4, .inl unI)), (q95, .inr (8, [.null, .int 0, .null, .int 0]))]) 94 [(0, .ref h0)] [.ref q95, .int 1, .ref q80, .ref q80, .ref h0]
  refine g_dup hk dX11_init_94 rfl ?_
  refine g_callN hk (m13_X8_init l D zt q95) (SP.suf [(h0, .inr (11, [.ref q1, .ref q6, .ref q48, .ref q53, .ref q62, .ref q67, .null, .null, .null, .null])), (q1, .inr (10, [.ref q4, .int 0, .int 0, .int 0, .int 0, .int 0, .int 0])), (q4, .inl (d5, 2000, .inl (fun _ => 0))), (q6, .inr (5, [.ref q1, .ref q33, .ref q39, .ref q44, .ref q46, .int 0, .int 0, .int 0, .int (-2), .int 0, .int 0, .int (-1), .int (-1)])), (q33, .inr (8, [.ref q34, .int 0, .ref q36, .int 0])), (q34, .inl (d35, 160, .inl (fun _ => 0))), (q36, .inr (7, [.ref q37])), (q37, .inl (d38, 4, .inl unI)), (q39, .inr (4, [.ref q40, .ref q42, .int 0])), (q40, .inl (d41, 80, .inl (fun _ => 0))), (q42, .inl (d43, 5, .inl (fun _ => 0))), (q44, .inl (d45, 5, .inl (fun _ => 0))), (q46, .inl (d47, 5, .inl (fun _ => 0))), (q48, .inr (6, [.ref q51, .int 0, .int 0])), (q51, .inl (d52, 256, .inl (fun _ => 0))), (q53, .inr (4, [.ref q58, .ref q60, .int 0])), (q58, .inl (d59, 80, .inl (fun _ => 0))), (q60, .inl (d61, 5, .inl (fun _ => 0))), (q62, .inr (7, [.ref q65])), (q65, .inl (d66, 4, .inl unI)), (q67, .inr (3, [.ref q74, .ref q76, .ref q78, .int 0, .int 0])), (q74, .inl (d75, 40, .inl (fun _ => 0))), (q76, .inl (d77, 40, .inl (fun _ => 0))), (q78, .inl (d79, 40, .inl (fun _ => 0))), (q80, .inl (d81, 3, .inr (.inr (.inr (.inr (va_up (fun _ => none) 0 (some q82))))))), (q82, .inr (8, [.ref q90, .int 0, .ref q92, .int 0])), (q90, .inl (d91, 160, .inl (fun _ => 0))), (q92, .inr (7, [.ref q93])), (q93, .inl (d94, 4, .inl unI))] _) (fun _ h => absurd h List.not_mem_nil) gX11_init_X8_init_n55 rfl rfl rfl (by decide +kernel) (fun U h => h.2.2.2.2.2.2.2.2.2.2.1) (by decide +kernel) rfl (by decide +kernel) ⟨Nat.le_of_ble_eq_true rfl, Nat.le_of_ble_eq_true rfl⟩ rfl rfl (Nat.le_of_ble_eq_true rfl) ⟨Nat.le_of_ble_eq_true rfl, Nat.le_of_ble_eq_true rfl⟩ dX11_init_95 (fun v ty' w' hp hk' => ?_)
  obtain ⟨q103, d104, q105, q106, d107, rfl, rfl, rfl⟩ := hp
  have hk : GC κ l D zt cX11_init 1 RX11 wsX11_init [(d5, .int), (d35, .int), (d38, .int), (d41, .int), (d43, .int), (d45, .int), (d47, .int), (d52, .int), (d59, .int), (d61, .int), (d66, .int), (d75, .int), (d77, .int), (d79, .int), (d81, .object RX8), (d91, .int), (d94, .int), (d104, .int), (d107, .int)] ({ frames := 4, cells := 51, slots := 7000, locals := 76 } : Room) := hk'
  show GW κ 1 32 3105 ([(h0, .inr (11, [.ref q1, .ref q6, .ref q48, .ref q53, .ref q62, .ref q67, .null, .null, .null, .null])), (q1, .inr (10, [.ref q4, .int 0, .int 0, .int 0, .int 0, .int 0, .int 0])), (q4, .inl (d5, 2000, .inl (fun _ => 0))), (q6, .inr (5, [.ref q1, .ref q33, .ref q39, .ref q44, .ref q46, .int 0, .int 0, .int 0, .int (-2), .int 0, .int 0, .int (-1), .int (-1)])), (q33, .inr (8, [.ref q34, .int 0, .ref q36, .int 0])), (q34, .inl (d35, 160, .inl (fun _ => 0))), (q36, .inr (7, [.ref q37])), (q37, .inl (d38, 4, .inl unI)), (q39, .inr (4, [.ref q40, .ref q42, .int 0])), (q40, .inl (d41, 80, .inl (fun _ => 0))), (q42, .inl (d43, 5, .inl (fun _ => 0))), (q44, .inl (d45, 5, .inl (fun _ => 0))), (q46, .inl (d47, 5, .inl (fun _ => 0))), (q48, .inr (6, [.ref q51, .int 0, .int 0])), (q51, .inl (d52, 256, .inl (fun _ => 0))), (q53, .inr (4, [.ref q58, .ref q60, .int 0])), (q58, .inl (d59, 80, .inl (fun _ => 0))), (q60, .inl (d61, 5, .inl (fun _ => 0))), (q62, .inr (7, [.ref q65])), (q65, .inl (d66, 4, .inl unI)), (q67, .inr (3, [.ref q74, .ref q76, .ref q78, .int 0, .int 0])), (q74, .inl (d75, 40, .inl (fun _ => 0))), (q76, .inl (d77, 40, .inl (fun _ => 0))), (q78, .inl (d79, 40, .inl (fun _ => 0))), (q80, .inl (d81, 3, .inr (.inr (.inr (.inr (va_up (fun _ => none) 0 (some q82))))))), (q82, .inr (8, [.ref q90, .int 0, .ref q92, .int 0])), (q90, .inl (d91, 160, .inl (fun _ => 0))), (q92, .inr (7, [.ref q93])), (q93, .inl (d94, 4, .inl unI)), (q95, .inr (8, [.ref q103, .int 0, .ref q105, .int 0])), (q103, .inl (d104, 160, .inl (fun _ => 0))), (q105, .inr (7, [.ref q106])), (q106, .inl (d107, 4, .inl unI))]) 98 [(0, .ref h0)] [.ref q95, .int 1, .ref q80, .ref q80, .ref h0]
  refine g_aast (j := 1) (ws' := [(h0, .inr (11, [.ref q1, .ref q6, .ref q48, .ref q53, .ref q62, .ref q67, .null, .null, .null, .null])), (q1, .inr (10, [.ref q4, .int 0, .int 0, .int 0, .int 0, .int 0, .int 0])), (q4, .inl (d5, 2000, .inl (fun _ => 0))), (q6, .inr (5, [.ref q1, .ref q33, .ref q39, .ref q44, .ref q46, .int 0, .int 0, .int 0, .int (-2), .int 0, .int 0, .int (-1), .int (-1)])), (q33, .inr (8, [.ref q34, .int 0, .ref q36, .int 0])), (q34, .inl (d35, 160, .inl (fun _ => 0))), (q36, .inr (7, [.ref q37])), (q37, .inl (d38, 4, .inl unI)), (q39, .inr (4, [.ref q40, .ref q42, .int 0])), (q40, .inl (d41, 80, .inl (fun _ => 0))), (q42, .inl (d43, 5, .inl (fun _ => 0))), (q44, .inl (d45, 5, .inl (fun _ => 0))), (q46, .inl (d47, 5, .inl (fun _ => 0))), (q48, .inr (6, [.ref q51, .int 0, .int 0])), (q51, .inl (d52, 256, .inl (fun _ => 0))), (q53, .inr (4, [.ref q58, .ref q60, .int 0])), (q58, .inl (d59, 80, .inl (fun _ => 0))), (q60, .inl (d61, 5, .inl (fun _ => 0))), (q62, .inr (7, [.ref q65])), (q65, .inl (d66, 4, .inl unI)), (q67, .inr (3, [.ref q74, .ref q76, .ref q78, .int 0, .int 0])), (q74, .inl (d75, 40, .inl (fun _ => 0))), (q76, .inl (d77, 40, .inl (fun _ => 0))), (q78, .inl (d79, 40, .inl (fun _ => 0))), (q80, .inl (d81, 3, .inr (.inr (.inr (.inr (va_up (va_up (fun _ => none) 0 (some q82)) 1 (some q95))))))), (q82, .inr (8, [.ref q90, .int 0, .ref q92, .int 0])), (q90, .inl (d91, 160, .inl (fun _ => 0))), (q92, .inr (7, [.ref q93])), (q93, .inl (d94, 4, .inl unI)), (q95, .inr (8, [.ref q103, .int 0, .ref q105, .int 0])), (q103, .inl (d104, 160, .inl (fun _ => 0))), (q105, .inr (7, [.ref q106])), (q106, .inl (d107, 4, .inl unI))]) hk 24 14 29 8 rfl rfl rfl rfl (vp_in_iff.mpr ⟨by decide, by decide⟩) (by decide) rfl dX11_init_98 ?_
  refine g_dup hk dX11_init_99 rfl ?_
  refine g_iconst (v := 2) hk dX11_init_100 (by decide) ?_
  refine g_new (ci := 8) (fs := [.null, .int 0, .null, .int 0]) hk hin8 tyX8 tyX8_ok (by decide +kernel) (by decide +kernel) (by decide +kernel) rfl (fun j hj => by rcases (show j = 0 ∨ j = 1 ∨ j = 2 ∨ j = 3 by omega) with rfl | rfl | rfl | rfl <;> rfl) (Nat.le_of_ble_eq_true rfl) (Nat.le_of_ble_eq_true rfl) dX11_init_101 (fun q108 => ?_)
  show GW κ 1 33 3109 ([(h0, .inr (11, [.ref q1, .ref q6, .ref q48, .ref q53, .ref q62, .ref q67, .null, .null, .null, .null])), (q1, .inr (10, [.ref q4, .int 0, .int 0, .int 0, .int 0, .int 0, .int 0])), (q4, .inl (d5, 2000, .inl (fun _ => 0))), (q6, .inr (5, [.ref q1, .ref q33, .ref q39, .ref q44, .ref q46, .int 0, .int 0, .int 0, .int (-2), .int 0, .int 0, .int (-1), .int (-1)])), (q33, .inr (8, [.ref q34, .int 0, .ref q36, .int 0])), (q34, .inl (d35, 160, .inl (fun _ => 0))), (q36, .inr (7, [.ref q37])), (q37, .inl (d38, 4, .inl unI)), (q39, .inr (4, [.ref q40, .ref q42, .int 0])), (q40, .inl (d41, 80, .inl (fun _ => 0))), (q42, .inl (d43, 5, .inl (fun _ => 0))), (q44, .inl (d45, 5, .inl (fun _ => 0))), (q46, .inl (d47, 5, .inl (fun _ => 0))), (q48, .inr (6, [.ref q51, .int 0, .int 0])), (q51, .inl (d52, 256, .inl (fun _ => 0))), (q53, .inr (4, [.ref q58, .ref q60, .int 0])), (q58, .inl (d59, 80, .inl (fun _ => 0))), (q60, .inl (d61, 5, .inl (fun _ => 0))), (q62, .inr (7, [.ref q65])), (q65, .inl (d66, 4, .inl unI)), (q67, .inr (3, [.ref q74, .ref q76, .ref q78, .int 0, .int 0])), (q74, .inl (d75, 40, .inl (fun _ => 0))), (q76, .inl (d77, 40, .inl (fun _ => 0))), (q78, .inl (d79, 40, .inl (fun _ => 0))), (q80, .inl (d81, 3, .inr (.inr (.inr (.inr (va_up (va_up (fun _ => none) 0 (some q82)) 1 (some q95))))))), (q82, .inr (8, [.ref q90, .int 0, .ref q92, .int 0])), (q90, .inl (d91, 160, .inl (fun _ => 0))), (q92, .inr (7, [.ref q93])), (q93, .inl (d94, 4, .inl unI)), (q95, .inr (8, [.ref q103, .int 0, .ref q105, .int 0])), (q103, .inl (d104, 160, .inl (fun _ => 0))), (q105, .inr (7, [.ref q106])), (q106, .inl (d107, 4, .inl unI)), (q108, .inr (8, [.null, .int 0, .null, .int 0]))]) 104 [(0, .ref h0)] [.ref q108, .int 2, .ref q80, .ref q80, .ref h0]
  refine g_dup hk dX11_init_104 rfl ?_
  refine g_callN hk (m15_X8_init l D zt q108) (SP.suf [(h0, .inr (11, [.ref q1, .ref q6, .ref q48, .ref q53, .ref q62, .ref q67, .null, .null, .null, .null])), (q1, .inr (10, [.ref q4, .int 0, .int 0, .int 0, .int 0, .int 0, .int 0])), (q4, .inl (d5, 2000, .inl (fun _ => 0))), (q6, .inr (5, [.ref q1, .ref q33, .ref q39, .ref q44, .ref q46, .int 0, .int 0, .int 0, .int (-2), .int 0, .int 0, .int (-1), .int (-1)])), (q33, .inr (8, [.ref q34, .int 0, .ref q36, .int 0])), (q34, .inl (d35, 160, .inl (fun _ => 0))), (q36, .inr (7, [.ref q37])), (q37, .inl (d38, 4, .inl unI)), (q39, .inr (4, [.ref q40, .ref q42, .int 0])), (q40, .inl (d41, 80, .inl (fun _ => 0))), (q42, .inl (d43, 5, .inl (fun _ => 0))), (q44, .inl (d45, 5, .inl (fun _ => 0))), (q46, .inl (d47, 5, .inl (fun _ => 0))), (q48, .inr (6, [.ref q51, .int 0, .int 0])), (q51, .inl (d52, 256, .inl (fun _ => 0))), (q53, .inr (4, [.ref q58, .ref q60, .int 0])), (q58, .inl (d59, 80, .inl (fun _ => 0))), (q60, .inl (d61, 5, .inl (fun _ => 0))), (q62, .inr (7, [.ref q65])), (q65, .inl (d66, 4, .inl unI)), (q67, .inr (3, [.ref q74, .ref q76, .ref q78, .int 0, .int 0])), (q74, .inl (d75, 40, .inl (fun _ => 0))), (q76, .inl (d77, 40, .inl (fun _ => 0))), (q78, .inl (d79, 40, .inl (fun _ => 0))), (q80, .inl (d81, 3, .inr (.inr (.inr (.inr (va_up (va_up (fun _ => none) 0 (some q82)) 1 (some q95))))))), (q82, .inr (8, [.ref q90, .int 0, .ref q92, .int 0])), (q90, .inl (d91, 160, .inl (fun _ => 0))), (q92, .inr (7, [.ref q93])), (q93, .inl (d94, 4, .inl unI)), (q95, .inr (8, [.ref q103, .int 0, .ref q105, .int 0])), (q103, .inl (d104, 160, .inl (fun _ => 0))), (q105, .inr (7, [.ref q106])), (q106, .inl (d107, 4, .inl unI))] _) (fun _ h => absurd h List.not_mem_nil) gX11_init_X8_init_n55 rfl rfl rfl (by decide +kernel) (fun U h => h.2.2.2.2.2.2.2.2.2.2.1) (by decide +kernel) rfl (by decide +kernel) ⟨Nat.le_of_ble_eq_true rfl, Nat.le_of_ble_eq_true rfl⟩ rfl rfl (Nat.le_of_ble_eq_true rfl) ⟨Nat.le_of_ble_eq_true rfl, Nat.le_of_ble_eq_true rfl⟩ dX11_init_105 (fun v ty' w' hp hk' => ?_)
  obtain ⟨q116, d117, q118, q119, d120, rfl, rfl, rfl⟩ := hp
  have hk : GC κ l D zt cX11_init 1 RX11 wsX11_init [(d5, .int), (d35, .int), (d38, .int), (d41, .int), (d43, .int), (d45, .int), (d47, .int), (d52, .int), (d59, .int), (d61, .int), (d66, .int), (d75, .int), (d77, .int), (d79, .int), (d81, .object RX8), (d91, .int), (d94, .int), (d104, .int), (d107, .int), (d117, .int), (d120, .int)] ({ frames := 4, cells := 51, slots := 7000, locals := 76 } : Room) := hk'
  show GW κ 1 36 3274 ([(h0, .inr (11, [.ref q1, .ref q6, .ref q48, .ref q53, .ref q62, .ref q67, .null, .null, .null, .null])), (q1, .inr (10, [.ref q4, .int 0, .int 0, .int 0, .int 0, .int 0, .int 0])), (q4, .inl (d5, 2000, .inl (fun _ => 0))), (q6, .inr (5, [.ref q1, .ref q33, .ref q39, .ref q44, .ref q46, .int 0, .int 0, .int 0, .int (-2), .int 0, .int 0, .int (-1), .int (-1)])), (q33, .inr (8, [.ref q34, .int 0, .ref q36, .int 0])), (q34, .inl (d35, 160, .inl (fun _ => 0))), (q36, .inr (7, [.ref q37])), (q37, .inl (d38, 4, .inl unI)), (q39, .inr (4, [.ref q40, .ref q42, .int 0])), (q40, .inl (d41, 80, .inl (fun _ => 0))), (q42, .inl (d43, 5, .inl (fun _ => 0))), (q44, .inl (d45, 5, .inl (fun _ => 0))), (q46, .inl (d47, 5, .inl (fun _ => 0))), (q48, .inr (6, [.ref q51, .int 0, .int 0])), (q51, .inl (d52, 256, .inl (fun _ => 0))), (q53, .inr (4, [.ref q58, .ref q60, .int 0])), (q58, .inl (d59, 80, .inl (fun _ => 0))), (q60, .inl (d61, 5, .inl (fun _ => 0))), (q62, .inr (7, [.ref q65])), (q65, .inl (d66, 4, .inl unI)), (q67, .inr (3, [.ref q74, .ref q76, .ref q78, .int 0, .int 0])), (q74, .inl (d75, 40, .inl (fun _ => 0))), (q76, .inl (d77, 40, .inl (fun _ => 0))), (q78, .inl (d79, 40, .inl (fun _ => 0))), (q80, .inl (d81, 3, .inr (.inr (.inr (.inr (va_up (va_up (fun _ => none) 0 (some q82)) 1 (some q95))))))), (q82, .inr (8, [.ref q90, .int 0, .ref q92, .int 0])), (q90, .inl (d91, 160, .inl (fun _ => 0))), (q92, .inr (7, [.ref q93])), (q93, .inl (d94, 4, .inl unI)), (q95, .inr (8, [.ref q103, .int 0, .ref q105, .int 0])), (q103, .inl (d104, 160, .inl (fun _ => 0))), (q105, .inr (7, [.ref q106])), (q106, .inl (d107, 4, .inl unI)), (q108, .inr (8, [.ref q116, .int 0, .ref q118, .int 0])), (q116, .inl (d117, 160, .inl (fun _ => 0))), (q118, .inr (7, [.ref q119])), (q119, .inl (d120, 4, .inl unI))]) 108 [(0, .ref h0)] [.ref q108, .int 2, .ref q80, .ref q80, .ref h0]
  refine g_aast (j := 2) (ws' := [(h0, .inr (11, [.ref q1, .ref q6, .ref q48, .ref q53, .ref q62, .ref q67, .null, .null, .null, .null])), (q1, .inr (10, [.ref q4, .int 0, .int 0, .int 0, .int 0, .int 0, .int 0])), (q4, .inl (d5, 2000, .inl (fun _ => 0))), (q6, .inr (5, [.ref q1, .ref q33, .ref q39, .ref q44, .ref q46, .int 0, .int 0, .int 0, .int (-2), .int 0, .int 0, .int (-1), .int (-1)])), (q33, .inr (8, [.ref q34, .int 0, .ref q36, .int 0])), (q34, .inl (d35, 160, .inl (fun _ => 0))), (q36, .inr (7, [.ref q37])), (q37, .inl (d38, 4, .inl unI)), (q39, .inr (4, [.ref q40, .ref q42, .int 0])), (q40, .inl (d41, 80, .inl (fun _ => 0))), (q42, .inl (d43, 5, .inl (fun _ => 0))), (q44, .inl (d45, 5, .inl (fun _ => 0))), (q46, .inl (d47, 5, .inl (fun _ => 0))), (q48, .inr (6, [.ref q51, .int 0, .int 0])), (q51, .inl (d52, 256, .inl (fun _ => 0))), (q53, .inr (4, [.ref q58, .ref q60, .int 0])), (q58, .inl (d59, 80, .inl (fun _ => 0))), (q60, .inl (d61, 5, .inl (fun _ => 0))), (q62, .inr (7, [.ref q65])), (q65, .inl (d66, 4, .inl unI)), (q67, .inr (3, [.ref q74, .ref q76, .ref q78, .int 0, .int 0])), (q74, .inl (d75, 40, .inl (fun _ => 0))), (q76, .inl (d77, 40, .inl (fun _ => 0))), (q78, .inl (d79, 40, .inl (fun _ => 0))), (q80, .inl (d81, 3, .inr (.inr (.inr (.inr (va_up (va_up (va_up (fun _ => none) 0 (some q82)) 1 (some q95)) 2 (some q108))))))), (q82, .inr (8, [.ref q90, .int 0, .ref q92, .int 0])), (q90, .inl (d91, 160, .inl (fun _ => 0))), (q92, .inr (7, [.ref q93])), (q93, .inl (d94, 4, .inl unI)), (q95, .inr (8, [.ref q103, .int 0, .ref q105, .int 0])), (q103, .inl (d104, 160, .inl (fun _ => 0))), (q105, .inr (7, [.ref q106])), (q106, .inl (d107, 4, .inl unI)), (q108, .inr (8, [.ref q116, .int 0, .ref q118, .int 0])), (q116, .inl (d117, 160, .inl (fun _ => 0))), (q118, .inr (7, [.ref q119])), (q119, .inl (d120, 4, .inl unI))]) hk 24 14 33 8 rfl rfl rfl rfl (vp_in_iff.mpr ⟨by decide, by decide⟩) (by decide) rfl dX11_init_108 ?_
  refine g_putF (ws' := [(h0, .inr (11, [.ref q1, .ref q6, .ref q48, .ref q53, .ref q62, .ref q67, .ref q80, .null, .null, .null])), (q1, .inr (10, [.ref q4, .int 0, .int 0, .int 0, .int 0, .int 0, .int 0])), (q4, .inl (d5, 2000, .inl (fun _ => 0))), (q6, .inr (5, [.ref q1, .ref q33, .ref q39, .ref q44, .ref q46, .int 0, .int 0, .int 0, .int (-2), .int 0, .int 0, .int (-1), .int (-1)])), (q33, .inr (8, [.ref q34, .int 0, .ref q36, .int 0])), (q34, .inl (d35, 160, .inl (fun _ => 0))), (q36, .inr (7, [.ref q37])), (q37, .inl (d38, 4, .inl unI)), (q39, .inr (4, [.ref q40, .ref q42, .int 0])), (q40, .inl (d41, 80, .inl (fun _ => 0))), (q42, .inl (d43, 5, .inl (fun _ => 0))), (q44, .inl (d45, 5, .inl (fun _ => 0))), (q46, .inl (d47, 5, .inl (fun _ => 0))), (q48, .inr (6, [.ref q51, .int 0, .int 0])), (q51, .inl (d52, 256, .inl (fun _ => 0))), (q53, .inr (4, [.ref q58, .ref q60, .int 0])), (q58, .inl (d59, 80, .inl (fun _ => 0))), (q60, .inl (d61, 5, .inl (fun _ => 0))), (q62, .inr (7, [.ref q65])), (q65, .inl (d66, 4, .inl unI)), (q67, .inr (3, [.ref q74, .ref q76, .ref q78, .int 0, .int 0])), (q74, .inl (d75, 40, .inl (fun _ => 0))), (q76, .inl (d77, 40, .inl (fun _ => 0))), (q78, .inl (d79, 40, .inl (fun _ => 0))), (q80, .inl (d81, 3, .inr (.inr (.inr (.inr (va_up (va_up (va_up (fun _ => none) 0 (some q82)) 1 (some q95)) 2 (some q108))))))), (q82, .inr (8, [.ref q90, .int 0, .ref q92, .int 0])), (q90, .inl (d91, 160, .inl (fun _ => 0))), (q92, .inr (7, [.ref q93])), (q93, .inl (d94, 4, .inl unI)), (q95, .inr (8, [.ref q103, .int 0, .ref q105, .int 0])), (q103, .inl (d104, 160, .inl (fun _ => 0))), (q105, .inr (7, [.ref q106])), (q106, .inl (d107, 4, .inl unI)), (q108, .inr (8, [.ref q116, .int 0, .ref q118, .int 0])), (q116, .inl (d117, 160, .inl (fun _ => 0))), (q118, .inr (7, [.ref q119])), (q119, .inl (d120, 4, .inl unI))]) hk (hN rfl) hin11 tyX11 tyX11_ok nmX11 0 rfl rfl 6 (by decide) (by decide +kernel) rfl rfl rfl rfl rfl (by decide) rfl dX11_init_109 ?_
  refine g_aload_n hk dX11_init_112 rfl ?_
  refine g_new (ci := 0) (fs := [.null, .null, .null, .null, .int 0]) hk hin0 tyX0 tyX0_ok (by decide +kernel) (by decide +kernel) (by decide +kernel) rfl (fun j hj => by rcases (show j = 0 ∨ j = 1 ∨ j = 2 ∨ j = 3 ∨ j = 4 by omega) with rfl | rfl | rfl | rfl | rfl <;> rfl) (Nat.le_of_ble_eq_true rfl) (Nat.le_of_ble_eq_true rfl) dX11_init_113 (fun q121 => ?_)
  show GW κ 1 37 3279 ([(h0, .inr (11, [.ref q1, .ref q6, .ref q48, .ref q53, .ref q62, .ref q67, .ref q80, .null, .null, .null])), (q1, .inr (10, [.ref q4, .int 0, .int 0, .int 0, .int 0, .int 0, .int 0])), (q4, .inl (d5, 2000, .inl (fun _ => 0))), (q6, .inr (5, [.ref q1, .ref q33, .ref q39, .ref q44, .ref q46, .int 0, .int 0, .int 0, .int (-2), .int 0, .int 0, .int (-1), .int (-1)])), (q33, .inr (8, [.ref q34, .int 0, .ref q36, .int 0])), (q34, .inl (d35, 160, .inl (fun _ => 0))), (q36, .inr (7, [.ref q37])), (q37, .inl (d38, 4, .inl unI)), (q39, .inr (4, [.ref q40, .ref q42, .int 0])), (q40, .inl (d41, 80, .inl (fun _ => 0))), (q42, .inl (d43, 5, .inl (fun _ => 0))), (q44, .inl (d45, 5, .inl (fun _ => 0))), (q46, .inl (d47, 5, .inl (fun _ => 0))), (q48, .inr (6, [.ref q51, .int 0, .int 0])), (q51, .inl (d52, 256, .inl (fun _ => 0))), (q53, .inr (4, [.ref q58, .ref q60, .int 0])), (q58, .inl (d59, 80, .inl (fun _ => 0))), (q60, .inl (d61, 5, .inl (fun _ => 0))), (q62, .inr (7, [.ref q65])), (q65, .inl (d66, 4, .inl unI)), (q67, .inr (3, [.ref q74, .ref q76, .ref q78, .int 0, .int 0])), (q74, .inl (d75, 40, .inl (fun _ => 0))), (q76, .inl (d77, 40, .inl (fun _ => 0))), (q78, .inl (d79, 40, .inl (fun _ => 0))), (q80, .inl (d81, 3, .inr (.inr (.inr (.inr (va_up (va_up (va_up (fun _ => none) 0 (some q82)) 1 (some q95)) 2 (some q108))))))), (q82, .inr (8, [.ref q90, .int 0, .ref q92, .int 0])), (q90, .inl (d91, 160, .inl (fun _ => 0))), (q92, .inr (7, [.ref q93])), (q93, .inl (d94, 4, .inl unI)), (q95, .inr (8, [.ref q103, .int 0, .ref q105, .int 0])), (q103, .inl (d104, 160, .inl (fun _ => 0))), (q105, .inr (7, [.ref q106])), (q106, .inl (d107, 4, .inl unI)), (q108, .inr (8, [.ref q116, .int 0, .ref q118, .int 0])), (q116, .inl (d117, 160, .inl (fun _ => 0))), (q118, .inr (7, [.ref q119])), (q119, .inl (d120, 4, .inl unI)), (q121, .inr (0, [.null, .null, .null, .null, .int 0]))]) 116 [(0, .ref h0)] [.ref q121, .ref h0]
  refine g_dup hk dX11_init_116 rfl ?_
  refine g_aload_n hk dX11_init_117 rfl ?_
  refine g_get (v := .ref q48) hk hin11 0 rfl rfl 2 (by decide) (by decide +kernel) rfl rfl dX11_init_118 ?_
  refine g_aload_n hk dX11_init_121 rfl ?_
  refine g_get (v := .ref q53) hk hin11 0 rfl rfl 3 (by decide) (by decide +kernel) rfl rfl dX11_init_122 ?_
  refine g_aload_n hk dX11_init_125 rfl ?_
  refine g_get (v := .ref q62) hk hin11 0 rfl rfl 4 (by decide) (by decide +kernel) rfl rfl dX11_init_126 ?_
  refine g_callI hk (m17_X0_init l D zt q121 q48 q53 q62) (SP.suf [(h0, .inr (11, [.ref q1, .ref q6, .ref q48, .ref q53, .ref q62, .ref q67, .ref q80, .null, .null, .null])), (q1, .inr (10, [.ref q4, .int 0, .int 0, .int 0, .int 0, .int 0, .int 0])), (q4, .inl (d5, 2000, .inl (fun _ => 0))), (q6, .inr (5, [.ref q1, .ref q33, .ref q39, .ref q44, .ref q46, .int 0, .int 0, .int 0, .int (-2), .int 0, .int 0, .int (-1), .int (-1)])), (q33, .inr (8, [.ref q34, .int 0, .ref q36, .int 0])), (q34, .inl (d35, 160, .inl (fun _ => 0))), (q36, .inr (7, [.ref q37])), (q37, .inl (d38, 4, .inl unI)), (q39, .inr (4, [.ref q40, .ref q42, .int 0])), (q40, .inl (d41, 80, .inl (fun _ => 0))), (q42, .inl (d43, 5, .inl (fun _ => 0))), (q44, .inl (d45, 5, .inl (fun _ => 0))), (q46, .inl (d47, 5, .inl (fun _ => 0))), (q48, .inr (6, [.ref q51, .int 0, .int 0])), (q51, .inl (d52, 256, .inl (fun _ => 0))), (q53, .inr (4, [.ref q58, .ref q60, .int 0])), (q58, .inl (d59, 80, .inl (fun _ => 0))), (q60, .inl (d61, 5, .inl (fun _ => 0))), (q62, .inr (7, [.ref q65])), (q65, .inl (d66, 4, .inl unI)), (q67, .inr (3, [.ref q74, .ref q76, .ref q78, .int 0, .int 0])), (q74, .inl (d75, 40, .inl (fun _ => 0))), (q76, .inl (d77, 40, .inl (fun _ => 0))), (q78, .inl (d79, 40, .inl (fun _ => 0))), (q80, .inl (d81, 3, .inr (.inr (.inr (.inr (va_up (va_up (va_up (fun _ => none) 0 (some q82)) 1 (some q95)) 2 (some q108))))))), (q82, .inr (8, [.ref q90, .int 0, .ref q92, .int 0])), (q90, .inl (d91, 160, .inl (fun _ => 0))), (q92, .inr (7, [.ref q93])), (q93, .inl (d94, 4, .inl unI)), (q95, .inr (8, [.ref q103, .int 0, .ref q105, .int 0])), (q103, .inl (d104, 160, .inl (fun _ => 0))), (q105, .inr (7, [.ref q106])), (q106, .inl (d107, 4, .inl unI)), (q108, .inr (8, [.ref q116, .int 0, .ref q118, .int 0])), (q116, .inl (d117, 160, .inl (fun _ => 0))), (q118, .inr (7, [.ref q119])), (q119, .inl (d120, 4, .inl unI))] _) (fun _ h => absurd h List.not_mem_nil) gX11_init_X0_init rfl rfl rfl (by decide +kernel) (by decide +kernel) (by decide +kernel) rfl (by decide +kernel) ⟨Nat.le_of_ble_eq_true rfl, Nat.le_of_ble_eq_true rfl⟩ rfl rfl (Nat.le_of_ble_eq_true rfl) ⟨Nat.le_of_ble_eq_true rfl, Nat.le_of_ble_eq_true rfl⟩ dX11_init_129 (fun v ty' w' hp hk' => ?_)
  obtain ⟨q139, q140, d141, q142, d143, q144, d145, q146, d147, rfl, rfl, rfl⟩ := hp
  have hk : GC κ l D zt cX11_init 1 RX11 wsX11_init [(d5, .int), (d35, .int), (d38, .int), (d41, .int), (d43, .int), (d45, .int), (d47, .int), (d52, .int), (d59, .int), (d61, .int), (d66, .int), (d75, .int), (d77, .int), (d79, .int), (d81, .object RX8), (d91, .int), (d94, .int), (d104, .int), (d107, .int), (d117, .int), (d120, .int), (d141, .int), (d143, .int), (d145, .int), (d147, .int)] ({ frames := 4, cells := 51, slots := 7000, locals := 76 } : Room) := hk'
  show GW κ 1 42 3609 ([(h0, .inr (11, [.ref q1, .ref q6, .ref q48, .ref q53, .ref q62, .ref q67, .ref q80, .null, .null, .null])), (q1, .inr (10, [.ref q4, .int 0, .int 0, .int 0, .int 0, .int 0, .int 0])), (q4, .inl (d5, 2000, .inl (fun _ => 0))), (q6, .inr (5, [.ref q1, .ref q33, .ref q39, .ref q44, .ref q46, .int 0, .int 0, .int 0, .int (-2), .int 0, .int 0, .int (-1), .int (-1)])), (q33, .inr (8, [.ref q34, .int 0, .ref q36, .int 0])), (q34, .inl (d35, 160, .inl (fun _ => 0))), (q36, .inr (7, [.ref q37])), (q37, .inl (d38, 4, .inl unI)), (q39, .inr (4, [.ref q40, .ref q42, .int 0])), (q40, .inl (d41, 80, .inl (fun _ => 0))), (q42, .inl (d43, 5, .inl (fun _ => 0))), (q44, .inl (d45, 5, .inl (fun _ => 0))), (q46, .inl (d47, 5, .inl (fun _ => 0))), (q48, .inr (6, [.ref q51, .int 0, .int 0])), (q51, .inl (d52, 256, .inl (fun _ => 0))), (q53, .inr (4, [.ref q58, .ref q60, .int 0])), (q58, .inl (d59, 80, .inl (fun _ => 0))), (q60, .inl (d61, 5, .inl (fun _ => 0))), (q62, .inr (7, [.ref q65])), (q65, .inl (d66, 4, .inl unI)), (q67, .inr (3, [.ref q74, .ref q76, .ref q78, .int 0, .int 0])), (q74, .inl (d75, 40, .inl (fun _ => 0))), (q76, .inl (d77, 40, .inl (fun _ => 0))), (q78, .inl (d79, 40, .inl (fun _ => 0))), (q80, .inl (d81, 3, .inr (.inr (.inr (.inr (va_up (va_up (va_up (fun _ => none) 0 (some q82)) 1 (some q95)) 2 (some q108))))))), (q82, .inr (8, [.ref q90, .int 0, .ref q92, .int 0])), (q90, .inl (d91, 160, .inl (fun _ => 0))), (q92, .inr (7, [.ref q93])), (q93, .inl (d94, 4, .inl unI)), (q95, .inr (8, [.ref q103, .int 0, .ref q105, .int 0])), (q103, .inl (d104, 160, .inl (fun _ => 0))), (q105, .inr (7, [.ref q106])), (q106, .inl (d107, 4, .inl unI)), (q108, .inr (8, [.ref q116, .int 0, .ref q118, .int 0])), (q116, .inl (d117, 160, .inl (fun _ => 0))), (q118, .inr (7, [.ref q119])), (q119, .inl (d120, 4, .inl unI)), (q121, .inr (0, [.ref q48, .ref q53, .ref q62, .ref q139, .int 0])), (q139, .inr (2, [.ref q140, .ref q142, .ref q144, .ref q146, .int 0, .int 1, .int 0, .int 0, .int 0, .int 0])), (q140, .inl (d141, 16, .inl (fun _ => 0))), (q142, .inl (d143, 16, .inl (fun _ => 0))), (q144, .inl (d145, 256, .inl (fun _ => 0))), (q146, .inl (d147, 32, .inl (fun _ => 0)))]) 132 [(0, .ref h0)] [.ref q121, .ref h0]
  refine g_putF (ws' := [(h0, .inr (11, [.ref q1, .ref q6, .ref q48, .ref q53, .ref q62, .ref q67, .ref q80, .ref q121, .null, .null])), (q1, .inr (10, [.ref q4, .int 0, .int 0, .int 0, .int 0, .int 0, .int 0])), (q4, .inl (d5, 2000, .inl (fun _ => 0))), (q6, .inr (5, [.ref q1, .ref q33, .ref q39, .ref q44, .ref q46, .int 0, .int 0, .int 0, .int (-2), .int 0, .int 0, .int (-1), .int (-1)])), (q33, .inr (8, [.ref q34, .int 0, .ref q36, .int 0])), (q34, .inl (d35, 160, .inl (fun _ => 0))), (q36, .inr (7, [.ref q37])), (q37, .inl (d38, 4, .inl unI)), (q39, .inr (4, [.ref q40, .ref q42, .int 0])), (q40, .inl (d41, 80, .inl (fun _ => 0))), (q42, .inl (d43, 5, .inl (fun _ => 0))), (q44, .inl (d45, 5, .inl (fun _ => 0))), (q46, .inl (d47, 5, .inl (fun _ => 0))), (q48, .inr (6, [.ref q51, .int 0, .int 0])), (q51, .inl (d52, 256, .inl (fun _ => 0))), (q53, .inr (4, [.ref q58, .ref q60, .int 0])), (q58, .inl (d59, 80, .inl (fun _ => 0))), (q60, .inl (d61, 5, .inl (fun _ => 0))), (q62, .inr (7, [.ref q65])), (q65, .inl (d66, 4, .inl unI)), (q67, .inr (3, [.ref q74, .ref q76, .ref q78, .int 0, .int 0])), (q74, .inl (d75, 40, .inl (fun _ => 0))), (q76, .inl (d77, 40, .inl (fun _ => 0))), (q78, .inl (d79, 40, .inl (fun _ => 0))), (q80, .inl (d81, 3, .inr (.inr (.inr (.inr (va_up (va_up (va_up (fun _ => none) 0 (some q82)) 1 (some q95)) 2 (some q108))))))), (q82, .inr (8, [.ref q90, .int 0, .ref q92, .int 0])), (q90, .inl (d91, 160, .inl (fun _ => 0))), (q92, .inr (7, [.ref q93])), (q93, .inl (d94, 4, .inl unI)), (q95, .inr (8, [.ref q103, .int 0, .ref q105, .int 0])), (q103, .inl (d104, 160, .inl (fun _ => 0))), (q105, .inr (7, [.ref q106])), (q106, .inl (d107, 4, .inl unI)), (q108, .inr (8, [.ref q116, .int 0, .ref q118, .int 0])), (q116, .inl (d117, 160, .inl (fun _ => 0))), (q118, .inr (7, [.ref q119])), (q119, .inl (d120, 4, .inl unI)), (q121, .inr (0, [.ref q48, .ref q53, .ref q62, .ref q139, .int 0])), (q139, .inr (2, [.ref q140, .ref q142, .ref q144, .ref q146, .int 0, .int 1, .int 0, .int 0, .int 0, .int 0])), (q140, .inl (d141, 16, .inl (fun _ => 0))), (q142, .inl (d143, 16, .inl (fun _ => 0))), (q144, .inl (d145, 256, .inl (fun _ => 0))), (q146, .inl (d147, 32, .inl (fun _ => 0)))]) hk (hN rfl) hin11 tyX11 tyX11_ok nmX11 0 rfl rfl 7 (by decide) (by decide +kernel) rfl rfl rfl rfl rfl (by decide) rfl dX11_init_132 ?_
  refine g_aload_n hk dX11_init_135 rfl ?_
  refine g_new (ci := 1) (fs := [.null, .null, .null, .null, .int 0, .int 0, .null, .null, .null, .int 0, .null]) hk hin1 tyX1 tyX1_ok (by decide +kernel) (by decide +kernel) (by decide +kernel) rfl (fun j hj => by rcases (show j = 0 ∨ j = 1 ∨ j = 2 ∨ j = 3 ∨ j = 4 ∨ j = 5 ∨ j = 6 ∨ j = 7 ∨ j = 8 ∨ j = 9 ∨ j = 10 by omega) with rfl | rfl | rfl | rfl | rfl | rfl | rfl | rfl | rfl | rfl | rfl <;> rfl) (Nat.le_of_ble_eq_true rfl) (Nat.le_of_ble_eq_true rfl) dX11_init_136 (fun q148 => ?_)
  show GW κ 1 43 3620 ([(h0, .inr (11, [.ref q1, .ref q6, .ref q48, .ref q53, .ref q62, .ref q67, .ref q80, .ref q121, .null, .null])), (q1, .inr (10, [.ref q4, .int 0, .int 0, .int 0, .int 0, .int 0, .int 0])), (q4, .inl (d5, 2000, .inl (fun _ => 0))), (q6, .inr (5, [.ref q1, .ref q33, .ref q39, .ref q44, .ref q46, .int 0, .int 0, .int 0, .int (-2), .int 0, .int 0, .int (-1), .int (-1)])), (q33, .inr (8, [.ref q34, .int 0, .ref q36, .int 0])), (q34, .inl (d35, 160, .inl (fun _ => 0))), (q36, .inr (7, [.ref q37])), (q37, .inl (d38, 4, .inl unI)), (q39, .inr (4, [.ref q40, .ref q42, .int 0])), (q40, .inl (d41, 80, .inl (fun _ => 0))), (q42, .inl (d43, 5, .inl (fun _ => 0))), (q44, .inl (d45, 5, .inl (fun _ => 0))), (q46, .inl (d47, 5, .inl (fun _ => 0))), (q48, .inr (6, [.ref q51, .int 0, .int 0])), (q51, .inl (d52, 256, .inl (fun _ => 0))), (q53, .inr (4, [.ref q58, .ref q60, .int 0])), (q58, .inl (d59, 80, .inl (fun _ => 0))), (q60, .inl (d61, 5, .inl (fun _ => 0))), (q62, .inr (7, [.ref q65])), (q65, .inl (d66, 4, .inl unI)), (q67, .inr (3, [.ref q74, .ref q76, .ref q78, .int 0, .int 0])), (q74, .inl (d75, 40, .inl (fun _ => 0))), (q76, .inl (d77, 40, .inl (fun _ => 0))), (q78, .inl (d79, 40, .inl (fun _ => 0))), (q80, .inl (d81, 3, .inr (.inr (.inr (.inr (va_up (va_up (va_up (fun _ => none) 0 (some q82)) 1 (some q95)) 2 (some q108))))))), (q82, .inr (8, [.ref q90, .int 0, .ref q92, .int 0])), (q90, .inl (d91, 160, .inl (fun _ => 0))), (q92, .inr (7, [.ref q93])), (q93, .inl (d94, 4, .inl unI)), (q95, .inr (8, [.ref q103, .int 0, .ref q105, .int 0])), (q103, .inl (d104, 160, .inl (fun _ => 0))), (q105, .inr (7, [.ref q106])), (q106, .inl (d107, 4, .inl unI)), (q108, .inr (8, [.ref q116, .int 0, .ref q118, .int 0])), (q116, .inl (d117, 160, .inl (fun _ => 0))), (q118, .inr (7, [.ref q119])), (q119, .inl (d120, 4, .inl unI)), (q121, .inr (0, [.ref q48, .ref q53, .ref q62, .ref q139, .int 0])), (q139, .inr (2, [.ref q140, .ref q142, .ref q144, .ref q146, .int 0, .int 1, .int 0, .int 0, .int 0, .int 0])), (q140, .inl (d141, 16, .inl (fun _ => 0))), (q142, .inl (d143, 16, .inl (fun _ => 0))), (q144, .inl (d145, 256, .inl (fun _ => 0))), (q146, .inl (d147, 32, .inl (fun _ => 0))), (q148, .inr (1, [.null, .null, .null, .null, .int 0, .int 0, .null, .null, .null, .int 0, .null]))]) 139 [(0, .ref h0)] [.ref q148, .ref h0]
  refine g_dup hk dX11_init_139 rfl ?_
  refine g_aload_n hk dX11_init_140 rfl ?_
  refine g_get (v := .ref q121) hk hin11 0 rfl rfl 7 (by decide) (by decide +kernel) rfl rfl dX11_init_141 ?_
  refine g_callI hk (m18_X1_init l D zt d104 d107 d117 d120 d141 d143 d145 d147 d35 d38 d41 d43 d45 d47 d5 d52 d59 d61 d66 d75 d77 d79 d81 d91 d94 h0 q1 q103 q105 q106 q108 q116 q118 q119 q121 q139 q140 q142 q144 q146 q148 q33 q34 q36 q37 q39 q4 q40 q42 q44 q46 q48 q51 q53 q58 q6 q60 q62 q65 q67 q74 q76 q78 q80 q82 q90 q92 q93 q95) (SP.same _) (fun _ h => h) gX11_init_X1_init rfl rfl rfl (by decide +kernel) (by decide +kernel) (by decide +kernel) rfl (by decide +kernel) ⟨Nat.le_of_ble_eq_true rfl, Nat.le_of_ble_eq_true rfl⟩ rfl rfl (Nat.le_of_ble_eq_true rfl) ⟨Nat.le_of_ble_eq_true rfl, Nat.le_of_ble_eq_true rfl⟩ dX11_init_144 (fun v ty' w' hp hk' => ?_)
  obtain ⟨q159, d160, q161, d162, q163, d164, q165, d166, q167, d168, rfl, rfl, rfl⟩ := hp
  have hk : GC κ l D zt cX11_init 1 RX11 wsX11_init [(d5, .int), (d35, .int), (d38, .int), (d41, .int), (d43, .int), (d45, .int), (d47, .int), (d52, .int), (d59, .int), (d61, .int), (d66, .int), (d75, .int), (d77, .int), (d79, .int), (d81, .object RX8), (d91, .int), (d94, .int), (d104, .int), (d107, .int), (d117, .int), (d120, .int), (d141, .int), (d143, .int), (d145, .int), (d147, .int), (d160, .int), (d162, .int), (d164, .int), (d166, .int), (d168, .boolean)] ({ frames := 4, cells := 51, slots := 7000, locals := 76 } : Room) := hk'.tys (fun q h => List.mem_append_right _ h)
  show GW κ 1 48 4269 ([(h0, .inr (11, [.ref q1, .ref q6, .ref q48, .ref q53, .ref q62, .ref q67, .ref q80, .ref q121, .null, .null])), (q1, .inr (10, [.ref q4, .int 0, .int 0, .int 0, .int 0, .int 0, .int 0])), (q4, .inl (d5, 2000, .inl (fun _ => 0))), (q6, .inr (5, [.ref q1, .ref q33, .ref q39, .ref q44, .ref q46, .int 0, .int 0, .int 0, .int (-2), .int 0, .int 0, .int (-1), .int (-1)])), (q33, .inr (8, [.ref q34, .int 0, .ref q36, .int 0])), (q34, .inl (d35, 160, .inl (fun _ => 0))), (q36, .inr (7, [.ref q37])), (q37, .inl (d38, 4, .inl unI)), (q39, .inr (4, [.ref q40, .ref q42, .int 0])), (q40, .inl (d41, 80, .inl (fun _ => 0))), (q42, .inl (d43, 5, .inl (fun _ => 0))), (q44, .inl (d45, 5, .inl (fun _ => 0))), (q46, .inl (d47, 5, .inl (fun _ => 0))), (q48, .inr (6, [.ref q51, .int 0, .int 0])), (q51, .inl (d52, 256, .inl (fun _ => 0))), (q53, .inr (4, [.ref q58, .ref q60, .int 0])), (q58, .inl (d59, 80, .inl (fun _ => 0))), (q60, .inl (d61, 5, .inl (fun _ => 0))), (q62, .inr (7, [.ref q65])), (q65, .inl (d66, 4, .inl unI)), (q67, .inr (3, [.ref q74, .ref q76, .ref q78, .int 0, .int 0])), (q74, .inl (d75, 40, .inl (fun _ => 0))), (q76, .inl (d77, 40, .inl (fun _ => 0))), (q78, .inl (d79, 40, .inl (fun _ => 0))), (q80, .inl (d81, 3, .inr (.inr (.inr (.inr (va_up (va_up (va_up (fun _ => none) 0 (some q82)) 1 (some q95)) 2 (some q108))))))), (q82, .inr (8, [.ref q90, .int 0, .ref q92, .int 0])), (q90, .inl (d91, 160, .inl (fun _ => 0))), (q92, .inr (7, [.ref q93])), (q93, .inl (d94, 4, .inl unI)), (q95, .inr (8, [.ref q103, .int 0, .ref q105, .int 0])), (q103, .inl (d104, 160, .inl (fun _ => 0))), (q105, .inr (7, [.ref q106])), (q106, .inl (d107, 4, .inl unI)), (q108, .inr (8, [.ref q116, .int 0, .ref q118, .int 0])), (q116, .inl (d117, 160, .inl (fun _ => 0))), (q118, .inr (7, [.ref q119])), (q119, .inl (d120, 4, .inl unI)), (q121, .inr (0, [.ref q48, .ref q53, .ref q62, .ref q139, .int 0])), (q139, .inr (2, [.ref q140, .ref q142, .ref q144, .ref q146, .int 0, .int 1, .int 0, .int 0, .int 0, .int 0])), (q140, .inl (d141, 16, .inl (fun _ => 0))), (q142, .inl (d143, 16, .inl (fun _ => 0))), (q144, .inl (d145, 256, .inl (fun _ => 0))), (q146, .inl (d147, 32, .inl (fun _ => 0))), (q148, .inr (1, [.ref q121, .ref q48, .ref q53, .ref q159, .int 0, .int 0, .ref q161, .ref q163, .ref q165, .int 0, .ref q167])), (q159, .inl (d160, 9, .inl (fun _ => 0))), (q161, .inl (d162, 160, .inl (fun _ => 0))), (q163, .inl (d164, 160, .inl (fun _ => 0))), (q165, .inl (d166, 160, .inl (fun _ => 0))), (q167, .inl (d168, 160, .inl (fun _ => 0)))]) 147 [(0, .ref h0)] [.ref q148, .ref h0]
  refine g_putF (ws' := [(h0, .inr (11, [.ref q1, .ref q6, .ref q48, .ref q53, .ref q62, .ref q67, .ref q80, .ref q121, .ref q148, .null])), (q1, .inr (10, [.ref q4, .int 0, .int 0, .int 0, .int 0, .int 0, .int 0])), (q4, .inl (d5, 2000, .inl (fun _ => 0))), (q6, .inr (5, [.ref q1, .ref q33, .ref q39, .ref q44, .ref q46, .int 0, .int 0, .int 0, .int (-2), .int 0, .int 0, .int (-1), .int (-1)])), (q33, .inr (8, [.ref q34, .int 0, .ref q36, .int 0])), (q34, .inl (d35, 160, .inl (fun _ => 0))), (q36, .inr (7, [.ref q37])), (q37, .inl (d38, 4, .inl unI)), (q39, .inr (4, [.ref q40, .ref q42, .int 0])), (q40, .inl (d41, 80, .inl (fun _ => 0))), (q42, .inl (d43, 5, .inl (fun _ => 0))), (q44, .inl (d45, 5, .inl (fun _ => 0))), (q46, .inl (d47, 5, .inl (fun _ => 0))), (q48, .inr (6, [.ref q51, .int 0, .int 0])), (q51, .inl (d52, 256, .inl (fun _ => 0))), (q53, .inr (4, [.ref q58, .ref q60, .int 0])), (q58, .inl (d59, 80, .inl (fun _ => 0))), (q60, .inl (d61, 5, .inl (fun _ => 0))), (q62, .inr (7, [.ref q65])), (q65, .inl (d66, 4, .inl unI)), (q67, .inr (3, [.ref q74, .ref q76, .ref q78, .int 0, .int 0])), (q74, .inl (d75, 40, .inl (fun _ => 0))), (q76, .inl (d77, 40, .inl (fun _ => 0))), (q78, .inl (d79, 40, .inl (fun _ => 0))), (q80, .inl (d81, 3, .inr (.inr (.inr (.inr (va_up (va_up (va_up (fun _ => none) 0 (some q82)) 1 (some q95)) 2 (some q108))))))), (q82, .inr (8, [.ref q90, .int 0, .ref q92, .int 0])), (q90, .inl (d91, 160, .inl (fun _ => 0))), (q92, .inr (7, [.ref q93])), (q93, .inl (d94, 4, .inl unI)), (q95, .inr (8, [.ref q103, .int 0, .ref q105, .int 0])), (q103, .inl (d104, 160, .inl (fun _ => 0))), (q105, .inr (7, [.ref q106])), (q106, .inl (d107, 4, .inl unI)), (q108, .inr (8, [.ref q116, .int 0, .ref q118, .int 0])), (q116, .inl (d117, 160, .inl (fun _ => 0))), (q118, .inr (7, [.ref q119])), (q119, .inl (d120, 4, .inl unI)), (q121, .inr (0, [.ref q48, .ref q53, .ref q62, .ref q139, .int 0])), (q139, .inr (2, [.ref q140, .ref q142, .ref q144, .ref q146, .int 0, .int 1, .int 0, .int 0, .int 0, .int 0])), (q140, .inl (d141, 16, .inl (fun _ => 0))), (q142, .inl (d143, 16, .inl (fun _ => 0))), (q144, .inl (d145, 256, .inl (fun _ => 0))), (q146, .inl (d147, 32, .inl (fun _ => 0))), (q148, .inr (1, [.ref q121, .ref q48, .ref q53, .ref q159, .int 0, .int 0, .ref q161, .ref q163, .ref q165, .int 0, .ref q167])), (q159, .inl (d160, 9, .inl (fun _ => 0))), (q161, .inl (d162, 160, .inl (fun _ => 0))), (q163, .inl (d164, 160, .inl (fun _ => 0))), (q165, .inl (d166, 160, .inl (fun _ => 0))), (q167, .inl (d168, 160, .inl (fun _ => 0)))]) hk (hN rfl) hin11 tyX11 tyX11_ok nmX11 0 rfl rfl 8 (by decide) (by decide +kernel) rfl rfl rfl rfl rfl (by decide) rfl dX11_init_147 ?_
  refine g_aload_n hk dX11_init_150 rfl ?_
  refine g_new (ci := 9) (fs := [.null, .null, .null, .null, .int 0, .int 0, .int 0, .int 0, .int 0, .int 0, .int 0]) hk hin9 tyX9 tyX9_ok (by decide +kernel) (by decide +kernel) (by decide +kernel) rfl (fun j hj => by rcases (show j = 0 ∨ j = 1 ∨ j = 2 ∨ j = 3 ∨ j = 4 ∨ j = 5 ∨ j = 6 ∨ j = 7 ∨ j = 8 ∨ j = 9 ∨ j = 10 by omega) with rfl | rfl | rfl | rfl | rfl | rfl | rfl | rfl | rfl | rfl | rfl <;> rfl) (Nat.le_of_ble_eq_true rfl) (Nat.le_of_ble_eq_true rfl) dX11_init_151 (fun q169 => ?_)
  show GW κ 1 49 4280 ([(h0, .inr (11, [.ref q1, .ref q6, .ref q48, .ref q53, .ref q62, .ref q67, .ref q80, .ref q121, .ref q148, .null])), (q1, .inr (10, [.ref q4, .int 0, .int 0, .int 0, .int 0, .int 0, .int 0])), (q4, .inl (d5, 2000, .inl (fun _ => 0))), (q6, .inr (5, [.ref q1, .ref q33, .ref q39, .ref q44, .ref q46, .int 0, .int 0, .int 0, .int (-2), .int 0, .int 0, .int (-1), .int (-1)])), (q33, .inr (8, [.ref q34, .int 0, .ref q36, .int 0])), (q34, .inl (d35, 160, .inl (fun _ => 0))), (q36, .inr (7, [.ref q37])), (q37, .inl (d38, 4, .inl unI)), (q39, .inr (4, [.ref q40, .ref q42, .int 0])), (q40, .inl (d41, 80, .inl (fun _ => 0))), (q42, .inl (d43, 5, .inl (fun _ => 0))), (q44, .inl (d45, 5, .inl (fun _ => 0))), (q46, .inl (d47, 5, .inl (fun _ => 0))), (q48, .inr (6, [.ref q51, .int 0, .int 0])), (q51, .inl (d52, 256, .inl (fun _ => 0))), (q53, .inr (4, [.ref q58, .ref q60, .int 0])), (q58, .inl (d59, 80, .inl (fun _ => 0))), (q60, .inl (d61, 5, .inl (fun _ => 0))), (q62, .inr (7, [.ref q65])), (q65, .inl (d66, 4, .inl unI)), (q67, .inr (3, [.ref q74, .ref q76, .ref q78, .int 0, .int 0])), (q74, .inl (d75, 40, .inl (fun _ => 0))), (q76, .inl (d77, 40, .inl (fun _ => 0))), (q78, .inl (d79, 40, .inl (fun _ => 0))), (q80, .inl (d81, 3, .inr (.inr (.inr (.inr (va_up (va_up (va_up (fun _ => none) 0 (some q82)) 1 (some q95)) 2 (some q108))))))), (q82, .inr (8, [.ref q90, .int 0, .ref q92, .int 0])), (q90, .inl (d91, 160, .inl (fun _ => 0))), (q92, .inr (7, [.ref q93])), (q93, .inl (d94, 4, .inl unI)), (q95, .inr (8, [.ref q103, .int 0, .ref q105, .int 0])), (q103, .inl (d104, 160, .inl (fun _ => 0))), (q105, .inr (7, [.ref q106])), (q106, .inl (d107, 4, .inl unI)), (q108, .inr (8, [.ref q116, .int 0, .ref q118, .int 0])), (q116, .inl (d117, 160, .inl (fun _ => 0))), (q118, .inr (7, [.ref q119])), (q119, .inl (d120, 4, .inl unI)), (q121, .inr (0, [.ref q48, .ref q53, .ref q62, .ref q139, .int 0])), (q139, .inr (2, [.ref q140, .ref q142, .ref q144, .ref q146, .int 0, .int 1, .int 0, .int 0, .int 0, .int 0])), (q140, .inl (d141, 16, .inl (fun _ => 0))), (q142, .inl (d143, 16, .inl (fun _ => 0))), (q144, .inl (d145, 256, .inl (fun _ => 0))), (q146, .inl (d147, 32, .inl (fun _ => 0))), (q148, .inr (1, [.ref q121, .ref q48, .ref q53, .ref q159, .int 0, .int 0, .ref q161, .ref q163, .ref q165, .int 0, .ref q167])), (q159, .inl (d160, 9, .inl (fun _ => 0))), (q161, .inl (d162, 160, .inl (fun _ => 0))), (q163, .inl (d164, 160, .inl (fun _ => 0))), (q165, .inl (d166, 160, .inl (fun _ => 0))), (q167, .inl (d168, 160, .inl (fun _ => 0))), (q169, .inr (9, [.null, .null, .null, .null, .int 0, .int 0, .int 0, .int 0, .int 0, .int 0, .int 0]))]) 154 [(0, .ref h0)] [.ref q169, .ref h0]
  refine g_dup hk dX11_init_154 rfl ?_
  refine g_aload_n hk dX11_init_155 rfl ?_
  refine g_get (v := .ref q121) hk hin11 0 rfl rfl 7 (by decide) (by decide +kernel) rfl rfl dX11_init_156 ?_
  refine g_callI hk (m19_X9_init l D zt d104 d107 d117 d120 d141 d143 d145 d147 d160 d162 d164 d166 d168 d35 d38 d41 d43 d45 d47 d5 d52 d59 d61 d66 d75 d77 d79 d81 d91 d94 h0 q1 q103 q105 q106 q108 q116 q118 q119 q121 q139 q140 q142 q144 q146 q148 q159 q161 q163 q165 q167 q169 q33 q34 q36 q37 q39 q4 q40 q42 q44 q46 q48 q51 q53 q58 q6 q60 q62 q65 q67 q74 q76 q78 q80 q82 q90 q92 q93 q95) (SP.same _) (fun _ h => h) gX11_init_X9_init rfl rfl rfl (by decide +kernel) (by decide +kernel) (by decide +kernel) rfl (by decide +kernel) ⟨Nat.le_of_ble_eq_true rfl, Nat.le_of_ble_eq_true rfl⟩ rfl rfl (Nat.le_of_ble_eq_true rfl) ⟨Nat.le_of_ble_eq_true rfl, Nat.le_of_ble_eq_true rfl⟩ dX11_init_159 (fun v ty' w' hp hk' => ?_)
  obtain ⟨q174, d175, q176, d177, rfl, rfl, rfl⟩ := hp
  have hk : GC κ l D zt cX11_init 1 RX11 wsX11_init [(d5, .int), (d35, .int), (d38, .int), (d41, .int), (d43, .int), (d45, .int), (d47, .int), (d52, .int), (d59, .int), (d61, .int), (d66, .int), (d75, .int), (d77, .int), (d79, .int), (d81, .object RX8), (d91, .int), (d94, .int), (d104, .int), (d107, .int), (d117, .int), (d120, .int), (d141, .int), (d143, .int), (d145, .int), (d147, .int), (d160, .int), (d162, .int), (d164, .int), (d166, .int), (d168, .boolean), (d175, .int), (d177, .boolean)] ({ frames := 4, cells := 51, slots := 7000, locals := 76 } : Room) := hk'.tys (fun q h => List.mem_append_right _ h)
  show GW κ 1 51 7000 ([(h0, .inr (11, [.ref q1, .ref q6, .ref q48, .ref q53, .ref q62, .ref q67, .ref q80, .ref q121, .ref q148, .null])), (q1, .inr (10, [.ref q4, .int 0, .int 0, .int 0, .int 0, .int 0, .int 0])), (q4, .inl (d5, 2000, .inl (fun _ => 0))), (q6, .inr (5, [.ref q1, .ref q33, .ref q39, .ref q44, .ref q46, .int 0, .int 0, .int 0, .int (-2), .int 0, .int 0, .int (-1), .int (-1)])), (q33, .inr (8, [.ref q34, .int 0, .ref q36, .int 0])), (q34, .inl (d35, 160, .inl (fun _ => 0))), (q36, .inr (7, [.ref q37])), (q37, .inl (d38, 4, .inl unI)), (q39, .inr (4, [.ref q40, .ref q42, .int 0])), (q40, .inl (d41, 80, .inl (fun _ => 0))), (q42, .inl (d43, 5, .inl (fun _ => 0))), (q44, .inl (d45, 5, .inl (fun _ => 0))), (q46, .inl (d47, 5, .inl (fun _ => 0))), (q48, .inr (6, [.ref q51, .int 0, .int 0])), (q51, .inl (d52, 256, .inl (fun _ => 0))), (q53, .inr (4, [.ref q58, .ref q60, .int 0])), (q58, .inl (d59, 80, .inl (fun _ => 0))), (q60, .inl (d61, 5, .inl (fun _ => 0))), (q62, .inr (7, [.ref q65])), (q65, .inl (d66, 4, .inl unI)), (q67, .inr (3, [.ref q74, .ref q76, .ref q78, .int 0, .int 0])), (q74, .inl (d75, 40, .inl (fun _ => 0))), (q76, .inl (d77, 40, .inl (fun _ => 0))), (q78, .inl (d79, 40, .inl (fun _ => 0))), (q80, .inl (d81, 3, .inr (.inr (.inr (.inr (va_up (va_up (va_up (fun _ => none) 0 (some q82)) 1 (some q95)) 2 (some q108))))))), (q82, .inr (8, [.ref q90, .int 0, .ref q92, .int 0])), (q90, .inl (d91, 160, .inl (fun _ => 0))), (q92, .inr (7, [.ref q93])), (q93, .inl (d94, 4, .inl unI)), (q95, .inr (8, [.ref q103, .int 0, .ref q105, .int 0])), (q103, .inl (d104, 160, .inl (fun _ => 0))), (q105, .inr (7, [.ref q106])), (q106, .inl (d107, 4, .inl unI)), (q108, .inr (8, [.ref q116, .int 0, .ref q118, .int 0])), (q116, .inl (d117, 160, .inl (fun _ => 0))), (q118, .inr (7, [.ref q119])), (q119, .inl (d120, 4, .inl unI)), (q121, .inr (0, [.ref q48, .ref q53, .ref q62, .ref q139, .int 0])), (q139, .inr (2, [.ref q140, .ref q142, .ref q144, .ref q146, .int 0, .int 1, .int 0, .int 0, .int 0, .int 0])), (q140, .inl (d141, 16, .inl (fun _ => 0))), (q142, .inl (d143, 16, .inl (fun _ => 0))), (q144, .inl (d145, 256, .inl (fun _ => 0))), (q146, .inl (d147, 32, .inl (fun _ => 0))), (q148, .inr (1, [.ref q121, .ref q48, .ref q53, .ref q159, .int 0, .int 0, .ref q161, .ref q163, .ref q165, .int 0, .ref q167])), (q159, .inl (d160, 9, .inl (fun _ => 0))), (q161, .inl (d162, 160, .inl (fun _ => 0))), (q163, .inl (d164, 160, .inl (fun _ => 0))), (q165, .inl (d166, 160, .inl (fun _ => 0))), (q167, .inl (d168, 160, .inl (fun _ => 0))), (q169, .inr (9, [.ref q121, .ref q139, .ref q174, .ref q176, .int 0, .int 0, .int 0, .int 0, .int 0, .int 0, .int 0])), (q174, .inl (d175, 2560, .inl (fun _ => 0))), (q176, .inl (d177, 160, .inl (fun _ => 0)))]) 162 [(0, .ref h0)] [.ref q169, .ref h0]
  refine g_putF (ws' := [(h0, .inr (11, [.ref q1, .ref q6, .ref q48, .ref q53, .ref q62, .ref q67, .ref q80, .ref q121, .ref q148, .ref q169])), (q1, .inr (10, [.ref q4, .int 0, .int 0, .int 0, .int 0, .int 0, .int 0])), (q4, .inl (d5, 2000, .inl (fun _ => 0))), (q6, .inr (5, [.ref q1, .ref q33, .ref q39, .ref q44, .ref q46, .int 0, .int 0, .int 0, .int (-2), .int 0, .int 0, .int (-1), .int (-1)])), (q33, .inr (8, [.ref q34, .int 0, .ref q36, .int 0])), (q34, .inl (d35, 160, .inl (fun _ => 0))), (q36, .inr (7, [.ref q37])), (q37, .inl (d38, 4, .inl unI)), (q39, .inr (4, [.ref q40, .ref q42, .int 0])), (q40, .inl (d41, 80, .inl (fun _ => 0))), (q42, .inl (d43, 5, .inl (fun _ => 0))), (q44, .inl (d45, 5, .inl (fun _ => 0))), (q46, .inl (d47, 5, .inl (fun _ => 0))), (q48, .inr (6, [.ref q51, .int 0, .int 0])), (q51, .inl (d52, 256, .inl (fun _ => 0))), (q53, .inr (4, [.ref q58, .ref q60, .int 0])), (q58, .inl (d59, 80, .inl (fun _ => 0))), (q60, .inl (d61, 5, .inl (fun _ => 0))), (q62, .inr (7, [.ref q65])), (q65, .inl (d66, 4, .inl unI)), (q67, .inr (3, [.ref q74, .ref q76, .ref q78, .int 0, .int 0])), (q74, .inl (d75, 40, .inl (fun _ => 0))), (q76, .inl (d77, 40, .inl (fun _ => 0))), (q78, .inl (d79, 40, .inl (fun _ => 0))), (q80, .inl (d81, 3, .inr (.inr (.inr (.inr (va_up (va_up (va_up (fun _ => none) 0 (some q82)) 1 (some q95)) 2 (some q108))))))), (q82, .inr (8, [.ref q90, .int 0, .ref q92, .int 0])), (q90, .inl (d91, 160, .inl (fun _ => 0))), (q92, .inr (7, [.ref q93])), (q93, .inl (d94, 4, .inl unI)), (q95, .inr (8, [.ref q103, .int 0, .ref q105, .int 0])), (q103, .inl (d104, 160, .inl (fun _ => 0))), (q105, .inr (7, [.ref q106])), (q106, .inl (d107, 4, .inl unI)), (q108, .inr (8, [.ref q116, .int 0, .ref q118, .int 0])), (q116, .inl (d117, 160, .inl (fun _ => 0))), (q118, .inr (7, [.ref q119])), (q119, .inl (d120, 4, .inl unI)), (q121, .inr (0, [.ref q48, .ref q53, .ref q62, .ref q139, .int 0])), (q139, .inr (2, [.ref q140, .ref q142, .ref q144, .ref q146, .int 0, .int 1, .int 0, .int 0, .int 0, .int 0])), (q140, .inl (d141, 16, .inl (fun _ => 0))), (q142, .inl (d143, 16, .inl (fun _ => 0))), (q144, .inl (d145, 256, .inl (fun _ => 0))), (q146, .inl (d147, 32, .inl (fun _ => 0))), (q148, .inr (1, [.ref q121, .ref q48, .ref q53, .ref q159, .int 0, .int 0, .ref q161, .ref q163, .ref q165, .int 0, .ref q167])), (q159, .inl (d160, 9, .inl (fun _ => 0))), (q161, .inl (d162, 160, .inl (fun _ => 0))), (q163, .inl (d164, 160, .inl (fun _ => 0))), (q165, .inl (d166, 160, .inl (fun _ => 0))), (q167, .inl (d168, 160, .inl (fun _ => 0))), (q169, .inr (9, [.ref q121, .ref q139, .ref q174, .ref q176, .int 0, .int 0, .int 0, .int 0, .int 0, .int 0, .int 0])), (q174, .inl (d175, 2560, .inl (fun _ => 0))), (q176, .inl (d177, 160, .inl (fun _ => 0)))]) hk (hN rfl) hin11 tyX11 tyX11_ok nmX11 0 rfl rfl 9 (by decide) (by decide +kernel) rfl rfl rfl rfl rfl (by decide) rfl dX11_init_162 ?_
  exact g_vret hk hR ⟨q1, q4, d5, q6, q33, q34, d35, q36, q37, d38, q39, q40, d41, q42, d43, q44, d45, q46, d47, q48, q51, d52, q53, q58, d59, q60, d61, q62, q65, d66, q67, q74, d75, q76, d77, q78, d79, q80, d81, q82, q90, d91, q92, q93, d94, q95, q103, d104, q105, q106, d107, q108, q116, d117, q118, q119, d120, q121, q139, q140, d141, q142, d143, q144, d145, q146, d147, q148, q159, d160, q161, d162, q163, d164, q165, d166, q167, d168, q169, q174, d175, q176, d177, rfl, rfl, rfl⟩ dX11_init_165
set_option maxHeartbeats 4000000 in
set_option maxRecDepth 100000 in
theorem m21_X12_plain (l : Launch) (D : va_G) (zt : Nat × Nat × Nat) (g : Nat → ClassId) (r : Nat → Nat) : GM l D zt (tyM g) yX12_plain wsX12_plain ({ frames := 0, cells := 0, slots := 0, locals := 0 } : Room) [.ref (r 0), .int 0] (wM r g iM0 aM0 lM0) (fun v _ w' => v = none ∧ w' = wM r g iM0 (up3 (up3 aM0 13 0 2) 16 0 8) lM0) 0 0 := by
  refine GM.of (cc := cX12_plain) (maxL := 2) (ret := none) (own := RX12) (lv := [(0, .ref (r 0)), (1, .int 0)]) (by decide) rfl rfl (Nat.le_of_ble_eq_true rfl) rfl (fun κ sz hk hR hN => ?_)
  have hin12 : ∀ w ∈ u_ws RX12 TX12 55, w ∈ wsX12_plain := by decide +kernel
  refine g_aload_n hk dX12_plain_0 rfl ?_
  refine gM_r0_26 hk hin12 (by decide +kernel) dX12_plain_1 ?_
  refine g_iload_n hk dX12_plain_4 rfl ?_
  refine g_iconst (v := 0) hk dX12_plain_5 (by decide) ?_
  refine sM_8 (j := 0) hk (vp_in_iff.mpr ⟨by decide, by decide⟩) (by decide) dX12_plain_6 ?_
  refine gM_same rfl ?_
  refine g_aload_n hk dX12_plain_7 rfl ?_
  refine gM_r0_28 hk hin12 (by decide +kernel) dX12_plain_8 ?_
  refine g_iload_n hk dX12_plain_11 rfl ?_
  refine g_iconst (v := 0) hk dX12_plain_12 (by decide) ?_
  refine sM_10 (j := 0) hk (vp_in_iff.mpr ⟨by decide, by decide⟩) (by decide) dX12_plain_13 ?_
  refine gM_same rfl ?_
  refine g_aload_n hk dX12_plain_14 rfl ?_
  refine gM_r0_31 hk hin12 (by decide +kernel) dX12_plain_15 ?_
  refine g_iload_n hk dX12_plain_18 rfl ?_
  refine g_iconst (v := 2) hk dX12_plain_19 (by decide) ?_
  refine sM_13 (j := 0) hk (vp_in_iff.mpr ⟨by decide, by decide⟩) (by decide) dX12_plain_20 ?_
  refine g_aload_n hk dX12_plain_21 rfl ?_
  refine gM_r0_32 hk hin12 (by decide +kernel) dX12_plain_22 ?_
  refine g_iload_n hk dX12_plain_25 rfl ?_
  refine g_iconst (v := 0) hk dX12_plain_26 (by decide) ?_
  refine sM_14 (j := 0) hk (vp_in_iff.mpr ⟨by decide, by decide⟩) (by decide) dX12_plain_27 ?_
  refine gM_same rfl ?_
  refine g_aload_n hk dX12_plain_28 rfl ?_
  refine gM_r0_33 hk hin12 (by decide +kernel) dX12_plain_29 ?_
  refine g_iload_n hk dX12_plain_32 rfl ?_
  refine g_iconst (v := 0) hk dX12_plain_33 (by decide) ?_
  refine sM_15 (j := 0) hk (vp_in_iff.mpr ⟨by decide, by decide⟩) (by decide) dX12_plain_34 ?_
  refine gM_same rfl ?_
  refine g_aload_n hk dX12_plain_35 rfl ?_
  refine gM_r0_34 hk hin12 (by decide +kernel) dX12_plain_36 ?_
  refine g_iload_n hk dX12_plain_39 rfl ?_
  refine g_bipush (v := 8) hk dX12_plain_40 (by decide) ?_
  refine sM_16 (j := 0) hk (vp_in_iff.mpr ⟨by decide, by decide⟩) (by decide) dX12_plain_42 ?_
  exact g_vret hk hR ⟨rfl, rfl⟩ dX12_plain_43
set_option maxHeartbeats 4000000 in
set_option maxRecDepth 100000 in
theorem m22_X12_plain (l : Launch) (D : va_G) (zt : Nat × Nat × Nat) (g : Nat → ClassId) (r : Nat → Nat) : GM l D zt (tyM g) yX12_plain wsX12_plain ({ frames := 0, cells := 0, slots := 0, locals := 0 } : Room) [.ref (r 0), .int 1] (wM r g iM0 (up3 (up3 aM0 13 0 2) 16 0 8) lM0) (fun v _ w' => v = none ∧ w' = wM r g iM0 (up3 (up3 (up3 (up3 aM0 13 0 2) 16 0 8) 13 1 2) 16 1 8) lM0) 0 0 := by
  refine GM.of (cc := cX12_plain) (maxL := 2) (ret := none) (own := RX12) (lv := [(0, .ref (r 0)), (1, .int 1)]) (by decide) rfl rfl (Nat.le_of_ble_eq_true rfl) rfl (fun κ sz hk hR hN => ?_)
  have hin12 : ∀ w ∈ u_ws RX12 TX12 55, w ∈ wsX12_plain := by decide +kernel
  refine g_aload_n hk dX12_plain_0 rfl ?_
  refine gM_r0_26 hk hin12 (by decide +kernel) dX12_plain_1 ?_
  refine g_iload_n hk dX12_plain_4 rfl ?_
  refine g_iconst (v := 0) hk dX12_plain_5 (by decide) ?_
  refine sM_8 (j := 1) hk (vp_in_iff.mpr ⟨by decide, by decide⟩) (by decide) dX12_plain_6 ?_
  refine gM_same rfl ?_
  refine g_aload_n hk dX12_plain_7 rfl ?_
  refine gM_r0_28 hk hin12 (by decide +kernel) dX12_plain_8 ?_
  refine g_iload_n hk dX12_plain_11 rfl ?_
  refine g_iconst (v := 0) hk dX12_plain_12 (by decide) ?_
  refine sM_10 (j := 1) hk (vp_in_iff.mpr ⟨by decide, by decide⟩) (by decide) dX12_plain_13 ?_
  refine gM_same rfl ?_
  refine g_aload_n hk dX12_plain_14 rfl ?_
  refine gM_r0_31 hk hin12 (by decide +kernel) dX12_plain_15 ?_
  refine g_iload_n hk dX12_plain_18 rfl ?_
  refine g_iconst (v := 2) hk dX12_plain_19 (by decide) ?_
  refine sM_13 (j := 1) hk (vp_in_iff.mpr ⟨by decide, by decide⟩) (by decide) dX12_plain_20 ?_
  refine g_aload_n hk dX12_plain_21 rfl ?_
  refine gM_r0_32 hk hin12 (by decide +kernel) dX12_plain_22 ?_
  refine g_iload_n hk dX12_plain_25 rfl ?_
  refine g_iconst (v := 0) hk dX12_plain_26 (by decide) ?_
  refine sM_14 (j := 1) hk (vp_in_iff.mpr ⟨by decide, by decide⟩) (by decide) dX12_plain_27 ?_
  refine gM_same rfl ?_
  refine g_aload_n hk dX12_plain_28 rfl ?_
  refine gM_r0_33 hk hin12 (by decide +kernel) dX12_plain_29 ?_
  refine g_iload_n hk dX12_plain_32 rfl ?_
  refine g_iconst (v := 0) hk dX12_plain_33 (by decide) ?_
  refine sM_15 (j := 1) hk (vp_in_iff.mpr ⟨by decide, by decide⟩) (by decide) dX12_plain_34 ?_
  refine gM_same rfl ?_
  refine g_aload_n hk dX12_plain_35 rfl ?_
  refine gM_r0_34 hk hin12 (by decide +kernel) dX12_plain_36 ?_
  refine g_iload_n hk dX12_plain_39 rfl ?_
  refine g_bipush (v := 8) hk dX12_plain_40 (by decide) ?_
  refine sM_16 (j := 1) hk (vp_in_iff.mpr ⟨by decide, by decide⟩) (by decide) dX12_plain_42 ?_
  exact g_vret hk hR ⟨rfl, rfl⟩ dX12_plain_43
set_option maxHeartbeats 4000000 in
set_option maxRecDepth 100000 in
theorem m23_X12_appends (l : Launch) (D : va_G) (zt : Nat × Nat × Nat) (g : Nat → ClassId) (r : Nat → Nat) : GM l D zt (tyM g) yX12_appends wsX12_appends ({ frames := 0, cells := 0, slots := 0, locals := 0 } : Room) [.long 0, .int 115] (wM r g (upd iM0 14 (-1)) (up3 (up3 (up3 (up3 aM0 13 0 2) 16 0 8) 13 1 2) 16 1 8) lM0) (fun v _ w' => v = some (.long 19) ∧ w' = wM r g (upd iM0 14 (-1)) (up3 (up3 (up3 (up3 aM0 13 0 2) 16 0 8) 13 1 2) 16 1 8) lM0) 0 0 := by
  refine GM.of (cc := cX12_appends) (maxL := 3) (ret := (some .long)) (own := RX12) (lv := [(0, .long 0), (2, .int 115)]) (by decide) rfl rfl (Nat.le_of_ble_eq_true rfl) rfl (fun κ sz hk hR hN => ?_)
  refine g_iload_n hk dX12_appends_0 rfl ?_
  refine g_if_ne (tgt := 8) (a := 115) hk dX12_appends_1 (by decide) rfl (fun _ => ?_) (fun z9 => absurd (show 115 ≠ 0 from by decide) z9)
  refine g_ldc2 (v := 27) hk (by decide +kernel) dX12_appends_8 ?_
  refine g_lload_n hk dX12_appends_11 rfl ?_
  refine g_lmul hk dX12_appends_12 ?_
  refine g_norml (v := 0) (by decide) ?_
  refine g_iload_n hk dX12_appends_13 rfl ?_
  refine g_bipush (v := 97) hk dX12_appends_14 (by decide) ?_
  refine g_isub hk dX12_appends_16 ?_
  refine g_norm (v := 18) (by decide) ?_
  refine g_iconst (v := 1) hk dX12_appends_17 (by decide) ?_
  refine g_iadd hk dX12_appends_18 ?_
  refine g_norm (v := 19) (by decide) ?_
  refine g_i2l (v := 19) hk dX12_appends_19 (by decide) ?_
  refine g_ladd hk dX12_appends_20 ?_
  refine g_norml (v := 19) (by decide) ?_
  exact g_lret hk hR ⟨rfl, rfl⟩ dX12_appends_21
set_option maxHeartbeats 4000000 in
set_option maxRecDepth 100000 in
theorem m24_X12_appends (l : Launch) (D : va_G) (zt : Nat × Nat × Nat) (g : Nat → ClassId) (r : Nat → Nat) : GM l D zt (tyM g) yX12_appends wsX12_appends ({ frames := 0, cells := 0, slots := 0, locals := 0 } : Room) [.long 19, .int 101] (wM r g (upd iM0 14 (-1)) (up3 (up3 (up3 (up3 aM0 13 0 2) 16 0 8) 13 1 2) 16 1 8) lM0) (fun v _ w' => v = some (.long 518) ∧ w' = wM r g (upd iM0 14 (-1)) (up3 (up3 (up3 (up3 aM0 13 0 2) 16 0 8) 13 1 2) 16 1 8) lM0) 0 0 := by
  refine GM.of (cc := cX12_appends) (maxL := 3) (ret := (some .long)) (own := RX12) (lv := [(0, .long 19), (2, .int 101)]) (by decide) rfl rfl (Nat.le_of_ble_eq_true rfl) rfl (fun κ sz hk hR hN => ?_)
  refine g_iload_n hk dX12_appends_0 rfl ?_
  refine g_if_ne (tgt := 8) (a := 101) hk dX12_appends_1 (by decide) rfl (fun _ => ?_) (fun z9 => absurd (show 101 ≠ 0 from by decide) z9)
  refine g_ldc2 (v := 27) hk (by decide +kernel) dX12_appends_8 ?_
  refine g_lload_n hk dX12_appends_11 rfl ?_
  refine g_lmul hk dX12_appends_12 ?_
  refine g_norml (v := 513) (by decide) ?_
  refine g_iload_n hk dX12_appends_13 rfl ?_
  refine g_bipush (v := 97) hk dX12_appends_14 (by decide) ?_
  refine g_isub hk dX12_appends_16 ?_
  refine g_norm (v := 4) (by decide) ?_
  refine g_iconst (v := 1) hk dX12_appends_17 (by decide) ?_
  refine g_iadd hk dX12_appends_18 ?_
  refine g_norm (v := 5) (by decide) ?_
  refine g_i2l (v := 5) hk dX12_appends_19 (by decide) ?_
  refine g_ladd hk dX12_appends_20 ?_
  refine g_norml (v := 518) (by decide) ?_
  exact g_lret hk hR ⟨rfl, rfl⟩ dX12_appends_21
set_option maxHeartbeats 4000000 in
set_option maxRecDepth 100000 in
theorem m25_X12_appends (l : Launch) (D : va_G) (zt : Nat × Nat × Nat) (g : Nat → ClassId) (r : Nat → Nat) : GM l D zt (tyM g) yX12_appends wsX12_appends ({ frames := 0, cells := 0, slots := 0, locals := 0 } : Room) [.long 518, .int 114] (wM r g (upd iM0 14 (-1)) (up3 (up3 (up3 (up3 aM0 13 0 2) 16 0 8) 13 1 2) 16 1 8) lM0) (fun v _ w' => v = some (.long 14004) ∧ w' = wM r g (upd iM0 14 (-1)) (up3 (up3 (up3 (up3 aM0 13 0 2) 16 0 8) 13 1 2) 16 1 8) lM0) 0 0 := by
  refine GM.of (cc := cX12_appends) (maxL := 3) (ret := (some .long)) (own := RX12) (lv := [(0, .long 518), (2, .int 114)]) (by decide) rfl rfl (Nat.le_of_ble_eq_true rfl) rfl (fun κ sz hk hR hN => ?_)
  refine g_iload_n hk dX12_appends_0 rfl ?_
  refine g_if_ne (tgt := 8) (a := 114) hk dX12_appends_1 (by decide) rfl (fun _ => ?_) (fun z9 => absurd (show 114 ≠ 0 from by decide) z9)
  refine g_ldc2 (v := 27) hk (by decide +kernel) dX12_appends_8 ?_
  refine g_lload_n hk dX12_appends_11 rfl ?_
  refine g_lmul hk dX12_appends_12 ?_
  refine g_norml (v := 13986) (by decide) ?_
  refine g_iload_n hk dX12_appends_13 rfl ?_
  refine g_bipush (v := 97) hk dX12_appends_14 (by decide) ?_
  refine g_isub hk dX12_appends_16 ?_
  refine g_norm (v := 17) (by decide) ?_
  refine g_iconst (v := 1) hk dX12_appends_17 (by decide) ?_
  refine g_iadd hk dX12_appends_18 ?_
  refine g_norm (v := 18) (by decide) ?_
  refine g_i2l (v := 18) hk dX12_appends_19 (by decide) ?_
  refine g_ladd hk dX12_appends_20 ?_
  refine g_norml (v := 14004) (by decide) ?_
  exact g_lret hk hR ⟨rfl, rfl⟩ dX12_appends_21
set_option maxHeartbeats 4000000 in
set_option maxRecDepth 100000 in
theorem m26_X12_appends (l : Launch) (D : va_G) (zt : Nat × Nat × Nat) (g : Nat → ClassId) (r : Nat → Nat) : GM l D zt (tyM g) yX12_appends wsX12_appends ({ frames := 0, cells := 0, slots := 0, locals := 0 } : Room) [.long 14004, .int 105] (wM r g (upd iM0 14 (-1)) (up3 (up3 (up3 (up3 aM0 13 0 2) 16 0 8) 13 1 2) 16 1 8) lM0) (fun v _ w' => v = some (.long 378117) ∧ w' = wM r g (upd iM0 14 (-1)) (up3 (up3 (up3 (up3 aM0 13 0 2) 16 0 8) 13 1 2) 16 1 8) lM0) 0 0 := by
  refine GM.of (cc := cX12_appends) (maxL := 3) (ret := (some .long)) (own := RX12) (lv := [(0, .long 14004), (2, .int 105)]) (by decide) rfl rfl (Nat.le_of_ble_eq_true rfl) rfl (fun κ sz hk hR hN => ?_)
  refine g_iload_n hk dX12_appends_0 rfl ?_
  refine g_if_ne (tgt := 8) (a := 105) hk dX12_appends_1 (by decide) rfl (fun _ => ?_) (fun z9 => absurd (show 105 ≠ 0 from by decide) z9)
  refine g_ldc2 (v := 27) hk (by decide +kernel) dX12_appends_8 ?_
  refine g_lload_n hk dX12_appends_11 rfl ?_
  refine g_lmul hk dX12_appends_12 ?_
  refine g_norml (v := 378108) (by decide) ?_
  refine g_iload_n hk dX12_appends_13 rfl ?_
  refine g_bipush (v := 97) hk dX12_appends_14 (by decide) ?_
  refine g_isub hk dX12_appends_16 ?_
  refine g_norm (v := 8) (by decide) ?_
  refine g_iconst (v := 1) hk dX12_appends_17 (by decide) ?_
  refine g_iadd hk dX12_appends_18 ?_
  refine g_norm (v := 9) (by decide) ?_
  refine g_i2l (v := 9) hk dX12_appends_19 (by decide) ?_
  refine g_ladd hk dX12_appends_20 ?_
  refine g_norml (v := 378117) (by decide) ?_
  exact g_lret hk hR ⟨rfl, rfl⟩ dX12_appends_21
set_option maxHeartbeats 4000000 in
set_option maxRecDepth 100000 in
theorem m27_X12_appends (l : Launch) (D : va_G) (zt : Nat × Nat × Nat) (g : Nat → ClassId) (r : Nat → Nat) : GM l D zt (tyM g) yX12_appends wsX12_appends ({ frames := 0, cells := 0, slots := 0, locals := 0 } : Room) [.long 378117, .int 101] (wM r g (upd iM0 14 (-1)) (up3 (up3 (up3 (up3 aM0 13 0 2) 16 0 8) 13 1 2) 16 1 8) lM0) (fun v _ w' => v = some (.long 10209164) ∧ w' = wM r g (upd iM0 14 (-1)) (up3 (up3 (up3 (up3 aM0 13 0 2) 16 0 8) 13 1 2) 16 1 8) lM0) 0 0 := by
  refine GM.of (cc := cX12_appends) (maxL := 3) (ret := (some .long)) (own := RX12) (lv := [(0, .long 378117), (2, .int 101)]) (by decide) rfl rfl (Nat.le_of_ble_eq_true rfl) rfl (fun κ sz hk hR hN => ?_)
  refine g_iload_n hk dX12_appends_0 rfl ?_
  refine g_if_ne (tgt := 8) (a := 101) hk dX12_appends_1 (by decide) rfl (fun _ => ?_) (fun z9 => absurd (show 101 ≠ 0 from by decide) z9)
  refine g_ldc2 (v := 27) hk (by decide +kernel) dX12_appends_8 ?_
  refine g_lload_n hk dX12_appends_11 rfl ?_
  refine g_lmul hk dX12_appends_12 ?_
  refine g_norml (v := 10209159) (by decide) ?_
  refine g_iload_n hk dX12_appends_13 rfl ?_
  refine g_bipush (v := 97) hk dX12_appends_14 (by decide) ?_
  refine g_isub hk dX12_appends_16 ?_
  refine g_norm (v := 4) (by decide) ?_
  refine g_iconst (v := 1) hk dX12_appends_17 (by decide) ?_
  refine g_iadd hk dX12_appends_18 ?_
  refine g_norm (v := 5) (by decide) ?_
  refine g_i2l (v := 5) hk dX12_appends_19 (by decide) ?_
  refine g_ladd hk dX12_appends_20 ?_
  refine g_norml (v := 10209164) (by decide) ?_
  exact g_lret hk hR ⟨rfl, rfl⟩ dX12_appends_21
set_option maxHeartbeats 4000000 in
set_option maxRecDepth 100000 in
theorem m28_X12_appends (l : Launch) (D : va_G) (zt : Nat × Nat × Nat) (g : Nat → ClassId) (r : Nat → Nat) : GM l D zt (tyM g) yX12_appends wsX12_appends ({ frames := 0, cells := 0, slots := 0, locals := 0 } : Room) [.long 10209164, .int 115] (wM r g (upd iM0 14 (-1)) (up3 (up3 (up3 (up3 aM0 13 0 2) 16 0 8) 13 1 2) 16 1 8) lM0) (fun v _ w' => v = some (.long 275647447) ∧ w' = wM r g (upd iM0 14 (-1)) (up3 (up3 (up3 (up3 aM0 13 0 2) 16 0 8) 13 1 2) 16 1 8) lM0) 0 0 := by
  refine GM.of (cc := cX12_appends) (maxL := 3) (ret := (some .long)) (own := RX12) (lv := [(0, .long 10209164), (2, .int 115)]) (by decide) rfl rfl (Nat.le_of_ble_eq_true rfl) rfl (fun κ sz hk hR hN => ?_)
  refine g_iload_n hk dX12_appends_0 rfl ?_
  refine g_if_ne (tgt := 8) (a := 115) hk dX12_appends_1 (by decide) rfl (fun _ => ?_) (fun z9 => absurd (show 115 ≠ 0 from by decide) z9)
  refine g_ldc2 (v := 27) hk (by decide +kernel) dX12_appends_8 ?_
  refine g_lload_n hk dX12_appends_11 rfl ?_
  refine g_lmul hk dX12_appends_12 ?_
  refine g_norml (v := 275647428) (by decide) ?_
  refine g_iload_n hk dX12_appends_13 rfl ?_
  refine g_bipush (v := 97) hk dX12_appends_14 (by decide) ?_
  refine g_isub hk dX12_appends_16 ?_
  refine g_norm (v := 18) (by decide) ?_
  refine g_iconst (v := 1) hk dX12_appends_17 (by decide) ?_
  refine g_iadd hk dX12_appends_18 ?_
  refine g_norm (v := 19) (by decide) ?_
  refine g_i2l (v := 19) hk dX12_appends_19 (by decide) ?_
  refine g_ladd hk dX12_appends_20 ?_
  refine g_norml (v := 275647447) (by decide) ?_
  exact g_lret hk hR ⟨rfl, rfl⟩ dX12_appends_21
set_option maxHeartbeats 4000000 in
set_option maxRecDepth 100000 in
theorem m29_X12_appends (l : Launch) (D : va_G) (zt : Nat × Nat × Nat) (g : Nat → ClassId) (r : Nat → Nat) : GM l D zt (tyM g) yX12_appends wsX12_appends ({ frames := 0, cells := 0, slots := 0, locals := 0 } : Room) [.long 275647447, .int 0] (wM r g (upd iM0 14 (-1)) (up3 (up3 (up3 (up3 aM0 13 0 2) 16 0 8) 13 1 2) 16 1 8) lM0) (fun v _ w' => v = some (.long 275647447) ∧ w' = wM r g (upd iM0 14 (-1)) (up3 (up3 (up3 (up3 aM0 13 0 2) 16 0 8) 13 1 2) 16 1 8) lM0) 0 0 := by
  refine GM.of (cc := cX12_appends) (maxL := 3) (ret := (some .long)) (own := RX12) (lv := [(0, .long 275647447), (2, .int 0)]) (by decide) rfl rfl (Nat.le_of_ble_eq_true rfl) rfl (fun κ sz hk hR hN => ?_)
  refine g_iload_n hk dX12_appends_0 rfl ?_
  refine g_if_ne (tgt := 8) (a := 0) hk dX12_appends_1 (by decide) rfl (fun z9 => absurd z9 (show ¬ (0 ≠ 0) from by decide)) (fun _ => ?_)
  refine g_lload_n hk dX12_appends_4 rfl ?_
  refine g_goto (tgt := 21) hk dX12_appends_5 (by decide) ?_
  exact g_lret hk hR ⟨rfl, rfl⟩ dX12_appends_21
set_option maxHeartbeats 4000000 in
set_option maxRecDepth 100000 in
theorem m30_X12_letters (l : Launch) (D : va_G) (zt : Nat × Nat × Nat) (g : Nat → ClassId) (r : Nat → Nat) : GM l D zt (tyM g) yX12_letters wsX12_letters ({ frames := 1, cells := 0, slots := 0, locals := 22 } : Room) [.int 115, .int 101, .int 114, .int 105, .int 101, .int 115, .int 0] (wM r g (upd iM0 14 (-1)) (up3 (up3 (up3 (up3 aM0 13 0 2) 16 0 8) 13 1 2) 16 1 8) lM0) (fun v _ w' => v = some (.long 275647447) ∧ w' = wM r g (upd iM0 14 (-1)) (up3 (up3 (up3 (up3 aM0 13 0 2) 16 0 8) 13 1 2) 16 1 8) lM0) 0 0 := by
  refine GM.of (cc := cX12_letters) (maxL := 7) (ret := (some .long)) (own := RX12) (lv := [(0, .int 115), (1, .int 101), (2, .int 114), (3, .int 105), (4, .int 101), (5, .int 115), (6, .int 0)]) (by decide) rfl rfl (Nat.le_of_ble_eq_true rfl) rfl (fun κ sz hk hR hN => ?_)
  refine g_lconst (v := 0) hk dX12_letters_0 (by decide) ?_
  refine g_iload_n hk dX12_letters_1 rfl ?_
  refine g_callS hk (m23_X12_appends l D zt g r) (SP.same _) (fun _ h => h) gX12_letters_X12_appends rfl rfl rfl (by decide +kernel) ⟨Nat.le_of_ble_eq_true rfl, Nat.le_of_ble_eq_true rfl⟩ rfl rfl (Nat.le_of_ble_eq_true rfl) ⟨Nat.le_of_ble_eq_true rfl, Nat.le_of_ble_eq_true rfl⟩ dX12_letters_2 (fun v ty' w' hp hk' => ?_)
  obtain ⟨rfl, rfl⟩ := hp
  show GW κ 7 0 0 (wM r g (upd iM0 14 (-1)) (up3 (up3 (up3 (up3 aM0 13 0 2) 16 0 8) 13 1 2) 16 1 8) lM0) 5 [(0, .int 115), (1, .int 101), (2, .int 114), (3, .int 105), (4, .int 101), (5, .int 115), (6, .int 0)] [.long 19]
  refine g_iload_n hk dX12_letters_5 rfl ?_
  refine g_callS hk (m24_X12_appends l D zt g r) (SP.same _) (fun _ h => h) gX12_letters_X12_appends rfl rfl rfl (by decide +kernel) ⟨Nat.le_of_ble_eq_true rfl, Nat.le_of_ble_eq_true rfl⟩ rfl rfl (Nat.le_of_ble_eq_true rfl) ⟨Nat.le_of_ble_eq_true rfl, Nat.le_of_ble_eq_true rfl⟩ dX12_letters_6 (fun v ty' w' hp hk' => ?_)
  obtain ⟨rfl, rfl⟩ := hp
  show GW κ 7 0 0 (wM r g (upd iM0 14 (-1)) (up3 (up3 (up3 (up3 aM0 13 0 2) 16 0 8) 13 1 2) 16 1 8) lM0) 9 [(0, .int 115), (1, .int 101), (2, .int 114), (3, .int 105), (4, .int 101), (5, .int 115), (6, .int 0)] [.long 518]
  refine g_iload_n hk dX12_letters_9 rfl ?_
  refine g_callS hk (m25_X12_appends l D zt g r) (SP.same _) (fun _ h => h) gX12_letters_X12_appends rfl rfl rfl (by decide +kernel) ⟨Nat.le_of_ble_eq_true rfl, Nat.le_of_ble_eq_true rfl⟩ rfl rfl (Nat.le_of_ble_eq_true rfl) ⟨Nat.le_of_ble_eq_true rfl, Nat.le_of_ble_eq_true rfl⟩ dX12_letters_10 (fun v ty' w' hp hk' => ?_)
  obtain ⟨rfl, rfl⟩ := hp
  show GW κ 7 0 0 (wM r g (upd iM0 14 (-1)) (up3 (up3 (up3 (up3 aM0 13 0 2) 16 0 8) 13 1 2) 16 1 8) lM0) 13 [(0, .int 115), (1, .int 101), (2, .int 114), (3, .int 105), (4, .int 101), (5, .int 115), (6, .int 0)] [.long 14004]
  refine g_iload_n hk dX12_letters_13 rfl ?_
  refine g_callS hk (m26_X12_appends l D zt g r) (SP.same _) (fun _ h => h) gX12_letters_X12_appends rfl rfl rfl (by decide +kernel) ⟨Nat.le_of_ble_eq_true rfl, Nat.le_of_ble_eq_true rfl⟩ rfl rfl (Nat.le_of_ble_eq_true rfl) ⟨Nat.le_of_ble_eq_true rfl, Nat.le_of_ble_eq_true rfl⟩ dX12_letters_14 (fun v ty' w' hp hk' => ?_)
  obtain ⟨rfl, rfl⟩ := hp
  show GW κ 7 0 0 (wM r g (upd iM0 14 (-1)) (up3 (up3 (up3 (up3 aM0 13 0 2) 16 0 8) 13 1 2) 16 1 8) lM0) 17 [(0, .int 115), (1, .int 101), (2, .int 114), (3, .int 105), (4, .int 101), (5, .int 115), (6, .int 0)] [.long 378117]
  refine g_iload hk dX12_letters_17 rfl ?_
  refine g_callS hk (m27_X12_appends l D zt g r) (SP.same _) (fun _ h => h) gX12_letters_X12_appends rfl rfl rfl (by decide +kernel) ⟨Nat.le_of_ble_eq_true rfl, Nat.le_of_ble_eq_true rfl⟩ rfl rfl (Nat.le_of_ble_eq_true rfl) ⟨Nat.le_of_ble_eq_true rfl, Nat.le_of_ble_eq_true rfl⟩ dX12_letters_19 (fun v ty' w' hp hk' => ?_)
  obtain ⟨rfl, rfl⟩ := hp
  show GW κ 7 0 0 (wM r g (upd iM0 14 (-1)) (up3 (up3 (up3 (up3 aM0 13 0 2) 16 0 8) 13 1 2) 16 1 8) lM0) 22 [(0, .int 115), (1, .int 101), (2, .int 114), (3, .int 105), (4, .int 101), (5, .int 115), (6, .int 0)] [.long 10209164]
  refine g_iload hk dX12_letters_22 rfl ?_
  refine g_callS hk (m28_X12_appends l D zt g r) (SP.same _) (fun _ h => h) gX12_letters_X12_appends rfl rfl rfl (by decide +kernel) ⟨Nat.le_of_ble_eq_true rfl, Nat.le_of_ble_eq_true rfl⟩ rfl rfl (Nat.le_of_ble_eq_true rfl) ⟨Nat.le_of_ble_eq_true rfl, Nat.le_of_ble_eq_true rfl⟩ dX12_letters_24 (fun v ty' w' hp hk' => ?_)
  obtain ⟨rfl, rfl⟩ := hp
  show GW κ 7 0 0 (wM r g (upd iM0 14 (-1)) (up3 (up3 (up3 (up3 aM0 13 0 2) 16 0 8) 13 1 2) 16 1 8) lM0) 27 [(0, .int 115), (1, .int 101), (2, .int 114), (3, .int 105), (4, .int 101), (5, .int 115), (6, .int 0)] [.long 275647447]
  refine g_iload hk dX12_letters_27 rfl ?_
  refine g_callS hk (m29_X12_appends l D zt g r) (SP.same _) (fun _ h => h) gX12_letters_X12_appends rfl rfl rfl (by decide +kernel) ⟨Nat.le_of_ble_eq_true rfl, Nat.le_of_ble_eq_true rfl⟩ rfl rfl (Nat.le_of_ble_eq_true rfl) ⟨Nat.le_of_ble_eq_true rfl, Nat.le_of_ble_eq_true rfl⟩ dX12_letters_29 (fun v ty' w' hp hk' => ?_)
  obtain ⟨rfl, rfl⟩ := hp
  show GW κ 7 0 0 (wM r g (upd iM0 14 (-1)) (up3 (up3 (up3 (up3 aM0 13 0 2) 16 0 8) 13 1 2) 16 1 8) lM0) 32 [(0, .int 115), (1, .int 101), (2, .int 114), (3, .int 105), (4, .int 101), (5, .int 115), (6, .int 0)] [.long 275647447]
  exact g_lret hk hR ⟨rfl, rfl⟩ dX12_letters_32
set_option maxHeartbeats 4000000 in
set_option maxRecDepth 100000 in
theorem m31_X12_appends (l : Launch) (D : va_G) (zt : Nat × Nat × Nat) (g : Nat → ClassId) (r : Nat → Nat) : GM l D zt (tyM g) yX12_appends wsX12_appends ({ frames := 0, cells := 0, slots := 0, locals := 0 } : Room) [.long 0, .int 113] (wM r g (upd iM0 14 (-1)) (up3 (up3 (up3 (up3 aM0 13 0 2) 16 0 8) 13 1 2) 16 1 8) (up3L lM0 6 0 275647447)) (fun v _ w' => v = some (.long 17) ∧ w' = wM r g (upd iM0 14 (-1)) (up3 (up3 (up3 (up3 aM0 13 0 2) 16 0 8) 13 1 2) 16 1 8) (up3L lM0 6 0 275647447)) 0 0 := by
  refine GM.of (cc := cX12_appends) (maxL := 3) (ret := (some .long)) (own := RX12) (lv := [(0, .long 0), (2, .int 113)]) (by decide) rfl rfl (Nat.le_of_ble_eq_true rfl) rfl (fun κ sz hk hR hN => ?_)
  refine g_iload_n hk dX12_appends_0 rfl ?_
  refine g_if_ne (tgt := 8) (a := 113) hk dX12_appends_1 (by decide) rfl (fun _ => ?_) (fun z9 => absurd (show 113 ≠ 0 from by decide) z9)
  refine g_ldc2 (v := 27) hk (by decide +kernel) dX12_appends_8 ?_
  refine g_lload_n hk dX12_appends_11 rfl ?_
  refine g_lmul hk dX12_appends_12 ?_
  refine g_norml (v := 0) (by decide) ?_
  refine g_iload_n hk dX12_appends_13 rfl ?_
  refine g_bipush (v := 97) hk dX12_appends_14 (by decide) ?_
  refine g_isub hk dX12_appends_16 ?_
  refine g_norm (v := 16) (by decide) ?_
  refine g_iconst (v := 1) hk dX12_appends_17 (by decide) ?_
  refine g_iadd hk dX12_appends_18 ?_
  refine g_norm (v := 17) (by decide) ?_
  refine g_i2l (v := 17) hk dX12_appends_19 (by decide) ?_
  refine g_ladd hk dX12_appends_20 ?_
  refine g_norml (v := 17) (by decide) ?_
  exact g_lret hk hR ⟨rfl, rfl⟩ dX12_appends_21
set_option maxHeartbeats 4000000 in
set_option maxRecDepth 100000 in
theorem m32_X12_appends (l : Launch) (D : va_G) (zt : Nat × Nat × Nat) (g : Nat → ClassId) (r : Nat → Nat) : GM l D zt (tyM g) yX12_appends wsX12_appends ({ frames := 0, cells := 0, slots := 0, locals := 0 } : Room) [.long 17, .int 117] (wM r g (upd iM0 14 (-1)) (up3 (up3 (up3 (up3 aM0 13 0 2) 16 0 8) 13 1 2) 16 1 8) (up3L lM0 6 0 275647447)) (fun v _ w' => v = some (.long 480) ∧ w' = wM r g (upd iM0 14 (-1)) (up3 (up3 (up3 (up3 aM0 13 0 2) 16 0 8) 13 1 2) 16 1 8) (up3L lM0 6 0 275647447)) 0 0 := by
  refine GM.of (cc := cX12_appends) (maxL := 3) (ret := (some .long)) (own := RX12) (lv := [(0, .long 17), (2, .int 117)]) (by decide) rfl rfl (Nat.le_of_ble_eq_true rfl) rfl (fun κ sz hk hR hN => ?_)
  refine g_iload_n hk dX12_appends_0 rfl ?_
  refine g_if_ne (tgt := 8) (a := 117) hk dX12_appends_1 (by decide) rfl (fun _ => ?_) (fun z9 => absurd (show 117 ≠ 0 from by decide) z9)
  refine g_ldc2 (v := 27) hk (by decide +kernel) dX12_appends_8 ?_
  refine g_lload_n hk dX12_appends_11 rfl ?_
  refine g_lmul hk dX12_appends_12 ?_
  refine g_norml (v := 459) (by decide) ?_
  refine g_iload_n hk dX12_appends_13 rfl ?_
  refine g_bipush (v := 97) hk dX12_appends_14 (by decide) ?_
  refine g_isub hk dX12_appends_16 ?_
  refine g_norm (v := 20) (by decide) ?_
  refine g_iconst (v := 1) hk dX12_appends_17 (by decide) ?_
  refine g_iadd hk dX12_appends_18 ?_
  refine g_norm (v := 21) (by decide) ?_
  refine g_i2l (v := 21) hk dX12_appends_19 (by decide) ?_
  refine g_ladd hk dX12_appends_20 ?_
  refine g_norml (v := 480) (by decide) ?_
  exact g_lret hk hR ⟨rfl, rfl⟩ dX12_appends_21
set_option maxHeartbeats 4000000 in
set_option maxRecDepth 100000 in
theorem m33_X12_appends (l : Launch) (D : va_G) (zt : Nat × Nat × Nat) (g : Nat → ClassId) (r : Nat → Nat) : GM l D zt (tyM g) yX12_appends wsX12_appends ({ frames := 0, cells := 0, slots := 0, locals := 0 } : Room) [.long 480, .int 101] (wM r g (upd iM0 14 (-1)) (up3 (up3 (up3 (up3 aM0 13 0 2) 16 0 8) 13 1 2) 16 1 8) (up3L lM0 6 0 275647447)) (fun v _ w' => v = some (.long 12965) ∧ w' = wM r g (upd iM0 14 (-1)) (up3 (up3 (up3 (up3 aM0 13 0 2) 16 0 8) 13 1 2) 16 1 8) (up3L lM0 6 0 275647447)) 0 0 := by
  refine GM.of (cc := cX12_appends) (maxL := 3) (ret := (some .long)) (own := RX12) (lv := [(0, .long 480), (2, .int 101)]) (by decide) rfl rfl (Nat.le_of_ble_eq_true rfl) rfl (fun κ sz hk hR hN => ?_)
  refine g_iload_n hk dX12_appends_0 rfl ?_
  refine g_if_ne (tgt := 8) (a := 101) hk dX12_appends_1 (by decide) rfl (fun _ => ?_) (fun z9 => absurd (show 101 ≠ 0 from by decide) z9)
  refine g_ldc2 (v := 27) hk (by decide +kernel) dX12_appends_8 ?_
  refine g_lload_n hk dX12_appends_11 rfl ?_
  refine g_lmul hk dX12_appends_12 ?_
  refine g_norml (v := 12960) (by decide) ?_
  refine g_iload_n hk dX12_appends_13 rfl ?_
  refine g_bipush (v := 97) hk dX12_appends_14 (by decide) ?_
  refine g_isub hk dX12_appends_16 ?_
  refine g_norm (v := 4) (by decide) ?_
  refine g_iconst (v := 1) hk dX12_appends_17 (by decide) ?_
  refine g_iadd hk dX12_appends_18 ?_
  refine g_norm (v := 5) (by decide) ?_
  refine g_i2l (v := 5) hk dX12_appends_19 (by decide) ?_
  refine g_ladd hk dX12_appends_20 ?_
  refine g_norml (v := 12965) (by decide) ?_
  exact g_lret hk hR ⟨rfl, rfl⟩ dX12_appends_21
set_option maxHeartbeats 4000000 in
set_option maxRecDepth 100000 in
theorem m34_X12_appends (l : Launch) (D : va_G) (zt : Nat × Nat × Nat) (g : Nat → ClassId) (r : Nat → Nat) : GM l D zt (tyM g) yX12_appends wsX12_appends ({ frames := 0, cells := 0, slots := 0, locals := 0 } : Room) [.long 12965, .int 114] (wM r g (upd iM0 14 (-1)) (up3 (up3 (up3 (up3 aM0 13 0 2) 16 0 8) 13 1 2) 16 1 8) (up3L lM0 6 0 275647447)) (fun v _ w' => v = some (.long 350073) ∧ w' = wM r g (upd iM0 14 (-1)) (up3 (up3 (up3 (up3 aM0 13 0 2) 16 0 8) 13 1 2) 16 1 8) (up3L lM0 6 0 275647447)) 0 0 := by
  refine GM.of (cc := cX12_appends) (maxL := 3) (ret := (some .long)) (own := RX12) (lv := [(0, .long 12965), (2, .int 114)]) (by decide) rfl rfl (Nat.le_of_ble_eq_true rfl) rfl (fun κ sz hk hR hN => ?_)
  refine g_iload_n hk dX12_appends_0 rfl ?_
  refine g_if_ne (tgt := 8) (a := 114) hk dX12_appends_1 (by decide) rfl (fun _ => ?_) (fun z9 => absurd (show 114 ≠ 0 from by decide) z9)
  refine g_ldc2 (v := 27) hk (by decide +kernel) dX12_appends_8 ?_
  refine g_lload_n hk dX12_appends_11 rfl ?_
  refine g_lmul hk dX12_appends_12 ?_
  refine g_norml (v := 350055) (by decide) ?_
  refine g_iload_n hk dX12_appends_13 rfl ?_
  refine g_bipush (v := 97) hk dX12_appends_14 (by decide) ?_
  refine g_isub hk dX12_appends_16 ?_
  refine g_norm (v := 17) (by decide) ?_
  refine g_iconst (v := 1) hk dX12_appends_17 (by decide) ?_
  refine g_iadd hk dX12_appends_18 ?_
  refine g_norm (v := 18) (by decide) ?_
  refine g_i2l (v := 18) hk dX12_appends_19 (by decide) ?_
  refine g_ladd hk dX12_appends_20 ?_
  refine g_norml (v := 350073) (by decide) ?_
  exact g_lret hk hR ⟨rfl, rfl⟩ dX12_appends_21
set_option maxHeartbeats 4000000 in
set_option maxRecDepth 100000 in
theorem m35_X12_appends (l : Launch) (D : va_G) (zt : Nat × Nat × Nat) (g : Nat → ClassId) (r : Nat → Nat) : GM l D zt (tyM g) yX12_appends wsX12_appends ({ frames := 0, cells := 0, slots := 0, locals := 0 } : Room) [.long 350073, .int 121] (wM r g (upd iM0 14 (-1)) (up3 (up3 (up3 (up3 aM0 13 0 2) 16 0 8) 13 1 2) 16 1 8) (up3L lM0 6 0 275647447)) (fun v _ w' => v = some (.long 9451996) ∧ w' = wM r g (upd iM0 14 (-1)) (up3 (up3 (up3 (up3 aM0 13 0 2) 16 0 8) 13 1 2) 16 1 8) (up3L lM0 6 0 275647447)) 0 0 := by
  refine GM.of (cc := cX12_appends) (maxL := 3) (ret := (some .long)) (own := RX12) (lv := [(0, .long 350073), (2, .int 121)]) (by decide) rfl rfl (Nat.le_of_ble_eq_true rfl) rfl (fun κ sz hk hR hN => ?_)
  refine g_iload_n hk dX12_appends_0 rfl ?_
  refine g_if_ne (tgt := 8) (a := 121) hk dX12_appends_1 (by decide) rfl (fun _ => ?_) (fun z9 => absurd (show 121 ≠ 0 from by decide) z9)
  refine g_ldc2 (v := 27) hk (by decide +kernel) dX12_appends_8 ?_
  refine g_lload_n hk dX12_appends_11 rfl ?_
  refine g_lmul hk dX12_appends_12 ?_
  refine g_norml (v := 9451971) (by decide) ?_
  refine g_iload_n hk dX12_appends_13 rfl ?_
  refine g_bipush (v := 97) hk dX12_appends_14 (by decide) ?_
  refine g_isub hk dX12_appends_16 ?_
  refine g_norm (v := 24) (by decide) ?_
  refine g_iconst (v := 1) hk dX12_appends_17 (by decide) ?_
  refine g_iadd hk dX12_appends_18 ?_
  refine g_norm (v := 25) (by decide) ?_
  refine g_i2l (v := 25) hk dX12_appends_19 (by decide) ?_
  refine g_ladd hk dX12_appends_20 ?_
  refine g_norml (v := 9451996) (by decide) ?_
  exact g_lret hk hR ⟨rfl, rfl⟩ dX12_appends_21
set_option maxHeartbeats 4000000 in
set_option maxRecDepth 100000 in
theorem m36_X12_appends (l : Launch) (D : va_G) (zt : Nat × Nat × Nat) (g : Nat → ClassId) (r : Nat → Nat) : GM l D zt (tyM g) yX12_appends wsX12_appends ({ frames := 0, cells := 0, slots := 0, locals := 0 } : Room) [.long 9451996, .int 0] (wM r g (upd iM0 14 (-1)) (up3 (up3 (up3 (up3 aM0 13 0 2) 16 0 8) 13 1 2) 16 1 8) (up3L lM0 6 0 275647447)) (fun v _ w' => v = some (.long 9451996) ∧ w' = wM r g (upd iM0 14 (-1)) (up3 (up3 (up3 (up3 aM0 13 0 2) 16 0 8) 13 1 2) 16 1 8) (up3L lM0 6 0 275647447)) 0 0 := by
  refine GM.of (cc := cX12_appends) (maxL := 3) (ret := (some .long)) (own := RX12) (lv := [(0, .long 9451996), (2, .int 0)]) (by decide) rfl rfl (Nat.le_of_ble_eq_true rfl) rfl (fun κ sz hk hR hN => ?_)
  refine g_iload_n hk dX12_appends_0 rfl ?_
  refine g_if_ne (tgt := 8) (a := 0) hk dX12_appends_1 (by decide) rfl (fun z9 => absurd z9 (show ¬ (0 ≠ 0) from by decide)) (fun _ => ?_)
  refine g_lload_n hk dX12_appends_4 rfl ?_
  refine g_goto (tgt := 21) hk dX12_appends_5 (by decide) ?_
  exact g_lret hk hR ⟨rfl, rfl⟩ dX12_appends_21
set_option maxHeartbeats 4000000 in
set_option maxRecDepth 100000 in
theorem m37_X12_letters (l : Launch) (D : va_G) (zt : Nat × Nat × Nat) (g : Nat → ClassId) (r : Nat → Nat) : GM l D zt (tyM g) yX12_letters wsX12_letters ({ frames := 1, cells := 0, slots := 0, locals := 22 } : Room) [.int 113, .int 117, .int 101, .int 114, .int 121, .int 0, .int 0] (wM r g (upd iM0 14 (-1)) (up3 (up3 (up3 (up3 aM0 13 0 2) 16 0 8) 13 1 2) 16 1 8) (up3L lM0 6 0 275647447)) (fun v _ w' => v = some (.long 9451996) ∧ w' = wM r g (upd iM0 14 (-1)) (up3 (up3 (up3 (up3 aM0 13 0 2) 16 0 8) 13 1 2) 16 1 8) (up3L lM0 6 0 275647447)) 0 0 := by
  refine GM.of (cc := cX12_letters) (maxL := 7) (ret := (some .long)) (own := RX12) (lv := [(0, .int 113), (1, .int 117), (2, .int 101), (3, .int 114), (4, .int 121), (5, .int 0), (6, .int 0)]) (by decide) rfl rfl (Nat.le_of_ble_eq_true rfl) rfl (fun κ sz hk hR hN => ?_)
  refine g_lconst (v := 0) hk dX12_letters_0 (by decide) ?_
  refine g_iload_n hk dX12_letters_1 rfl ?_
  refine g_callS hk (m31_X12_appends l D zt g r) (SP.same _) (fun _ h => h) gX12_letters_X12_appends rfl rfl rfl (by decide +kernel) ⟨Nat.le_of_ble_eq_true rfl, Nat.le_of_ble_eq_true rfl⟩ rfl rfl (Nat.le_of_ble_eq_true rfl) ⟨Nat.le_of_ble_eq_true rfl, Nat.le_of_ble_eq_true rfl⟩ dX12_letters_2 (fun v ty' w' hp hk' => ?_)
  obtain ⟨rfl, rfl⟩ := hp
  show GW κ 7 0 0 (wM r g (upd iM0 14 (-1)) (up3 (up3 (up3 (up3 aM0 13 0 2) 16 0 8) 13 1 2) 16 1 8) (up3L lM0 6 0 275647447)) 5 [(0, .int 113), (1, .int 117), (2, .int 101), (3, .int 114), (4, .int 121), (5, .int 0), (6, .int 0)] [.long 17]
  refine g_iload_n hk dX12_letters_5 rfl ?_
  refine g_callS hk (m32_X12_appends l D zt g r) (SP.same _) (fun _ h => h) gX12_letters_X12_appends rfl rfl rfl (by decide +kernel) ⟨Nat.le_of_ble_eq_true rfl, Nat.le_of_ble_eq_true rfl⟩ rfl rfl (Nat.le_of_ble_eq_true rfl) ⟨Nat.le_of_ble_eq_true rfl, Nat.le_of_ble_eq_true rfl⟩ dX12_letters_6 (fun v ty' w' hp hk' => ?_)
  obtain ⟨rfl, rfl⟩ := hp
  show GW κ 7 0 0 (wM r g (upd iM0 14 (-1)) (up3 (up3 (up3 (up3 aM0 13 0 2) 16 0 8) 13 1 2) 16 1 8) (up3L lM0 6 0 275647447)) 9 [(0, .int 113), (1, .int 117), (2, .int 101), (3, .int 114), (4, .int 121), (5, .int 0), (6, .int 0)] [.long 480]
  refine g_iload_n hk dX12_letters_9 rfl ?_
  refine g_callS hk (m33_X12_appends l D zt g r) (SP.same _) (fun _ h => h) gX12_letters_X12_appends rfl rfl rfl (by decide +kernel) ⟨Nat.le_of_ble_eq_true rfl, Nat.le_of_ble_eq_true rfl⟩ rfl rfl (Nat.le_of_ble_eq_true rfl) ⟨Nat.le_of_ble_eq_true rfl, Nat.le_of_ble_eq_true rfl⟩ dX12_letters_10 (fun v ty' w' hp hk' => ?_)
  obtain ⟨rfl, rfl⟩ := hp
  show GW κ 7 0 0 (wM r g (upd iM0 14 (-1)) (up3 (up3 (up3 (up3 aM0 13 0 2) 16 0 8) 13 1 2) 16 1 8) (up3L lM0 6 0 275647447)) 13 [(0, .int 113), (1, .int 117), (2, .int 101), (3, .int 114), (4, .int 121), (5, .int 0), (6, .int 0)] [.long 12965]
  refine g_iload_n hk dX12_letters_13 rfl ?_
  refine g_callS hk (m34_X12_appends l D zt g r) (SP.same _) (fun _ h => h) gX12_letters_X12_appends rfl rfl rfl (by decide +kernel) ⟨Nat.le_of_ble_eq_true rfl, Nat.le_of_ble_eq_true rfl⟩ rfl rfl (Nat.le_of_ble_eq_true rfl) ⟨Nat.le_of_ble_eq_true rfl, Nat.le_of_ble_eq_true rfl⟩ dX12_letters_14 (fun v ty' w' hp hk' => ?_)
  obtain ⟨rfl, rfl⟩ := hp
  show GW κ 7 0 0 (wM r g (upd iM0 14 (-1)) (up3 (up3 (up3 (up3 aM0 13 0 2) 16 0 8) 13 1 2) 16 1 8) (up3L lM0 6 0 275647447)) 17 [(0, .int 113), (1, .int 117), (2, .int 101), (3, .int 114), (4, .int 121), (5, .int 0), (6, .int 0)] [.long 350073]
  refine g_iload hk dX12_letters_17 rfl ?_
  refine g_callS hk (m35_X12_appends l D zt g r) (SP.same _) (fun _ h => h) gX12_letters_X12_appends rfl rfl rfl (by decide +kernel) ⟨Nat.le_of_ble_eq_true rfl, Nat.le_of_ble_eq_true rfl⟩ rfl rfl (Nat.le_of_ble_eq_true rfl) ⟨Nat.le_of_ble_eq_true rfl, Nat.le_of_ble_eq_true rfl⟩ dX12_letters_19 (fun v ty' w' hp hk' => ?_)
  obtain ⟨rfl, rfl⟩ := hp
  show GW κ 7 0 0 (wM r g (upd iM0 14 (-1)) (up3 (up3 (up3 (up3 aM0 13 0 2) 16 0 8) 13 1 2) 16 1 8) (up3L lM0 6 0 275647447)) 22 [(0, .int 113), (1, .int 117), (2, .int 101), (3, .int 114), (4, .int 121), (5, .int 0), (6, .int 0)] [.long 9451996]
  refine g_iload hk dX12_letters_22 rfl ?_
  refine g_callS hk (m36_X12_appends l D zt g r) (SP.same _) (fun _ h => h) gX12_letters_X12_appends rfl rfl rfl (by decide +kernel) ⟨Nat.le_of_ble_eq_true rfl, Nat.le_of_ble_eq_true rfl⟩ rfl rfl (Nat.le_of_ble_eq_true rfl) ⟨Nat.le_of_ble_eq_true rfl, Nat.le_of_ble_eq_true rfl⟩ dX12_letters_24 (fun v ty' w' hp hk' => ?_)
  obtain ⟨rfl, rfl⟩ := hp
  show GW κ 7 0 0 (wM r g (upd iM0 14 (-1)) (up3 (up3 (up3 (up3 aM0 13 0 2) 16 0 8) 13 1 2) 16 1 8) (up3L lM0 6 0 275647447)) 27 [(0, .int 113), (1, .int 117), (2, .int 101), (3, .int 114), (4, .int 121), (5, .int 0), (6, .int 0)] [.long 9451996]
  refine g_iload hk dX12_letters_27 rfl ?_
  refine g_callS hk (m36_X12_appends l D zt g r) (SP.same _) (fun _ h => h) gX12_letters_X12_appends rfl rfl rfl (by decide +kernel) ⟨Nat.le_of_ble_eq_true rfl, Nat.le_of_ble_eq_true rfl⟩ rfl rfl (Nat.le_of_ble_eq_true rfl) ⟨Nat.le_of_ble_eq_true rfl, Nat.le_of_ble_eq_true rfl⟩ dX12_letters_29 (fun v ty' w' hp hk' => ?_)
  obtain ⟨rfl, rfl⟩ := hp
  show GW κ 7 0 0 (wM r g (upd iM0 14 (-1)) (up3 (up3 (up3 (up3 aM0 13 0 2) 16 0 8) 13 1 2) 16 1 8) (up3L lM0 6 0 275647447)) 32 [(0, .int 113), (1, .int 117), (2, .int 101), (3, .int 114), (4, .int 121), (5, .int 0), (6, .int 0)] [.long 9451996]
  exact g_lret hk hR ⟨rfl, rfl⟩ dX12_letters_32
set_option maxHeartbeats 4000000 in
set_option maxRecDepth 100000 in
theorem m38_X12_appends (l : Launch) (D : va_G) (zt : Nat × Nat × Nat) (g : Nat → ClassId) (r : Nat → Nat) : GM l D zt (tyM g) yX12_appends wsX12_appends ({ frames := 0, cells := 0, slots := 0, locals := 0 } : Room) [.long 0, .int 98] (wM r g (upd iM0 14 (-1)) (up3 (up3 (up3 (up3 aM0 13 0 2) 16 0 8) 13 1 2) 16 1 8) (up3L (up3L lM0 6 0 275647447) 6 1 9451996)) (fun v _ w' => v = some (.long 2) ∧ w' = wM r g (upd iM0 14 (-1)) (up3 (up3 (up3 (up3 aM0 13 0 2) 16 0 8) 13 1 2) 16 1 8) (up3L (up3L lM0 6 0 275647447) 6 1 9451996)) 0 0 := by
  refine GM.of (cc := cX12_appends) (maxL := 3) (ret := (some .long)) (own := RX12) (lv := [(0, .long 0), (2, .int 98)]) (by decide) rfl rfl (Nat.le_of_ble_eq_true rfl) rfl (fun κ sz hk hR hN => ?_)
  refine g_iload_n hk dX12_appends_0 rfl ?_
  refine g_if_ne (tgt := 8) (a := 98) hk dX12_appends_1 (by decide) rfl (fun _ => ?_) (fun z9 => absurd (show 98 ≠ 0 from by decide) z9)
  refine g_ldc2 (v := 27) hk (by decide +kernel) dX12_appends_8 ?_
  refine g_lload_n hk dX12_appends_11 rfl ?_
  refine g_lmul hk dX12_appends_12 ?_
  refine g_norml (v := 0) (by decide) ?_
  refine g_iload_n hk dX12_appends_13 rfl ?_
  refine g_bipush (v := 97) hk dX12_appends_14 (by decide) ?_
  refine g_isub hk dX12_appends_16 ?_
  refine g_norm (v := 1) (by decide) ?_
  refine g_iconst (v := 1) hk dX12_appends_17 (by decide) ?_
  refine g_iadd hk dX12_appends_18 ?_
  refine g_norm (v := 2) (by decide) ?_
  refine g_i2l (v := 2) hk dX12_appends_19 (by decide) ?_
  refine g_ladd hk dX12_appends_20 ?_
  refine g_norml (v := 2) (by decide) ?_
  exact g_lret hk hR ⟨rfl, rfl⟩ dX12_appends_21
set_option maxHeartbeats 4000000 in
set_option maxRecDepth 100000 in
theorem m39_X12_appends (l : Launch) (D : va_G) (zt : Nat × Nat × Nat) (g : Nat → ClassId) (r : Nat → Nat) : GM l D zt (tyM g) yX12_appends wsX12_appends ({ frames := 0, cells := 0, slots := 0, locals := 0 } : Room) [.long 2, .int 97] (wM r g (upd iM0 14 (-1)) (up3 (up3 (up3 (up3 aM0 13 0 2) 16 0 8) 13 1 2) 16 1 8) (up3L (up3L lM0 6 0 275647447) 6 1 9451996)) (fun v _ w' => v = some (.long 55) ∧ w' = wM r g (upd iM0 14 (-1)) (up3 (up3 (up3 (up3 aM0 13 0 2) 16 0 8) 13 1 2) 16 1 8) (up3L (up3L lM0 6 0 275647447) 6 1 9451996)) 0 0 := by
  refine GM.of (cc := cX12_appends) (maxL := 3) (ret := (some .long)) (own := RX12) (lv := [(0, .long 2), (2, .int 97)]) (by decide) rfl rfl (Nat.le_of_ble_eq_true rfl) rfl (fun κ sz hk hR hN => ?_)
  refine g_iload_n hk dX12_appends_0 rfl ?_
  refine g_if_ne (tgt := 8) (a := 97) hk dX12_appends_1 (by decide) rfl (fun _ => ?_) (fun z9 => absurd (show 97 ≠ 0 from by decide) z9)
  refine g_ldc2 (v := 27) hk (by decide +kernel) dX12_appends_8 ?_
  refine g_lload_n hk dX12_appends_11 rfl ?_
  refine g_lmul hk dX12_appends_12 ?_
  refine g_norml (v := 54) (by decide) ?_
  refine g_iload_n hk dX12_appends_13 rfl ?_
  refine g_bipush (v := 97) hk dX12_appends_14 (by decide) ?_
  refine g_isub hk dX12_appends_16 ?_
  refine g_norm (v := 0) (by decide) ?_
  refine g_iconst (v := 1) hk dX12_appends_17 (by decide) ?_
  refine g_iadd hk dX12_appends_18 ?_
  refine g_norm (v := 1) (by decide) ?_
  refine g_i2l (v := 1) hk dX12_appends_19 (by decide) ?_
  refine g_ladd hk dX12_appends_20 ?_
  refine g_norml (v := 55) (by decide) ?_
  exact g_lret hk hR ⟨rfl, rfl⟩ dX12_appends_21
set_option maxHeartbeats 4000000 in
set_option maxRecDepth 100000 in
theorem m40_X12_appends (l : Launch) (D : va_G) (zt : Nat × Nat × Nat) (g : Nat → ClassId) (r : Nat → Nat) : GM l D zt (tyM g) yX12_appends wsX12_appends ({ frames := 0, cells := 0, slots := 0, locals := 0 } : Room) [.long 55, .int 110] (wM r g (upd iM0 14 (-1)) (up3 (up3 (up3 (up3 aM0 13 0 2) 16 0 8) 13 1 2) 16 1 8) (up3L (up3L lM0 6 0 275647447) 6 1 9451996)) (fun v _ w' => v = some (.long 1499) ∧ w' = wM r g (upd iM0 14 (-1)) (up3 (up3 (up3 (up3 aM0 13 0 2) 16 0 8) 13 1 2) 16 1 8) (up3L (up3L lM0 6 0 275647447) 6 1 9451996)) 0 0 := by
  refine GM.of (cc := cX12_appends) (maxL := 3) (ret := (some .long)) (own := RX12) (lv := [(0, .long 55), (2, .int 110)]) (by decide) rfl rfl (Nat.le_of_ble_eq_true rfl) rfl (fun κ sz hk hR hN => ?_)
  refine g_iload_n hk dX12_appends_0 rfl ?_
  refine g_if_ne (tgt := 8) (a := 110) hk dX12_appends_1 (by decide) rfl (fun _ => ?_) (fun z9 => absurd (show 110 ≠ 0 from by decide) z9)
  refine g_ldc2 (v := 27) hk (by decide +kernel) dX12_appends_8 ?_
  refine g_lload_n hk dX12_appends_11 rfl ?_
  refine g_lmul hk dX12_appends_12 ?_
  refine g_norml (v := 1485) (by decide) ?_
  refine g_iload_n hk dX12_appends_13 rfl ?_
  refine g_bipush (v := 97) hk dX12_appends_14 (by decide) ?_
  refine g_isub hk dX12_appends_16 ?_
  refine g_norm (v := 13) (by decide) ?_
  refine g_iconst (v := 1) hk dX12_appends_17 (by decide) ?_
  refine g_iadd hk dX12_appends_18 ?_
  refine g_norm (v := 14) (by decide) ?_
  refine g_i2l (v := 14) hk dX12_appends_19 (by decide) ?_
  refine g_ladd hk dX12_appends_20 ?_
  refine g_norml (v := 1499) (by decide) ?_
  exact g_lret hk hR ⟨rfl, rfl⟩ dX12_appends_21
set_option maxHeartbeats 4000000 in
set_option maxRecDepth 100000 in
theorem m41_X12_appends (l : Launch) (D : va_G) (zt : Nat × Nat × Nat) (g : Nat → ClassId) (r : Nat → Nat) : GM l D zt (tyM g) yX12_appends wsX12_appends ({ frames := 0, cells := 0, slots := 0, locals := 0 } : Room) [.long 1499, .int 100] (wM r g (upd iM0 14 (-1)) (up3 (up3 (up3 (up3 aM0 13 0 2) 16 0 8) 13 1 2) 16 1 8) (up3L (up3L lM0 6 0 275647447) 6 1 9451996)) (fun v _ w' => v = some (.long 40477) ∧ w' = wM r g (upd iM0 14 (-1)) (up3 (up3 (up3 (up3 aM0 13 0 2) 16 0 8) 13 1 2) 16 1 8) (up3L (up3L lM0 6 0 275647447) 6 1 9451996)) 0 0 := by
  refine GM.of (cc := cX12_appends) (maxL := 3) (ret := (some .long)) (own := RX12) (lv := [(0, .long 1499), (2, .int 100)]) (by decide) rfl rfl (Nat.le_of_ble_eq_true rfl) rfl (fun κ sz hk hR hN => ?_)
  refine g_iload_n hk dX12_appends_0 rfl ?_
  refine g_if_ne (tgt := 8) (a := 100) hk dX12_appends_1 (by decide) rfl (fun _ => ?_) (fun z9 => absurd (show 100 ≠ 0 from by decide) z9)
  refine g_ldc2 (v := 27) hk (by decide +kernel) dX12_appends_8 ?_
  refine g_lload_n hk dX12_appends_11 rfl ?_
  refine g_lmul hk dX12_appends_12 ?_
  refine g_norml (v := 40473) (by decide) ?_
  refine g_iload_n hk dX12_appends_13 rfl ?_
  refine g_bipush (v := 97) hk dX12_appends_14 (by decide) ?_
  refine g_isub hk dX12_appends_16 ?_
  refine g_norm (v := 3) (by decide) ?_
  refine g_iconst (v := 1) hk dX12_appends_17 (by decide) ?_
  refine g_iadd hk dX12_appends_18 ?_
  refine g_norm (v := 4) (by decide) ?_
  refine g_i2l (v := 4) hk dX12_appends_19 (by decide) ?_
  refine g_ladd hk dX12_appends_20 ?_
  refine g_norml (v := 40477) (by decide) ?_
  exact g_lret hk hR ⟨rfl, rfl⟩ dX12_appends_21
set_option maxHeartbeats 4000000 in
set_option maxRecDepth 100000 in
theorem m42_X12_appends (l : Launch) (D : va_G) (zt : Nat × Nat × Nat) (g : Nat → ClassId) (r : Nat → Nat) : GM l D zt (tyM g) yX12_appends wsX12_appends ({ frames := 0, cells := 0, slots := 0, locals := 0 } : Room) [.long 40477, .int 0] (wM r g (upd iM0 14 (-1)) (up3 (up3 (up3 (up3 aM0 13 0 2) 16 0 8) 13 1 2) 16 1 8) (up3L (up3L lM0 6 0 275647447) 6 1 9451996)) (fun v _ w' => v = some (.long 40477) ∧ w' = wM r g (upd iM0 14 (-1)) (up3 (up3 (up3 (up3 aM0 13 0 2) 16 0 8) 13 1 2) 16 1 8) (up3L (up3L lM0 6 0 275647447) 6 1 9451996)) 0 0 := by
  refine GM.of (cc := cX12_appends) (maxL := 3) (ret := (some .long)) (own := RX12) (lv := [(0, .long 40477), (2, .int 0)]) (by decide) rfl rfl (Nat.le_of_ble_eq_true rfl) rfl (fun κ sz hk hR hN => ?_)
  refine g_iload_n hk dX12_appends_0 rfl ?_
  refine g_if_ne (tgt := 8) (a := 0) hk dX12_appends_1 (by decide) rfl (fun z9 => absurd z9 (show ¬ (0 ≠ 0) from by decide)) (fun _ => ?_)
  refine g_lload_n hk dX12_appends_4 rfl ?_
  refine g_goto (tgt := 21) hk dX12_appends_5 (by decide) ?_
  exact g_lret hk hR ⟨rfl, rfl⟩ dX12_appends_21
set_option maxHeartbeats 4000000 in
set_option maxRecDepth 100000 in
theorem m43_X12_letters (l : Launch) (D : va_G) (zt : Nat × Nat × Nat) (g : Nat → ClassId) (r : Nat → Nat) : GM l D zt (tyM g) yX12_letters wsX12_letters ({ frames := 1, cells := 0, slots := 0, locals := 22 } : Room) [.int 98, .int 97, .int 110, .int 100, .int 0, .int 0, .int 0] (wM r g (upd iM0 14 (-1)) (up3 (up3 (up3 (up3 aM0 13 0 2) 16 0 8) 13 1 2) 16 1 8) (up3L (up3L lM0 6 0 275647447) 6 1 9451996)) (fun v _ w' => v = some (.long 40477) ∧ w' = wM r g (upd iM0 14 (-1)) (up3 (up3 (up3 (up3 aM0 13 0 2) 16 0 8) 13 1 2) 16 1 8) (up3L (up3L lM0 6 0 275647447) 6 1 9451996)) 0 0 := by
  refine GM.of (cc := cX12_letters) (maxL := 7) (ret := (some .long)) (own := RX12) (lv := [(0, .int 98), (1, .int 97), (2, .int 110), (3, .int 100), (4, .int 0), (5, .int 0), (6, .int 0)]) (by decide) rfl rfl (Nat.le_of_ble_eq_true rfl) rfl (fun κ sz hk hR hN => ?_)
  refine g_lconst (v := 0) hk dX12_letters_0 (by decide) ?_
  refine g_iload_n hk dX12_letters_1 rfl ?_
  refine g_callS hk (m38_X12_appends l D zt g r) (SP.same _) (fun _ h => h) gX12_letters_X12_appends rfl rfl rfl (by decide +kernel) ⟨Nat.le_of_ble_eq_true rfl, Nat.le_of_ble_eq_true rfl⟩ rfl rfl (Nat.le_of_ble_eq_true rfl) ⟨Nat.le_of_ble_eq_true rfl, Nat.le_of_ble_eq_true rfl⟩ dX12_letters_2 (fun v ty' w' hp hk' => ?_)
  obtain ⟨rfl, rfl⟩ := hp
  show GW κ 7 0 0 (wM r g (upd iM0 14 (-1)) (up3 (up3 (up3 (up3 aM0 13 0 2) 16 0 8) 13 1 2) 16 1 8) (up3L (up3L lM0 6 0 275647447) 6 1 9451996)) 5 [(0, .int 98), (1, .int 97), (2, .int 110), (3, .int 100), (4, .int 0), (5, .int 0), (6, .int 0)] [.long 2]
  refine g_iload_n hk dX12_letters_5 rfl ?_
  refine g_callS hk (m39_X12_appends l D zt g r) (SP.same _) (fun _ h => h) gX12_letters_X12_appends rfl rfl rfl (by decide +kernel) ⟨Nat.le_of_ble_eq_true rfl, Nat.le_of_ble_eq_true rfl⟩ rfl rfl (Nat.le_of_ble_eq_true rfl) ⟨Nat.le_of_ble_eq_true rfl, Nat.le_of_ble_eq_true rfl⟩ dX12_letters_6 (fun v ty' w' hp hk' => ?_)
  obtain ⟨rfl, rfl⟩ := hp
  show GW κ 7 0 0 (wM r g (upd iM0 14 (-1)) (up3 (up3 (up3 (up3 aM0 13 0 2) 16 0 8) 13 1 2) 16 1 8) (up3L (up3L lM0 6 0 275647447) 6 1 9451996)) 9 [(0, .int 98), (1, .int 97), (2, .int 110), (3, .int 100), (4, .int 0), (5, .int 0), (6, .int 0)] [.long 55]
  refine g_iload_n hk dX12_letters_9 rfl ?_
  refine g_callS hk (m40_X12_appends l D zt g r) (SP.same _) (fun _ h => h) gX12_letters_X12_appends rfl rfl rfl (by decide +kernel) ⟨Nat.le_of_ble_eq_true rfl, Nat.le_of_ble_eq_true rfl⟩ rfl rfl (Nat.le_of_ble_eq_true rfl) ⟨Nat.le_of_ble_eq_true rfl, Nat.le_of_ble_eq_true rfl⟩ dX12_letters_10 (fun v ty' w' hp hk' => ?_)
  obtain ⟨rfl, rfl⟩ := hp
  show GW κ 7 0 0 (wM r g (upd iM0 14 (-1)) (up3 (up3 (up3 (up3 aM0 13 0 2) 16 0 8) 13 1 2) 16 1 8) (up3L (up3L lM0 6 0 275647447) 6 1 9451996)) 13 [(0, .int 98), (1, .int 97), (2, .int 110), (3, .int 100), (4, .int 0), (5, .int 0), (6, .int 0)] [.long 1499]
  refine g_iload_n hk dX12_letters_13 rfl ?_
  refine g_callS hk (m41_X12_appends l D zt g r) (SP.same _) (fun _ h => h) gX12_letters_X12_appends rfl rfl rfl (by decide +kernel) ⟨Nat.le_of_ble_eq_true rfl, Nat.le_of_ble_eq_true rfl⟩ rfl rfl (Nat.le_of_ble_eq_true rfl) ⟨Nat.le_of_ble_eq_true rfl, Nat.le_of_ble_eq_true rfl⟩ dX12_letters_14 (fun v ty' w' hp hk' => ?_)
  obtain ⟨rfl, rfl⟩ := hp
  show GW κ 7 0 0 (wM r g (upd iM0 14 (-1)) (up3 (up3 (up3 (up3 aM0 13 0 2) 16 0 8) 13 1 2) 16 1 8) (up3L (up3L lM0 6 0 275647447) 6 1 9451996)) 17 [(0, .int 98), (1, .int 97), (2, .int 110), (3, .int 100), (4, .int 0), (5, .int 0), (6, .int 0)] [.long 40477]
  refine g_iload hk dX12_letters_17 rfl ?_
  refine g_callS hk (m42_X12_appends l D zt g r) (SP.same _) (fun _ h => h) gX12_letters_X12_appends rfl rfl rfl (by decide +kernel) ⟨Nat.le_of_ble_eq_true rfl, Nat.le_of_ble_eq_true rfl⟩ rfl rfl (Nat.le_of_ble_eq_true rfl) ⟨Nat.le_of_ble_eq_true rfl, Nat.le_of_ble_eq_true rfl⟩ dX12_letters_19 (fun v ty' w' hp hk' => ?_)
  obtain ⟨rfl, rfl⟩ := hp
  show GW κ 7 0 0 (wM r g (upd iM0 14 (-1)) (up3 (up3 (up3 (up3 aM0 13 0 2) 16 0 8) 13 1 2) 16 1 8) (up3L (up3L lM0 6 0 275647447) 6 1 9451996)) 22 [(0, .int 98), (1, .int 97), (2, .int 110), (3, .int 100), (4, .int 0), (5, .int 0), (6, .int 0)] [.long 40477]
  refine g_iload hk dX12_letters_22 rfl ?_
  refine g_callS hk (m42_X12_appends l D zt g r) (SP.same _) (fun _ h => h) gX12_letters_X12_appends rfl rfl rfl (by decide +kernel) ⟨Nat.le_of_ble_eq_true rfl, Nat.le_of_ble_eq_true rfl⟩ rfl rfl (Nat.le_of_ble_eq_true rfl) ⟨Nat.le_of_ble_eq_true rfl, Nat.le_of_ble_eq_true rfl⟩ dX12_letters_24 (fun v ty' w' hp hk' => ?_)
  obtain ⟨rfl, rfl⟩ := hp
  show GW κ 7 0 0 (wM r g (upd iM0 14 (-1)) (up3 (up3 (up3 (up3 aM0 13 0 2) 16 0 8) 13 1 2) 16 1 8) (up3L (up3L lM0 6 0 275647447) 6 1 9451996)) 27 [(0, .int 98), (1, .int 97), (2, .int 110), (3, .int 100), (4, .int 0), (5, .int 0), (6, .int 0)] [.long 40477]
  refine g_iload hk dX12_letters_27 rfl ?_
  refine g_callS hk (m42_X12_appends l D zt g r) (SP.same _) (fun _ h => h) gX12_letters_X12_appends rfl rfl rfl (by decide +kernel) ⟨Nat.le_of_ble_eq_true rfl, Nat.le_of_ble_eq_true rfl⟩ rfl rfl (Nat.le_of_ble_eq_true rfl) ⟨Nat.le_of_ble_eq_true rfl, Nat.le_of_ble_eq_true rfl⟩ dX12_letters_29 (fun v ty' w' hp hk' => ?_)
  obtain ⟨rfl, rfl⟩ := hp
  show GW κ 7 0 0 (wM r g (upd iM0 14 (-1)) (up3 (up3 (up3 (up3 aM0 13 0 2) 16 0 8) 13 1 2) 16 1 8) (up3L (up3L lM0 6 0 275647447) 6 1 9451996)) 32 [(0, .int 98), (1, .int 97), (2, .int 110), (3, .int 100), (4, .int 0), (5, .int 0), (6, .int 0)] [.long 40477]
  exact g_lret hk hR ⟨rfl, rfl⟩ dX12_letters_32
set_option maxHeartbeats 4000000 in
set_option maxRecDepth 100000 in
theorem m44_X12_appends (l : Launch) (D : va_G) (zt : Nat × Nat × Nat) (g : Nat → ClassId) (r : Nat → Nat) : GM l D zt (tyM g) yX12_appends wsX12_appends ({ frames := 0, cells := 0, slots := 0, locals := 0 } : Room) [.long 0, .int 108] (wM r g (upd iM0 14 (-1)) (up3 (up3 (up3 (up3 aM0 13 0 2) 16 0 8) 13 1 2) 16 1 8) (up3L (up3L (up3L lM0 6 0 275647447) 6 1 9451996) 6 2 40477)) (fun v _ w' => v = some (.long 12) ∧ w' = wM r g (upd iM0 14 (-1)) (up3 (up3 (up3 (up3 aM0 13 0 2) 16 0 8) 13 1 2) 16 1 8) (up3L (up3L (up3L lM0 6 0 275647447) 6 1 9451996) 6 2 40477)) 0 0 := by
  refine GM.of (cc := cX12_appends) (maxL := 3) (ret := (some .long)) (own := RX12) (lv := [(0, .long 0), (2, .int 108)]) (by decide) rfl rfl (Nat.le_of_ble_eq_true rfl) rfl (fun κ sz hk hR hN => ?_)
  refine g_iload_n hk dX12_appends_0 rfl ?_
  refine g_if_ne (tgt := 8) (a := 108) hk dX12_appends_1 (by decide) rfl (fun _ => ?_) (fun z9 => absurd (show 108 ≠ 0 from by decide) z9)
  refine g_ldc2 (v := 27) hk (by decide +kernel) dX12_appends_8 ?_
  refine g_lload_n hk dX12_appends_11 rfl ?_
  refine g_lmul hk dX12_appends_12 ?_
  refine g_norml (v := 0) (by decide) ?_
  refine g_iload_n hk dX12_appends_13 rfl ?_
  refine g_bipush (v := 97) hk dX12_appends_14 (by decide) ?_
  refine g_isub hk dX12_appends_16 ?_
  refine g_norm (v := 11) (by decide) ?_
  refine g_iconst (v := 1) hk dX12_appends_17 (by decide) ?_
  refine g_iadd hk dX12_appends_18 ?_
  refine g_norm (v := 12) (by decide) ?_
  refine g_i2l (v := 12) hk dX12_appends_19 (by decide) ?_
  refine g_ladd hk dX12_appends_20 ?_
  refine g_norml (v := 12) (by decide) ?_
  exact g_lret hk hR ⟨rfl, rfl⟩ dX12_appends_21
set_option maxHeartbeats 4000000 in
set_option maxRecDepth 100000 in
theorem m45_X12_appends (l : Launch) (D : va_G) (zt : Nat × Nat × Nat) (g : Nat → ClassId) (r : Nat → Nat) : GM l D zt (tyM g) yX12_appends wsX12_appends ({ frames := 0, cells := 0, slots := 0, locals := 0 } : Room) [.long 12, .int 101] (wM r g (upd iM0 14 (-1)) (up3 (up3 (up3 (up3 aM0 13 0 2) 16 0 8) 13 1 2) 16 1 8) (up3L (up3L (up3L lM0 6 0 275647447) 6 1 9451996) 6 2 40477)) (fun v _ w' => v = some (.long 329) ∧ w' = wM r g (upd iM0 14 (-1)) (up3 (up3 (up3 (up3 aM0 13 0 2) 16 0 8) 13 1 2) 16 1 8) (up3L (up3L (up3L lM0 6 0 275647447) 6 1 9451996) 6 2 40477)) 0 0 := by
  refine GM.of (cc := cX12_appends) (maxL := 3) (ret := (some .long)) (own := RX12) (lv := [(0, .long 12), (2, .int 101)]) (by decide) rfl rfl (Nat.le_of_ble_eq_true rfl) rfl (fun κ sz hk hR hN => ?_)
  refine g_iload_n hk dX12_appends_0 rfl ?_
  refine g_if_ne (tgt := 8) (a := 101) hk dX12_appends_1 (by decide) rfl (fun _ => ?_) (fun z9 => absurd (show 101 ≠ 0 from by decide) z9)
  refine g_ldc2 (v := 27) hk (by decide +kernel) dX12_appends_8 ?_
  refine g_lload_n hk dX12_appends_11 rfl ?_
  refine g_lmul hk dX12_appends_12 ?_
  refine g_norml (v := 324) (by decide) ?_
  refine g_iload_n hk dX12_appends_13 rfl ?_
  refine g_bipush (v := 97) hk dX12_appends_14 (by decide) ?_
  refine g_isub hk dX12_appends_16 ?_
  refine g_norm (v := 4) (by decide) ?_
  refine g_iconst (v := 1) hk dX12_appends_17 (by decide) ?_
  refine g_iadd hk dX12_appends_18 ?_
  refine g_norm (v := 5) (by decide) ?_
  refine g_i2l (v := 5) hk dX12_appends_19 (by decide) ?_
  refine g_ladd hk dX12_appends_20 ?_
  refine g_norml (v := 329) (by decide) ?_
  exact g_lret hk hR ⟨rfl, rfl⟩ dX12_appends_21
set_option maxHeartbeats 4000000 in
set_option maxRecDepth 100000 in
theorem m46_X12_appends (l : Launch) (D : va_G) (zt : Nat × Nat × Nat) (g : Nat → ClassId) (r : Nat → Nat) : GM l D zt (tyM g) yX12_appends wsX12_appends ({ frames := 0, cells := 0, slots := 0, locals := 0 } : Room) [.long 329, .int 118] (wM r g (upd iM0 14 (-1)) (up3 (up3 (up3 (up3 aM0 13 0 2) 16 0 8) 13 1 2) 16 1 8) (up3L (up3L (up3L lM0 6 0 275647447) 6 1 9451996) 6 2 40477)) (fun v _ w' => v = some (.long 8905) ∧ w' = wM r g (upd iM0 14 (-1)) (up3 (up3 (up3 (up3 aM0 13 0 2) 16 0 8) 13 1 2) 16 1 8) (up3L (up3L (up3L lM0 6 0 275647447) 6 1 9451996) 6 2 40477)) 0 0 := by
  refine GM.of (cc := cX12_appends) (maxL := 3) (ret := (some .long)) (own := RX12) (lv := [(0, .long 329), (2, .int 118)]) (by decide) rfl rfl (Nat.le_of_ble_eq_true rfl) rfl (fun κ sz hk hR hN => ?_)
  refine g_iload_n hk dX12_appends_0 rfl ?_
  refine g_if_ne (tgt := 8) (a := 118) hk dX12_appends_1 (by decide) rfl (fun _ => ?_) (fun z9 => absurd (show 118 ≠ 0 from by decide) z9)
  refine g_ldc2 (v := 27) hk (by decide +kernel) dX12_appends_8 ?_
  refine g_lload_n hk dX12_appends_11 rfl ?_
  refine g_lmul hk dX12_appends_12 ?_
  refine g_norml (v := 8883) (by decide) ?_
  refine g_iload_n hk dX12_appends_13 rfl ?_
  refine g_bipush (v := 97) hk dX12_appends_14 (by decide) ?_
  refine g_isub hk dX12_appends_16 ?_
  refine g_norm (v := 21) (by decide) ?_
  refine g_iconst (v := 1) hk dX12_appends_17 (by decide) ?_
  refine g_iadd hk dX12_appends_18 ?_
  refine g_norm (v := 22) (by decide) ?_
  refine g_i2l (v := 22) hk dX12_appends_19 (by decide) ?_
  refine g_ladd hk dX12_appends_20 ?_
  refine g_norml (v := 8905) (by decide) ?_
  exact g_lret hk hR ⟨rfl, rfl⟩ dX12_appends_21
set_option maxHeartbeats 4000000 in
set_option maxRecDepth 100000 in
theorem m47_X12_appends (l : Launch) (D : va_G) (zt : Nat × Nat × Nat) (g : Nat → ClassId) (r : Nat → Nat) : GM l D zt (tyM g) yX12_appends wsX12_appends ({ frames := 0, cells := 0, slots := 0, locals := 0 } : Room) [.long 8905, .int 101] (wM r g (upd iM0 14 (-1)) (up3 (up3 (up3 (up3 aM0 13 0 2) 16 0 8) 13 1 2) 16 1 8) (up3L (up3L (up3L lM0 6 0 275647447) 6 1 9451996) 6 2 40477)) (fun v _ w' => v = some (.long 240440) ∧ w' = wM r g (upd iM0 14 (-1)) (up3 (up3 (up3 (up3 aM0 13 0 2) 16 0 8) 13 1 2) 16 1 8) (up3L (up3L (up3L lM0 6 0 275647447) 6 1 9451996) 6 2 40477)) 0 0 := by
  refine GM.of (cc := cX12_appends) (maxL := 3) (ret := (some .long)) (own := RX12) (lv := [(0, .long 8905), (2, .int 101)]) (by decide) rfl rfl (Nat.le_of_ble_eq_true rfl) rfl (fun κ sz hk hR hN => ?_)
  refine g_iload_n hk dX12_appends_0 rfl ?_
  refine g_if_ne (tgt := 8) (a := 101) hk dX12_appends_1 (by decide) rfl (fun _ => ?_) (fun z9 => absurd (show 101 ≠ 0 from by decide) z9)
  refine g_ldc2 (v := 27) hk (by decide +kernel) dX12_appends_8 ?_
  refine g_lload_n hk dX12_appends_11 rfl ?_
  refine g_lmul hk dX12_appends_12 ?_
  refine g_norml (v := 240435) (by decide) ?_
  refine g_iload_n hk dX12_appends_13 rfl ?_
  refine g_bipush (v := 97) hk dX12_appends_14 (by decide) ?_
  refine g_isub hk dX12_appends_16 ?_
  refine g_norm (v := 4) (by decide) ?_
  refine g_iconst (v := 1) hk dX12_appends_17 (by decide) ?_
  refine g_iadd hk dX12_appends_18 ?_
  refine g_norm (v := 5) (by decide) ?_
  refine g_i2l (v := 5) hk dX12_appends_19 (by decide) ?_
  refine g_ladd hk dX12_appends_20 ?_
  refine g_norml (v := 240440) (by decide) ?_
  exact g_lret hk hR ⟨rfl, rfl⟩ dX12_appends_21
set_option maxHeartbeats 4000000 in
set_option maxRecDepth 100000 in
theorem m48_X12_appends (l : Launch) (D : va_G) (zt : Nat × Nat × Nat) (g : Nat → ClassId) (r : Nat → Nat) : GM l D zt (tyM g) yX12_appends wsX12_appends ({ frames := 0, cells := 0, slots := 0, locals := 0 } : Room) [.long 240440, .int 108] (wM r g (upd iM0 14 (-1)) (up3 (up3 (up3 (up3 aM0 13 0 2) 16 0 8) 13 1 2) 16 1 8) (up3L (up3L (up3L lM0 6 0 275647447) 6 1 9451996) 6 2 40477)) (fun v _ w' => v = some (.long 6491892) ∧ w' = wM r g (upd iM0 14 (-1)) (up3 (up3 (up3 (up3 aM0 13 0 2) 16 0 8) 13 1 2) 16 1 8) (up3L (up3L (up3L lM0 6 0 275647447) 6 1 9451996) 6 2 40477)) 0 0 := by
  refine GM.of (cc := cX12_appends) (maxL := 3) (ret := (some .long)) (own := RX12) (lv := [(0, .long 240440), (2, .int 108)]) (by decide) rfl rfl (Nat.le_of_ble_eq_true rfl) rfl (fun κ sz hk hR hN => ?_)
  refine g_iload_n hk dX12_appends_0 rfl ?_
  refine g_if_ne (tgt := 8) (a := 108) hk dX12_appends_1 (by decide) rfl (fun _ => ?_) (fun z9 => absurd (show 108 ≠ 0 from by decide) z9)
  refine g_ldc2 (v := 27) hk (by decide +kernel) dX12_appends_8 ?_
  refine g_lload_n hk dX12_appends_11 rfl ?_
  refine g_lmul hk dX12_appends_12 ?_
  refine g_norml (v := 6491880) (by decide) ?_
  refine g_iload_n hk dX12_appends_13 rfl ?_
  refine g_bipush (v := 97) hk dX12_appends_14 (by decide) ?_
  refine g_isub hk dX12_appends_16 ?_
  refine g_norm (v := 11) (by decide) ?_
  refine g_iconst (v := 1) hk dX12_appends_17 (by decide) ?_
  refine g_iadd hk dX12_appends_18 ?_
  refine g_norm (v := 12) (by decide) ?_
  refine g_i2l (v := 12) hk dX12_appends_19 (by decide) ?_
  refine g_ladd hk dX12_appends_20 ?_
  refine g_norml (v := 6491892) (by decide) ?_
  exact g_lret hk hR ⟨rfl, rfl⟩ dX12_appends_21
set_option maxHeartbeats 4000000 in
set_option maxRecDepth 100000 in
theorem m49_X12_appends (l : Launch) (D : va_G) (zt : Nat × Nat × Nat) (g : Nat → ClassId) (r : Nat → Nat) : GM l D zt (tyM g) yX12_appends wsX12_appends ({ frames := 0, cells := 0, slots := 0, locals := 0 } : Room) [.long 6491892, .int 0] (wM r g (upd iM0 14 (-1)) (up3 (up3 (up3 (up3 aM0 13 0 2) 16 0 8) 13 1 2) 16 1 8) (up3L (up3L (up3L lM0 6 0 275647447) 6 1 9451996) 6 2 40477)) (fun v _ w' => v = some (.long 6491892) ∧ w' = wM r g (upd iM0 14 (-1)) (up3 (up3 (up3 (up3 aM0 13 0 2) 16 0 8) 13 1 2) 16 1 8) (up3L (up3L (up3L lM0 6 0 275647447) 6 1 9451996) 6 2 40477)) 0 0 := by
  refine GM.of (cc := cX12_appends) (maxL := 3) (ret := (some .long)) (own := RX12) (lv := [(0, .long 6491892), (2, .int 0)]) (by decide) rfl rfl (Nat.le_of_ble_eq_true rfl) rfl (fun κ sz hk hR hN => ?_)
  refine g_iload_n hk dX12_appends_0 rfl ?_
  refine g_if_ne (tgt := 8) (a := 0) hk dX12_appends_1 (by decide) rfl (fun z9 => absurd z9 (show ¬ (0 ≠ 0) from by decide)) (fun _ => ?_)
  refine g_lload_n hk dX12_appends_4 rfl ?_
  refine g_goto (tgt := 21) hk dX12_appends_5 (by decide) ?_
  exact g_lret hk hR ⟨rfl, rfl⟩ dX12_appends_21
set_option maxHeartbeats 4000000 in
set_option maxRecDepth 100000 in
theorem m50_X12_letters (l : Launch) (D : va_G) (zt : Nat × Nat × Nat) (g : Nat → ClassId) (r : Nat → Nat) : GM l D zt (tyM g) yX12_letters wsX12_letters ({ frames := 1, cells := 0, slots := 0, locals := 22 } : Room) [.int 108, .int 101, .int 118, .int 101, .int 108, .int 0, .int 0] (wM r g (upd iM0 14 (-1)) (up3 (up3 (up3 (up3 aM0 13 0 2) 16 0 8) 13 1 2) 16 1 8) (up3L (up3L (up3L lM0 6 0 275647447) 6 1 9451996) 6 2 40477)) (fun v _ w' => v = some (.long 6491892) ∧ w' = wM r g (upd iM0 14 (-1)) (up3 (up3 (up3 (up3 aM0 13 0 2) 16 0 8) 13 1 2) 16 1 8) (up3L (up3L (up3L lM0 6 0 275647447) 6 1 9451996) 6 2 40477)) 0 0 := by
  refine GM.of (cc := cX12_letters) (maxL := 7) (ret := (some .long)) (own := RX12) (lv := [(0, .int 108), (1, .int 101), (2, .int 118), (3, .int 101), (4, .int 108), (5, .int 0), (6, .int 0)]) (by decide) rfl rfl (Nat.le_of_ble_eq_true rfl) rfl (fun κ sz hk hR hN => ?_)
  refine g_lconst (v := 0) hk dX12_letters_0 (by decide) ?_
  refine g_iload_n hk dX12_letters_1 rfl ?_
  refine g_callS hk (m44_X12_appends l D zt g r) (SP.same _) (fun _ h => h) gX12_letters_X12_appends rfl rfl rfl (by decide +kernel) ⟨Nat.le_of_ble_eq_true rfl, Nat.le_of_ble_eq_true rfl⟩ rfl rfl (Nat.le_of_ble_eq_true rfl) ⟨Nat.le_of_ble_eq_true rfl, Nat.le_of_ble_eq_true rfl⟩ dX12_letters_2 (fun v ty' w' hp hk' => ?_)
  obtain ⟨rfl, rfl⟩ := hp
  show GW κ 7 0 0 (wM r g (upd iM0 14 (-1)) (up3 (up3 (up3 (up3 aM0 13 0 2) 16 0 8) 13 1 2) 16 1 8) (up3L (up3L (up3L lM0 6 0 275647447) 6 1 9451996) 6 2 40477)) 5 [(0, .int 108), (1, .int 101), (2, .int 118), (3, .int 101), (4, .int 108), (5, .int 0), (6, .int 0)] [.long 12]
  refine g_iload_n hk dX12_letters_5 rfl ?_
  refine g_callS hk (m45_X12_appends l D zt g r) (SP.same _) (fun _ h => h) gX12_letters_X12_appends rfl rfl rfl (by decide +kernel) ⟨Nat.le_of_ble_eq_true rfl, Nat.le_of_ble_eq_true rfl⟩ rfl rfl (Nat.le_of_ble_eq_true rfl) ⟨Nat.le_of_ble_eq_true rfl, Nat.le_of_ble_eq_true rfl⟩ dX12_letters_6 (fun v ty' w' hp hk' => ?_)
  obtain ⟨rfl, rfl⟩ := hp
  show GW κ 7 0 0 (wM r g (upd iM0 14 (-1)) (up3 (up3 (up3 (up3 aM0 13 0 2) 16 0 8) 13 1 2) 16 1 8) (up3L (up3L (up3L lM0 6 0 275647447) 6 1 9451996) 6 2 40477)) 9 [(0, .int 108), (1, .int 101), (2, .int 118), (3, .int 101), (4, .int 108), (5, .int 0), (6, .int 0)] [.long 329]
  refine g_iload_n hk dX12_letters_9 rfl ?_
  refine g_callS hk (m46_X12_appends l D zt g r) (SP.same _) (fun _ h => h) gX12_letters_X12_appends rfl rfl rfl (by decide +kernel) ⟨Nat.le_of_ble_eq_true rfl, Nat.le_of_ble_eq_true rfl⟩ rfl rfl (Nat.le_of_ble_eq_true rfl) ⟨Nat.le_of_ble_eq_true rfl, Nat.le_of_ble_eq_true rfl⟩ dX12_letters_10 (fun v ty' w' hp hk' => ?_)
  obtain ⟨rfl, rfl⟩ := hp
  show GW κ 7 0 0 (wM r g (upd iM0 14 (-1)) (up3 (up3 (up3 (up3 aM0 13 0 2) 16 0 8) 13 1 2) 16 1 8) (up3L (up3L (up3L lM0 6 0 275647447) 6 1 9451996) 6 2 40477)) 13 [(0, .int 108), (1, .int 101), (2, .int 118), (3, .int 101), (4, .int 108), (5, .int 0), (6, .int 0)] [.long 8905]
  refine g_iload_n hk dX12_letters_13 rfl ?_
  refine g_callS hk (m47_X12_appends l D zt g r) (SP.same _) (fun _ h => h) gX12_letters_X12_appends rfl rfl rfl (by decide +kernel) ⟨Nat.le_of_ble_eq_true rfl, Nat.le_of_ble_eq_true rfl⟩ rfl rfl (Nat.le_of_ble_eq_true rfl) ⟨Nat.le_of_ble_eq_true rfl, Nat.le_of_ble_eq_true rfl⟩ dX12_letters_14 (fun v ty' w' hp hk' => ?_)
  obtain ⟨rfl, rfl⟩ := hp
  show GW κ 7 0 0 (wM r g (upd iM0 14 (-1)) (up3 (up3 (up3 (up3 aM0 13 0 2) 16 0 8) 13 1 2) 16 1 8) (up3L (up3L (up3L lM0 6 0 275647447) 6 1 9451996) 6 2 40477)) 17 [(0, .int 108), (1, .int 101), (2, .int 118), (3, .int 101), (4, .int 108), (5, .int 0), (6, .int 0)] [.long 240440]
  refine g_iload hk dX12_letters_17 rfl ?_
  refine g_callS hk (m48_X12_appends l D zt g r) (SP.same _) (fun _ h => h) gX12_letters_X12_appends rfl rfl rfl (by decide +kernel) ⟨Nat.le_of_ble_eq_true rfl, Nat.le_of_ble_eq_true rfl⟩ rfl rfl (Nat.le_of_ble_eq_true rfl) ⟨Nat.le_of_ble_eq_true rfl, Nat.le_of_ble_eq_true rfl⟩ dX12_letters_19 (fun v ty' w' hp hk' => ?_)
  obtain ⟨rfl, rfl⟩ := hp
  show GW κ 7 0 0 (wM r g (upd iM0 14 (-1)) (up3 (up3 (up3 (up3 aM0 13 0 2) 16 0 8) 13 1 2) 16 1 8) (up3L (up3L (up3L lM0 6 0 275647447) 6 1 9451996) 6 2 40477)) 22 [(0, .int 108), (1, .int 101), (2, .int 118), (3, .int 101), (4, .int 108), (5, .int 0), (6, .int 0)] [.long 6491892]
  refine g_iload hk dX12_letters_22 rfl ?_
  refine g_callS hk (m49_X12_appends l D zt g r) (SP.same _) (fun _ h => h) gX12_letters_X12_appends rfl rfl rfl (by decide +kernel) ⟨Nat.le_of_ble_eq_true rfl, Nat.le_of_ble_eq_true rfl⟩ rfl rfl (Nat.le_of_ble_eq_true rfl) ⟨Nat.le_of_ble_eq_true rfl, Nat.le_of_ble_eq_true rfl⟩ dX12_letters_24 (fun v ty' w' hp hk' => ?_)
  obtain ⟨rfl, rfl⟩ := hp
  show GW κ 7 0 0 (wM r g (upd iM0 14 (-1)) (up3 (up3 (up3 (up3 aM0 13 0 2) 16 0 8) 13 1 2) 16 1 8) (up3L (up3L (up3L lM0 6 0 275647447) 6 1 9451996) 6 2 40477)) 27 [(0, .int 108), (1, .int 101), (2, .int 118), (3, .int 101), (4, .int 108), (5, .int 0), (6, .int 0)] [.long 6491892]
  refine g_iload hk dX12_letters_27 rfl ?_
  refine g_callS hk (m49_X12_appends l D zt g r) (SP.same _) (fun _ h => h) gX12_letters_X12_appends rfl rfl rfl (by decide +kernel) ⟨Nat.le_of_ble_eq_true rfl, Nat.le_of_ble_eq_true rfl⟩ rfl rfl (Nat.le_of_ble_eq_true rfl) ⟨Nat.le_of_ble_eq_true rfl, Nat.le_of_ble_eq_true rfl⟩ dX12_letters_29 (fun v ty' w' hp hk' => ?_)
  obtain ⟨rfl, rfl⟩ := hp
  show GW κ 7 0 0 (wM r g (upd iM0 14 (-1)) (up3 (up3 (up3 (up3 aM0 13 0 2) 16 0 8) 13 1 2) 16 1 8) (up3L (up3L (up3L lM0 6 0 275647447) 6 1 9451996) 6 2 40477)) 32 [(0, .int 108), (1, .int 101), (2, .int 118), (3, .int 101), (4, .int 108), (5, .int 0), (6, .int 0)] [.long 6491892]
  exact g_lret hk hR ⟨rfl, rfl⟩ dX12_letters_32
set_option maxHeartbeats 4000000 in
set_option maxRecDepth 100000 in
theorem m51_X12_appends (l : Launch) (D : va_G) (zt : Nat × Nat × Nat) (g : Nat → ClassId) (r : Nat → Nat) : GM l D zt (tyM g) yX12_appends wsX12_appends ({ frames := 0, cells := 0, slots := 0, locals := 0 } : Room) [.long 0, .int 99] (wM r g (upd iM0 14 (-1)) (up3 (up3 (up3 (up3 aM0 13 0 2) 16 0 8) 13 1 2) 16 1 8) (up3L (up3L (up3L (up3L lM0 6 0 275647447) 6 1 9451996) 6 2 40477) 6 3 6491892)) (fun v _ w' => v = some (.long 3) ∧ w' = wM r g (upd iM0 14 (-1)) (up3 (up3 (up3 (up3 aM0 13 0 2) 16 0 8) 13 1 2) 16 1 8) (up3L (up3L (up3L (up3L lM0 6 0 275647447) 6 1 9451996) 6 2 40477) 6 3 6491892)) 0 0 := by
  refine GM.of (cc := cX12_appends) (maxL := 3) (ret := (some .long)) (own := RX12) (lv := [(0, .long 0), (2, .int 99)]) (by decide) rfl rfl (Nat.le_of_ble_eq_true rfl) rfl (fun κ sz hk hR hN => ?_)
  refine g_iload_n hk dX12_appends_0 rfl ?_
  refine g_if_ne (tgt := 8) (a := 99) hk dX12_appends_1 (by decide) rfl (fun _ => ?_) (fun z9 => absurd (show 99 ≠ 0 from by decide) z9)
  refine g_ldc2 (v := 27) hk (by decide +kernel) dX12_appends_8 ?_
  refine g_lload_n hk dX12_appends_11 rfl ?_
  refine g_lmul hk dX12_appends_12 ?_
  refine g_norml (v := 0) (by decide) ?_
  refine g_iload_n hk dX12_appends_13 rfl ?_
  refine g_bipush (v := 97) hk dX12_appends_14 (by decide) ?_
  refine g_isub hk dX12_appends_16 ?_
  refine g_norm (v := 2) (by decide) ?_
  refine g_iconst (v := 1) hk dX12_appends_17 (by decide) ?_
  refine g_iadd hk dX12_appends_18 ?_
  refine g_norm (v := 3) (by decide) ?_
  refine g_i2l (v := 3) hk dX12_appends_19 (by decide) ?_
  refine g_ladd hk dX12_appends_20 ?_
  refine g_norml (v := 3) (by decide) ?_
  exact g_lret hk hR ⟨rfl, rfl⟩ dX12_appends_21
set_option maxHeartbeats 4000000 in
set_option maxRecDepth 100000 in
theorem m52_X12_appends (l : Launch) (D : va_G) (zt : Nat × Nat × Nat) (g : Nat → ClassId) (r : Nat → Nat) : GM l D zt (tyM g) yX12_appends wsX12_appends ({ frames := 0, cells := 0, slots := 0, locals := 0 } : Room) [.long 3, .int 111] (wM r g (upd iM0 14 (-1)) (up3 (up3 (up3 (up3 aM0 13 0 2) 16 0 8) 13 1 2) 16 1 8) (up3L (up3L (up3L (up3L lM0 6 0 275647447) 6 1 9451996) 6 2 40477) 6 3 6491892)) (fun v _ w' => v = some (.long 96) ∧ w' = wM r g (upd iM0 14 (-1)) (up3 (up3 (up3 (up3 aM0 13 0 2) 16 0 8) 13 1 2) 16 1 8) (up3L (up3L (up3L (up3L lM0 6 0 275647447) 6 1 9451996) 6 2 40477) 6 3 6491892)) 0 0 := by
  refine GM.of (cc := cX12_appends) (maxL := 3) (ret := (some .long)) (own := RX12) (lv := [(0, .long 3), (2, .int 111)]) (by decide) rfl rfl (Nat.le_of_ble_eq_true rfl) rfl (fun κ sz hk hR hN => ?_)
  refine g_iload_n hk dX12_appends_0 rfl ?_
  refine g_if_ne (tgt := 8) (a := 111) hk dX12_appends_1 (by decide) rfl (fun _ => ?_) (fun z9 => absurd (show 111 ≠ 0 from by decide) z9)
  refine g_ldc2 (v := 27) hk (by decide +kernel) dX12_appends_8 ?_
  refine g_lload_n hk dX12_appends_11 rfl ?_
  refine g_lmul hk dX12_appends_12 ?_
  refine g_norml (v := 81) (by decide) ?_
  refine g_iload_n hk dX12_appends_13 rfl ?_
  refine g_bipush (v := 97) hk dX12_appends_14 (by decide) ?_
  refine g_isub hk dX12_appends_16 ?_
  refine g_norm (v := 14) (by decide) ?_
  refine g_iconst (v := 1) hk dX12_appends_17 (by decide) ?_
  refine g_iadd hk dX12_appends_18 ?_
  refine g_norm (v := 15) (by decide) ?_
  refine g_i2l (v := 15) hk dX12_appends_19 (by decide) ?_
  refine g_ladd hk dX12_appends_20 ?_
  refine g_norml (v := 96) (by decide) ?_
  exact g_lret hk hR ⟨rfl, rfl⟩ dX12_appends_21
set_option maxHeartbeats 4000000 in
set_option maxRecDepth 100000 in
theorem m53_X12_appends (l : Launch) (D : va_G) (zt : Nat × Nat × Nat) (g : Nat → ClassId) (r : Nat → Nat) : GM l D zt (tyM g) yX12_appends wsX12_appends ({ frames := 0, cells := 0, slots := 0, locals := 0 } : Room) [.long 96, .int 115] (wM r g (upd iM0 14 (-1)) (up3 (up3 (up3 (up3 aM0 13 0 2) 16 0 8) 13 1 2) 16 1 8) (up3L (up3L (up3L (up3L lM0 6 0 275647447) 6 1 9451996) 6 2 40477) 6 3 6491892)) (fun v _ w' => v = some (.long 2611) ∧ w' = wM r g (upd iM0 14 (-1)) (up3 (up3 (up3 (up3 aM0 13 0 2) 16 0 8) 13 1 2) 16 1 8) (up3L (up3L (up3L (up3L lM0 6 0 275647447) 6 1 9451996) 6 2 40477) 6 3 6491892)) 0 0 := by
  refine GM.of (cc := cX12_appends) (maxL := 3) (ret := (some .long)) (own := RX12) (lv := [(0, .long 96), (2, .int 115)]) (by decide) rfl rfl (Nat.le_of_ble_eq_true rfl) rfl (fun κ sz hk hR hN => ?_)
  refine g_iload_n hk dX12_appends_0 rfl ?_
  refine g_if_ne (tgt := 8) (a := 115) hk dX12_appends_1 (by decide) rfl (fun _ => ?_) (fun z9 => absurd (show 115 ≠ 0 from by decide) z9)
  refine g_ldc2 (v := 27) hk (by decide +kernel) dX12_appends_8 ?_
  refine g_lload_n hk dX12_appends_11 rfl ?_
  refine g_lmul hk dX12_appends_12 ?_
  refine g_norml (v := 2592) (by decide) ?_
  refine g_iload_n hk dX12_appends_13 rfl ?_
  refine g_bipush (v := 97) hk dX12_appends_14 (by decide) ?_
  refine g_isub hk dX12_appends_16 ?_
  refine g_norm (v := 18) (by decide) ?_
  refine g_iconst (v := 1) hk dX12_appends_17 (by decide) ?_
  refine g_iadd hk dX12_appends_18 ?_
  refine g_norm (v := 19) (by decide) ?_
  refine g_i2l (v := 19) hk dX12_appends_19 (by decide) ?_
  refine g_ladd hk dX12_appends_20 ?_
  refine g_norml (v := 2611) (by decide) ?_
  exact g_lret hk hR ⟨rfl, rfl⟩ dX12_appends_21
set_option maxHeartbeats 4000000 in
set_option maxRecDepth 100000 in
theorem m54_X12_appends (l : Launch) (D : va_G) (zt : Nat × Nat × Nat) (g : Nat → ClassId) (r : Nat → Nat) : GM l D zt (tyM g) yX12_appends wsX12_appends ({ frames := 0, cells := 0, slots := 0, locals := 0 } : Room) [.long 2611, .int 116] (wM r g (upd iM0 14 (-1)) (up3 (up3 (up3 (up3 aM0 13 0 2) 16 0 8) 13 1 2) 16 1 8) (up3L (up3L (up3L (up3L lM0 6 0 275647447) 6 1 9451996) 6 2 40477) 6 3 6491892)) (fun v _ w' => v = some (.long 70517) ∧ w' = wM r g (upd iM0 14 (-1)) (up3 (up3 (up3 (up3 aM0 13 0 2) 16 0 8) 13 1 2) 16 1 8) (up3L (up3L (up3L (up3L lM0 6 0 275647447) 6 1 9451996) 6 2 40477) 6 3 6491892)) 0 0 := by
  refine GM.of (cc := cX12_appends) (maxL := 3) (ret := (some .long)) (own := RX12) (lv := [(0, .long 2611), (2, .int 116)]) (by decide) rfl rfl (Nat.le_of_ble_eq_true rfl) rfl (fun κ sz hk hR hN => ?_)
  refine g_iload_n hk dX12_appends_0 rfl ?_
  refine g_if_ne (tgt := 8) (a := 116) hk dX12_appends_1 (by decide) rfl (fun _ => ?_) (fun z9 => absurd (show 116 ≠ 0 from by decide) z9)
  refine g_ldc2 (v := 27) hk (by decide +kernel) dX12_appends_8 ?_
  refine g_lload_n hk dX12_appends_11 rfl ?_
  refine g_lmul hk dX12_appends_12 ?_
  refine g_norml (v := 70497) (by decide) ?_
  refine g_iload_n hk dX12_appends_13 rfl ?_
  refine g_bipush (v := 97) hk dX12_appends_14 (by decide) ?_
  refine g_isub hk dX12_appends_16 ?_
  refine g_norm (v := 19) (by decide) ?_
  refine g_iconst (v := 1) hk dX12_appends_17 (by decide) ?_
  refine g_iadd hk dX12_appends_18 ?_
  refine g_norm (v := 20) (by decide) ?_
  refine g_i2l (v := 20) hk dX12_appends_19 (by decide) ?_
  refine g_ladd hk dX12_appends_20 ?_
  refine g_norml (v := 70517) (by decide) ?_
  exact g_lret hk hR ⟨rfl, rfl⟩ dX12_appends_21
set_option maxHeartbeats 4000000 in
set_option maxRecDepth 100000 in
theorem m55_X12_appends (l : Launch) (D : va_G) (zt : Nat × Nat × Nat) (g : Nat → ClassId) (r : Nat → Nat) : GM l D zt (tyM g) yX12_appends wsX12_appends ({ frames := 0, cells := 0, slots := 0, locals := 0 } : Room) [.long 70517, .int 0] (wM r g (upd iM0 14 (-1)) (up3 (up3 (up3 (up3 aM0 13 0 2) 16 0 8) 13 1 2) 16 1 8) (up3L (up3L (up3L (up3L lM0 6 0 275647447) 6 1 9451996) 6 2 40477) 6 3 6491892)) (fun v _ w' => v = some (.long 70517) ∧ w' = wM r g (upd iM0 14 (-1)) (up3 (up3 (up3 (up3 aM0 13 0 2) 16 0 8) 13 1 2) 16 1 8) (up3L (up3L (up3L (up3L lM0 6 0 275647447) 6 1 9451996) 6 2 40477) 6 3 6491892)) 0 0 := by
  refine GM.of (cc := cX12_appends) (maxL := 3) (ret := (some .long)) (own := RX12) (lv := [(0, .long 70517), (2, .int 0)]) (by decide) rfl rfl (Nat.le_of_ble_eq_true rfl) rfl (fun κ sz hk hR hN => ?_)
  refine g_iload_n hk dX12_appends_0 rfl ?_
  refine g_if_ne (tgt := 8) (a := 0) hk dX12_appends_1 (by decide) rfl (fun z9 => absurd z9 (show ¬ (0 ≠ 0) from by decide)) (fun _ => ?_)
  refine g_lload_n hk dX12_appends_4 rfl ?_
  refine g_goto (tgt := 21) hk dX12_appends_5 (by decide) ?_
  exact g_lret hk hR ⟨rfl, rfl⟩ dX12_appends_21
