/-- a whole text: series, what is set, QUERIES, SLOTS and what can be undone alike -/
theorem read_st {I I' J J' : Nat → Int32} {A A' B B' : Nat → Nat → Int32} {M M' : Nat → Nat → Int64} {v w : Int32} (h : RT I A J B M) (hHS : HS I A J B) (hQ : QS I A J B) (hL9 : SLS I A B) (hI : IvX I A) (hJ : IvM J B) (eX : FE (fX11_read I A) (v, I', A')) (eM : FE (fM12_read J B M) (w, J', B', M')) : HS I' A' J' B' ∧ QS I' A' J' B' ∧ SLS I' A' B' := by
  obtain ⟨hT, hL⟩ := h
  have h0 := IvX_f0 hI
  have h15 := IvM_f15 hJ
  have eX2 : fX11_read I A = (v, I', A') := eX
  have eM2 : fM12_read J B M = (w, J', B', M') := eM
  have hc0 := cl_int (y := I 0) h0.1
  obtain ⟨n, hn⟩ : ∃ n : Nat, n = (I 0).toNatClampNeg := ⟨_, rfl⟩
  have hnI : (I 0).toInt = (n : Int) := by omega
  have hnJ : (J 1).toInt = (n : Int) := by rw [← hT.1]; exact hnI
  have hn2 : n ≤ 2000 := by omega
  -- the sides
  obtain ⟨σ, s, hs⟩ : ∃ (σ : Nat) (s : Int32), ((J 15).toInt = 0 ∧ σ = 1 ∧ s = 1) ∨ ((J 15).toInt = 1 ∧ σ = 0 ∧ s = 0) := by
    by_cases c : (J 15).toInt = 0
    · exact ⟨1, 1, Or.inl ⟨c, rfl, rfl⟩⟩
    · exact ⟨0, 0, Or.inr ⟨by omega, rfl, rfl⟩⟩
  have hσ : σ ≤ 1 := by rcases hs with h | h <;> omega
  have hss : s.toInt = (σ : Int) := by rcases hs with ⟨_, a, b⟩ | ⟨_, a, b⟩ <;> rw [a, b] <;> rfl
  -- the reference: copy and cut
  obtain ⟨B2, mB2, hB2, e1⟩ := m_copy (J := J) (B := B) (M := M) (σ := σ) (s := s) hnJ hn2 hs FU 0 0 B rfl (by omega) (by have := FU_eq; omega) Md.rf (fun j hj => by omega)
  have e2 : fM12_read J B M = RDM σ s J B2 M := e1
  have hf : ∀ j, j < n → (B2 1 j &&& 255).toInt = bt A j := fun j hj => by
    rw [hB2 j hj, ← hT.2 j (by omega)]; rfl
  obtain ⟨J3, B3, L3, c, pos, k1, k2, k3, k4, k5, k6, k7, k8, k9, k10⟩ := m_cut (J := upd (upd J 2 (J 1)) 1 0) (B := B2) (L := M) (f := bt A) (n := n) hnJ hn2 hf FU 0 (upd (upd (upd J 2 (J 1)) 1 0) 3 0) B2 M 0 0 0 (fun _ => 0) rfl (by omega) rfl (by omega) (Md.up Md.rf rfl) Md.rf Md.rf rfl rfl (fun _ _ => Nat.zero_le n) (Nat.le_refl _) (fun j a b => by omega) (fun t ht => by omega) (by have := FU_eq; omega)
  have e3 : fM12_cut (upd (upd J 2 (J 1)) 1 0) B2 M = (0, J3, B3, L3) := k1
  unfold RDM at e2
  rw [e3, bdM_mk] at e2
  have lk3 : LK L3 := fun k hk => by rw [k4 6 rfl]; exact hL k hk
  have hE : ENV n c pos A (bin B3 σ) L3 := by
    refine ⟨hn2, fun j hj => ?_, lk3, k8, fun u hu => ?_, k10, k6⟩
    · rw [hT.2 j (by omega)]
      exact (i32_mask 8 rfl (by decide) (by decide)).1
    · obtain ⟨s9, cl9, h9⟩ := k9 u hu
      exact ⟨s9, cl9, h9.cg rfl rfl rfl⟩
  -- the class begins
  obtain ⟨Ac, hAc⟩ : ∃ Ac, Ac = up3 (up3 (up3 (up3 A 2 0 2) 2 1 0) 2 2 0) 2 3 8 := ⟨_, rfl⟩
  obtain ⟨Ib, hIb⟩ : ∃ Ib, Ib = upd (upd (upd (upd (upd (upd (upd (upd (upd (upd (upd I 14 0) 16 0) 6 0) 8 0) 9 (-2)) 10 0) 11 0) 12 (-1)) 13 (-1)) 5 0) 4 0 := ⟨_, rfl⟩
  have hA0 : Ac 0 = A 0 := by rw [hAc]; rfl
  obtain ⟨I1, s1, e1', c1, n1, n2, n3, n4⟩ := x_next (I := Ib) (A := Ac) (n := n) (p := pos 0) (by rw [hIb]; exact hnI) hn2 (fun j hj => by rw [hA0]; exact hE.2.1 j hj) (by rw [hIb, k7]; rfl) (by rw [k7]; omega)
  have eb : fX5_begin I A = (0, I1, Ac) := by
    have e8 : fX8_clear I A = (0, upd I 14 0, Ac) := by
      unfold fX8_clear
      rw [x_clear7, ← hAc]; rfl
    rw [hIb] at n1
    have e9 : fX10_toFirstToken (upd (upd (upd (upd (upd (upd (upd (upd (upd I 14 0) 16 0) 6 0) 8 0) 9 (-2)) 10 0) 11 0) 12 (-1)) 13 (-1)) Ac = (0, I1, Ac) := by
      unfold fX10_toFirstToken
      rw [n1]; rfl
    unfold fX5_begin
    rw [e8, bdX_mk, e9]; rfl
  have hc1 : 0 < c := by
    rcases k10 with h9 | ⟨u, h9, -⟩ <;> omega
  have hH : HAND n c pos A I1 Ac 0 := ⟨hA0, by rw [n2 0 rfl, hIb]; exact hnI, by rw [n3, hIb]; rfl, hc1, by omega, s1, e1', c1, n4⟩
  have i2 : 0 ≤ (I1 2).toInt := by rw [n4.2.2.1]; omega
  have g : ∀ k, [1, 2, 3, 4, 5].contains k = false → I1 k = Ib k := n2
  have hS : ST0 n c pos A (bin B3 σ) L3 (jin J3 s) σ 0 I1 Ac (jin J3 s) (bin B3 σ) L3 0 := by
    refine ⟨⟨hH, Md.rf, Md.rf, Md.rf, ⟨rfl, fun _ _ => rfl, fun _ _ => rfl⟩, rfl, rfl, by rw [g 10 rfl, hIb]; rfl, hss, hσ⟩, ?_, ?_, ?_, by rw [g 6 rfl, hIb]; rfl, by rw [g 9 rfl, hIb]; rfl, rfl, by rw [g 8 rfl, hIb]; rfl, by rw [g 16 rfl, hIb]; rfl⟩
    · have z11 : I1 11 = 0 := by rw [g 11 rfl, hIb]; rfl
      refine ⟨by rw [z11]; rfl, by rw [z11]; decide, fun _ => ⟨by rw [g 12 rfl, hIb]; rfl, by rw [g 13 rfl, hIb]; rfl⟩, fun h9 => absurd (show (I1 11).toInt = 0 by rw [z11]; rfl) h9⟩
    · have z14 : I1 14 = 0 := by rw [g 14 rfl, hIb]; rfl
      refine ⟨?_, by rw [z14]; decide, by rw [z14]; decide, fun j hj => absurd (show (j : Int) < (0 : Int32).toInt by rw [← z14]; exact hj) (by have : (0 : Int32).toInt = 0 := rfl; omega), ?_, fun _ => ?_⟩
      · rw [z14]
        unfold bin
        rw [up3_o (by decide), up3_o (by decide), up3_o (by decide), up3_o (by decide), up3_o (by decide)]; exact up3_at rfl
      · rw [hAc]
        unfold bin
        refine ⟨?_, ?_, ?_, ?_⟩
        · rw [up3_o (by decide), up3_o (by decide), up3_o (by decide), up3_at rfl]; rfl
        · rw [up3_o (by decide), up3_o (by decide), up3_at rfl]; rfl
        · rw [up3_o (by decide), up3_at rfl]; rfl
        · rw [up3_at rfl]; rfl
      · rw [hAc]
        exact ⟨⟨(by decide : 0 ≤ (2 : Int32).toInt), (by decide : (2 : Int32).toInt ≤ 15)⟩, ⟨(by decide : 0 ≤ (0 : Int32).toInt), (by decide : (0 : Int32).toInt ≤ 3)⟩, ⟨(by decide : 0 ≤ (0 : Int32).toInt), (by decide : (0 : Int32).toInt ≤ 1)⟩, ⟨(by decide : 1 ≤ (8 : Int32).toInt), (by decide : (8 : Int32).toInt ≤ 99)⟩⟩
    · refine ⟨?_, rfl, by omega, fun q hq => by omega⟩
      unfold bin
      rw [up3_o (by decide), up3_o (by decide), up3_o (by decide), up3_o (by decide), up3_at rfl]; rfl
  have hO := sim_all hE FU I1 Ac (jin J3 s) (bin B3 σ) L3 0 0 hS (by have := FU_eq; omega)
  rw [← e2, eM2] at hO
  have i14 : I1 4 = 1 := by rw [n3, hIb]; rfl
  have run : ∀ (k : Int32) (If : Nat → Int32) (Af : Nat → Nat → Int32), Ev I1 Ac (k, If, Af) → fX5_readText I A = (k, If, Af) := fun k If Af hev => by
    unfold fX5_readText
    rw [eb, bdX_mk]
    exact hev FU 0 (by rw [i14]; rfl) (by decide) (by have := FU_eq; have : (0 : Int32).toInt = 0 := rfl; omega)
  unfold fX11_read at eX2
  have jx : ∀ k, [1, 2, 3, 4, 6, 8, 11, 16, 17].contains k = false → jin J3 s k = J k := fun k hk => by
    have a0 : (k ≠ 1 ∧ k ≠ 2 ∧ k ≠ 3 ∧ k ≠ 4 ∧ k ≠ 6 ∧ k ≠ 8 ∧ k ≠ 11 ∧ k ≠ 16 ∧ k ≠ 17) := by
      simp only [List.contains_cons, List.contains_nil, Bool.or_false, Bool.or_eq_false_iff, beq_eq_false_iff_ne, ne_eq] at hk
      omega
    unfold jin
    rw [upd_ne a0.2.2.2.2.2.2.2.2, upd_ne a0.2.2.2.2.2.2.2.1, upd_ne a0.2.2.2.2.2.2.1, upd_ne a0.2.2.2.2.2.1, upd_ne a0.2.2.2.2.1, upd_ne a0.2.2.2.1]
    rw [k2 k (by simp only [List.contains_cons, List.contains_nil, Bool.or_false, beq_eq_false_iff_ne, ne_eq]; exact a0.2.2.1), upd_ne a0.1, upd_ne a0.2.1]
  have bx : ∀ k, [1, 2, 3, 4, 8, 10, 13, 14, 15, 16].contains k = false → bin B3 σ k = B k := fun k hk => by
    have a0 : (k ≠ 1 ∧ k ≠ 2 ∧ k ≠ 3 ∧ k ≠ 4 ∧ k ≠ 8 ∧ k ≠ 10 ∧ k ≠ 13 ∧ k ≠ 14 ∧ k ≠ 15 ∧ k ≠ 16) := by
      simp only [List.contains_cons, List.contains_nil, Bool.or_false, Bool.or_eq_false_iff, beq_eq_false_iff_ne, ne_eq] at hk
      omega
    unfold bin
    rw [up3_o a0.2.2.2.2.2.2.2.2.2, up3_o a0.2.2.2.2.2.2.2.2.1, up3_o a0.2.2.2.2.2.2.2.1, up3_o a0.2.2.2.2.2.2.1, up3_o a0.2.2.2.2.2.1, up3_o a0.2.2.2.2.1]
    rw [k3 k (by simp only [List.contains_cons, List.contains_nil, Bool.or_false, Bool.or_eq_false_iff, beq_eq_false_iff_ne, ne_eq]; exact ⟨a0.2.1, a0.2.2.1, a0.2.2.2.1⟩), mB2 k (by simp only [List.contains_cons, List.contains_nil, Bool.or_false, beq_eq_false_iff_ne, ne_eq]; exact a0.1)]
  have ix : ∀ k, [1, 2, 3, 4, 5, 6, 8, 9, 10, 11, 12, 13, 14, 16].contains k = false → I1 k = I k := fun k hk => by
    have a0 : (k ≠ 1 ∧ k ≠ 2 ∧ k ≠ 3 ∧ k ≠ 4 ∧ k ≠ 5 ∧ k ≠ 6 ∧ k ≠ 8 ∧ k ≠ 9 ∧ k ≠ 10 ∧ k ≠ 11 ∧ k ≠ 12 ∧ k ≠ 13 ∧ k ≠ 14 ∧ k ≠ 16) := by
      simp only [List.contains_cons, List.contains_nil, Bool.or_false, Bool.or_eq_false_iff, beq_eq_false_iff_ne, ne_eq] at hk
      omega
    rw [g k (by simp only [List.contains_cons, List.contains_nil, Bool.or_false, Bool.or_eq_false_iff, beq_eq_false_iff_ne, ne_eq]; omega), hIb, upd_ne (by omega), upd_ne (by omega), upd_ne (by omega), upd_ne (by omega), upd_ne (by omega), upd_ne (by omega), upd_ne (by omega), upd_ne (by omega), upd_ne (by omega), upd_ne (by omega), upd_ne (by omega)]
  have ax : ∀ k, k ≠ 2 → Ac k = A k := fun k hk => by
    rw [hAc, up3_o hk, up3_o hk, up3_o hk, up3_o hk]
  have b10 : (bin B3 σ) 10 (1 - σ) = B 10 (1 - σ) := by
    have e : B3 10 = B 10 := by rw [k3 10 rfl, mB2 10 rfl]
    unfold bin
    rw [up3_o (by decide), up3_o (by decide), up3_o (by decide), up3_o (by decide), up3_ne (by omega), up3_o (by decide), e]
  obtain ⟨fs, u, nx, h17, h21, h22, hu, h20, hx, hR, hX⟩ := hHS
  rcases hO with ⟨k, pl, ca, Jf, Bf, Lf, o1, o2, ⟨If, Af, o3, u1, u2, u3, u4⟩, o4, o5, o6, o9⟩ | ⟨If, Af, Jf, Bf, Lf, t9, nq9, o1, o3, p1, p2, o7, o8⟩
  · rw [run k If Af o3, bdX_mk, if_pos o2] at eX2
    cases eX2; cases o1
    have fi : ∀ k, SX.contains k = false → k ≠ 0 → (upd If 0 0) k = I k := fun k hk h0 => by
      rw [upd_ne h0, u3 k hk, ix k (by
        simp only [SX, List.contains_cons, List.contains_nil, Bool.or_false, Bool.or_eq_false_iff, beq_eq_false_iff_ne, ne_eq] at hk ⊢
        omega)]
    have fa : ∀ k, SXA.contains k = false → A' k = A k := fun k hk => by
      rw [u4 k hk, ax k (by
        simp only [SXA, List.contains_cons, List.contains_nil, Bool.or_false, Bool.or_eq_false_iff, beq_eq_false_iff_ne, ne_eq] at hk
        omega)]
    refine ⟨⟨fs, u, nx, ?_, ?_, ?_, hu, ?_, hx, ?_, ?_⟩, ?_, ?_⟩
    · rw [fi 17 rfl (by decide)]; exact h17
    · rw [fi 21 rfl (by decide)]; exact h21
    · rw [show (upd (upd Jf 10 pl) 14 ca) 22 = Jf 22 from rfl, o4 22 rfl, jx 22 rfl]; exact h22
    · rw [fi 20 rfl (by decide)]; exact h20
    · rw [fi 18 rfl (by decide), fa 7 rfl, fa 10 rfl, o5 17 rfl, bx 17 rfl]; exact hR
    · have e22 : rwB B' = rwB B := by
        unfold rwB
        rw [o5 22 rfl, bx 22 rfl]
      rw [fi 18 rfl (by decide), fa 7 rfl, fa 10 rfl, fa 11 rfl, fa 12 rfl, fa 13 rfl, e22]; exact hX
    · obtain ⟨lv0, nq, q1, q2, q3, q4, q5, q6⟩ := hQ
      have el : lv0 = 1 - σ := by rcases hs with h9 | h9 <;> omega
      subst el
      refine ⟨1 - σ, nq, ?_, q2, ?_, ?_, q5, fun q hq => ?_⟩
      · rw [show (upd (upd Jf 10 pl) 14 ca) 15 = Jf 15 from rfl, o4 15 rfl, jx 15 rfl]; exact q1
      · rw [fi 19 rfl (by decide)]; exact q3
      · rw [o9.1, b10]; exact q4
      · have e9 := q6 q hq
        rw [fa 8 rfl, fa 9 rfl, o9.2.1 q (by omega), bx 11 rfl]
        refine ⟨e9.1, e9.2.1, e9.2.2.1, fun i hi => ?_⟩
        rw [o9.2.2 (16 * q + i) (by omega), bx 12 rfl]
        exact e9.2.2.2 i hi
    · exact hL9.keep (fi 22 rfl (by decide)) (fi 23 rfl (by decide)) (fi 24 rfl (by decide)) (fi 25 rfl (by decide)) (fi 26 rfl (by decide)) (fi 27 rfl (by decide)) (fa 15 rfl) (fa 16 rfl) (fa 17 rfl) (fa 18 rfl) (fa 19 rfl) (fa 20 rfl) (by rw [o5 27 rfl, bx 27 rfl]) (by rw [o5 28 rfl, bx 28 rfl])
  · rw [run 0 If Af o3, bdX_mk, if_neg (by decide)] at eX2
    obtain ⟨-, -, d1, d2, -, -, -, -, d3⟩ := o7
    obtain ⟨f1, f2, f3, f4, f5, f6⟩ := d1
    obtain ⟨g1, g2, g3, g4⟩ := d2
    obtain ⟨n9, hn9⟩ : ∃ n9 : Nat, (If 14).toInt = (n9 : Int) := ⟨(If 14).toInt.toNat, by omega⟩
    obtain ⟨J9, B9, m9, w1, -, -, w4, w5, w6, w7, w8, w9, w10, w11, w12, w13⟩ := m_sucE (J := Jf) (B := Bf) (L := Lf) (σ := σ) (n := n9) hσ (by rw [f1]; exact hn9) (by omega)
    rw [m9] at o1
    obtain ⟨Iq, Aq, a1, a2, a3, a4, a5⟩ := x_takeQ (I := upd If 0 0) (A := Af) (nq := nq9) d3 g3 (fun q hq => ⟨(g4 q hq).1.2.1, (g4 q hq).1.2.2.1⟩)
    obtain ⟨Ig, Ag, c1, c2, c3, c4, c5, c6, c7, c8⟩ := x_go0 (I := Iq) (A := Aq) (n := n9) (by rw [a2 14 rfl]; exact hn9) (by omega)
    rw [a1, bdX_mk, c1, bdX_mk, x_47E] at eX2
    cases eX2; cases o1
    have so := f6 o8
    refine ⟨⟨0, 0, nx, ?_, ?_, w5, by omega, ?_, hx, ?_, trivial⟩, ⟨σ, nq9, w4, hσ, ?_, ?_, g3, fun q hq => ?_⟩, ?_⟩
    · show (Ig 17).toInt = 0 % 256
      rw [c4]; rfl
    · show (Ig 21).toInt = _
      rw [c6]; rfl
    · show (Ig 20).toInt = _
      rw [c2 20 rfl, a2 20 rfl, show upd If 0 0 20 = If 20 from rfl, p1 20 rfl, ix 20 rfl]; exact h20
    · show Rep 0 (Ig 18).toInt (A' 7) (A' 10) (B' 17)
      rw [c5]
      refine ⟨by rw [w8, f1]; exact hn9, by omega, by omega, fun i hi => ?_, ?_⟩
      · rw [show ri (0 + (i : Int)) = i by unfold ri; omega, c7 i (by omega), a3 1 rfl, w9 i (by omega)]
        rcases f4 i (by omega) with ⟨e1, e2⟩ | ⟨e1, e2⟩
        · exact Or.inl ⟨e1, e2⟩
        · exact Or.inr ⟨e1, e2 o8⟩
      · have y0 : A' 10 0 = Af 2 0 := by rw [c8 0 (by omega), a3 2 rfl]
        have y1 : A' 10 1 = Af 2 1 := by rw [c8 1 (by omega), a3 2 rfl]
        have y2 : A' 10 2 = Af 2 2 := by rw [c8 2 (by omega), a3 2 rfl]
        have y3 : A' 10 3 = Af 2 3 := by rw [c8 3 (by omega), a3 2 rfl]
        unfold StE
        rw [y0, y1, y2, y3, w10, w11, w12, w13]
        exact ⟨⟨f5.1, so.1⟩, ⟨f5.2.1, so.2.1⟩, ⟨f5.2.2.1, so.2.2.1⟩, ⟨f5.2.2.2, so.2.2.2⟩⟩
    · show (Ig 19).toInt = _
      rw [c2 19 rfl]; exact a4
    · rw [w6 10 rfl]; exact g1
    · have e9 := g4 q hq
      have e8 := a5 q hq
      have z8 : A' 8 = Aq 8 := c3 8 rfl
      have z9 : A' 9 q = Af 4 q := by rw [c3 9 rfl, e8.1]
      rw [z8, z9, w6 11 rfl, w6 12 rfl]
      refine ⟨e9.1.1, e9.2.1 o8, e9.1.2.2.1, fun i hi => ?_⟩
      rw [e8.2 i hi]
      exact ⟨(e9.1.2.2.2 i hi).1, (e9.1.2.2.2 i hi).2 o8⟩
    · have z0 : ((0 : Int32).toInt ≠ 0) ↔ False := ⟨fun h9 => h9 rfl, fun h9 => h9.elim⟩
      have sl : ∀ s, s < 3 → (upd (upd (upd Ig 23 0) 25 0) 27 0) (23 + 2 * s) = 0 → SL s (upd (upd (upd Ig 23 0) 25 0) 27 0) A' B' := fun s hs e => by
        unfold SL
        rw [e]
        exact ⟨⟨fun h9 => absurd rfl h9, fun h9 => absurd (w7 s hs) h9⟩, fun h9 => absurd rfl h9⟩
      exact ⟨sl 0 (by omega) rfl, sl 1 (by omega) rfl, sl 2 (by omega) rfl⟩
