/-- the tapes are alike -/
def TP (I : Nat → Int32) (A : Nat → Nat → Int32) (J : Nat → Int32) (B : Nat → Nat → Int32) : Prop := I 0 = J 1 ∧ ∀ j : Nat, (j : Int) < (I 0).toInt → A 0 j = vp_nar .byte (B 0 j) &&& 255
def RT (I : Nat → Int32) (A : Nat → Nat → Int32) (J : Nat → Int32) (B : Nat → Nat → Int32) (M : Nat → Nat → Int64) : Prop := TP I A J B ∧ LK M
theorem RT.keep {I I' J J' : Nat → Int32} {A A' B B' : Nat → Nat → Int32} {M M' : Nat → Nat → Int64} (h : RT I A J B M) (i0 : I' 0 = I 0) (a0 : A' 0 = A 0) (j1 : J' 1 = J 1) (b0 : B' 0 = B 0) (m : M' = M) : RT I' A' J' B' M' := by
  subst m
  unfold RT TP at *
  rw [i0, a0, j1, b0]; exact h
theorem b255 : ∀ k : Fin 32, ¬ k.val < 8 → (Int32.toBitVec 255).getLsbD k.val = false := by decide
theorem bits_b (x : Int32) : x.toInt8.toInt32 &&& 255 = x &&& 255 := by
  apply Int32.toBitVec_inj.1
  simp only [Int32.toBitVec_and, Int8.toBitVec_toInt32, Int32.toBitVec_toInt8]
  ext i hi
  simp only [BitVec.getElem_and, BitVec.getElem_signExtend, BitVec.getElem_setWidth]
  by_cases h : i < 8
  · rw [dif_pos h]
    simp [BitVec.getLsbD_eq_getElem, hi]
  · have h2 : (Int32.toBitVec 255)[i] = false := by
      rw [← BitVec.getLsbD_eq_getElem]
      exact b255 ⟨i, hi⟩ h
    rw [h2, Bool.and_false, Bool.and_false]
theorem bits_s (w : Int32) (s : Int32) (hs : s = 0 ∨ s = 8 ∨ s = 16 ∨ s = 24) : (w >>> (s &&& 31)) &&& 255 = (w.toUInt32 >>> (s.toUInt32 &&& Int32.toUInt32 31)).toInt32 &&& 255 := by
  have key : ∀ (b : BitVec 32) (k : Nat), k ≤ 24 → b.sshiftRight k &&& (Int32.toBitVec 255) = b >>> k &&& (Int32.toBitVec 255) := by
    intro b k hk
    ext i hi
    rw [BitVec.getElem_and, BitVec.getElem_and]
    by_cases h : i < 8
    · rw [BitVec.getElem_sshiftRight, BitVec.getElem_ushiftRight]
      have h9 : k + i < 32 := by omega
      rw [dif_pos h9]
      simp [BitVec.getLsbD_eq_getElem, h9]
    · have h2 : (Int32.toBitVec 255)[i] = false := by
        rw [← BitVec.getLsbD_eq_getElem]
        exact b255 ⟨i, hi⟩ h
      rw [h2, Bool.and_false, Bool.and_false]
  rcases hs with e | e | e | e <;> subst e
  · exact Int32.toBitVec_inj.1 (key w.toBitVec 0 (by decide))
  · exact Int32.toBitVec_inj.1 (key w.toBitVec 8 (by decide))
  · exact Int32.toBitVec_inj.1 (key w.toBitVec 16 (by decide))
  · exact Int32.toBitVec_inj.1 (key w.toBitVec 24 (by decide))
theorem four {z : Int32} : ∀ (k m1 m2 : Nat) (x : Int32) (I : Nat → Int32) (A : Nat → Nat → Int32) (J : Nat → Int32) (B : Nat → Nat → Int32) (M : Nat → Nat → Int64), x.toInt = 8 * (k : Int) - 8 → k ≤ 4 → k < m1 → k < m2 → TP I A J B → 0 ≤ (I 0).toInt → (I 0).toInt + k ≤ 2000 → ∃ (I' : Nat → Int32) (A' : Nat → Nat → Int32) (J' : Nat → Int32) (B' : Nat → Nat → Int32), itr_iIA dfX (bX10_addFour_3 z) m1 x I A = (0, I', A') ∧ itr_iIAL dfM (bM12_lays_3 z) m2 x J B M = (0, J', B', M) ∧ TP I' A' J' B' ∧ (I' 0).toInt = (I 0).toInt + k ∧ Md [0] I I' ∧ Md [1] J J' := by
  intro k
  induction k with
  | zero =>
    intro m1 m2 x I A J B M hx _ h1 h2 hT _ _
    cases m1 with
    | zero => omega
    | succ m1 =>
      cases m2 with
      | zero => omega
      | succ m2 =>
        refine ⟨I, A, J, B, ?_, ?_, hT, by omega, Md.rf, Md.rf⟩
        · show bX10_addFour_3 z (itr_iIA dfX (bX10_addFour_3 z) m1) x I A = _
          generalize itr_iIA dfX (bX10_addFour_3 z) m1 = G
          unfold bX10_addFour_3
          rw [if_pos (by omega)]
        · show bM12_lays_3 z (itr_iIAL dfM (bM12_lays_3 z) m2) x J B M = _
          generalize itr_iIAL dfM (bM12_lays_3 z) m2 = G
          unfold bM12_lays_3
          rw [if_pos (by omega)]
  | succ k ih =>
    intro m1 m2 x I A J B M hx hk h1 h2 hT h0 h3
    cases m1 with
    | zero => omega
    | succ m1 =>
      cases m2 with
      | zero => omega
      | succ m2 =>
        have hx1 : (x + Int32.ofInt (-8)).toInt = 8 * (k : Int) - 8 := by rw [i32_add (b := -8) rfl hx (by decide) (by omega) (by omega)]; omega
        have hs : x = 0 ∨ x = 8 ∨ x = 16 ∨ x = 24 := by
          have : k = 0 ∨ k = 1 ∨ k = 2 ∨ k = 3 := by omega
          rcases this with e | e | e | e
          · exact Or.inl (Int32.toInt_inj.mp (by rw [hx, e]; rfl))
          · exact Or.inr (Or.inl (Int32.toInt_inj.mp (by rw [hx, e]; rfl)))
          · exact Or.inr (Or.inr (Or.inl (Int32.toInt_inj.mp (by rw [hx, e]; rfl))))
          · exact Or.inr (Or.inr (Or.inr (Int32.toInt_inj.mp (by rw [hx, e]; rfl))))
        have ei : (I 0 + 1).toInt = (I 0).toInt + 1 := i32_inc (by omega)
        have hc := cl_int (y := I 0) h0
        obtain ⟨v, hv⟩ : ∃ v, v = (z.toUInt32 >>> (x.toUInt32 &&& Int32.toUInt32 31)).toInt32 &&& 255 := ⟨_, rfl⟩
        obtain ⟨w, hw⟩ : ∃ w, w = vp_nar .byte ((z >>> (x &&& 31)).toInt8.toInt32) := ⟨_, rfl⟩
        have hvw : v = vp_nar .byte w &&& 255 := by
          rw [hv, hw, vp_nar_byte, vp_nar_byte, bits_b, bits_b, bits_b]
          exact (bits_s z x hs).symm
        obtain ⟨t1, t2⟩ := hT
        have hT2 : TP (upd I 0 (I 0 + 1)) (up3 A 0 (I 0).toNatClampNeg v) (upd J 1 (J 1 + 1)) (up3 B 0 (J 1).toNatClampNeg w) := by
          refine ⟨?_, fun j hj => ?_⟩
          · show I 0 + 1 = J 1 + 1
            rw [t1]
          · have hj2 : (j : Int) < (I 0 + 1).toInt := hj
            rw [← t1]
            by_cases c : j = (I 0).toNatClampNeg
            · rw [up3_at c, up3_at c]; exact hvw
            · rw [up3_ne c, up3_ne c]; exact t2 j (by omega)
        obtain ⟨I', A', J', B', g1, g2, g3, g4, g5, g6⟩ := ih m1 m2 (x + Int32.ofInt (-8)) _ _ _ _ M hx1 (by omega) (by omega) (by omega) hT2 (by show 0 ≤ (I 0 + 1).toInt; omega) (by show (I 0 + 1).toInt + _ ≤ 2000; omega)
        refine ⟨I', A', J', B', ?_, ?_, g3, by rw [g4]; show (I 0 + 1).toInt + _ = _; omega, Md.tr (Md.up Md.rf rfl) g5 rfl, Md.tr (Md.up Md.rf rfl) g6 rfl⟩
        · rw [← g1]
          show bX10_addFour_3 z (itr_iIA dfX (bX10_addFour_3 z) m1) x I A = _
          generalize itr_iIA dfX (bX10_addFour_3 z) m1 = G
          unfold bX10_addFour_3
          rw [if_neg (by omega), if_neg (by omega), hv]; rfl
        · rw [← g2]
          show bM12_lays_3 z (itr_iIAL dfM (bM12_lays_3 z) m2) x J B M = _
          generalize itr_iIAL dfM (bM12_lays_3 z) m2 = G
          unfold bM12_lays_3
          rw [if_neg (by omega), hw]; rfl
theorem four1 {z : Int32} {I : Nat → Int32} {A : Nat → Nat → Int32} {J : Nat → Int32} {B : Nat → Nat → Int32} {M : Nat → Nat → Int64} (hT : TP I A J B) (h0 : 0 ≤ (I 0).toInt) (h1 : (I 0).toInt + 4 ≤ 2000) : ∃ (I' : Nat → Int32) (A' : Nat → Nat → Int32) (J' : Nat → Int32) (B' : Nat → Nat → Int32), fX10_addFour I A z = (0, I', A') ∧ fM12_lays J B M z = (0, J', B', M) ∧ TP I' A' J' B' ∧ (I' 0).toInt = (I 0).toInt + 4 ∧ Md [0] I I' ∧ Md [1] J J' := by
  obtain ⟨I', A', J', B', g1, g2, g3, g4, g5, g6⟩ := four (z := z) 4 FU FU 24 I A J B M rfl (by decide) (by have := FU_eq; omega) (by have := FU_eq; omega) hT h0 (by omega)
  exact ⟨I', A', J', B', g1, g2, g3, g4, g5, g6⟩
theorem bdX_mk {ρ : Type} {y : Int32} {J : Nat → Int32} {B : Nat → Nat → Int32} {k : Int32 → (Nat → Int32) → (Nat → Nat → Int32) → ρ} : f_bdX (y, J, B) k = k y J B := rfl
theorem RT.feed {I I' J J' : Nat → Int32} {A A' B B' : Nat → Nat → Int32} {M M' : Nat → Nat → Int64} {a b c d e v w : Int32} (h : RT I A J B M) (hI : IvX I A) (eX : FE (fX11_feed I A a b c d e) (v, I', A')) (eM : FE (fM12_feed J B M a b c d e) (w, J', B', M')) : RT I' A' J' B' M' ∧ v = w := by
  obtain ⟨hT, hL⟩ := h
  have h0 := IvX_f0 hI
  have eX2 : fX11_feed I A a b c d e = (v, I', A') := eX
  have eM2 : fM12_feed J B M a b c d e = (w, J', B', M') := eM
  have ej : (J 1 + 20).toInt = (I 0).toInt + 20 := by rw [← hT.1]; exact i32_add (b := 20) rfl rfl rfl (by omega) (by omega)
  unfold fX11_feed at eX2
  unfold fM12_feed at eM2
  dsimp only [f_lt] at eX2 eM2
  by_cases c9 : 1980 < (I 0).toInt
  · first
      | rw [if_pos c9] at eX2
      | rw [if_neg (by omega)] at eX2
    rw [if_neg (by omega)] at eM2
    cases eX2; cases eM2
    exact ⟨⟨hT, hL⟩, rfl⟩
  · first
      | rw [if_neg c9] at eX2
      | rw [if_pos (by omega)] at eX2
    rw [if_pos (by omega)] at eM2
    obtain ⟨I1, A1, J1, B1, p1, p2, p3, p4, p5, p6⟩ := four1 (z := a) (M := M) hT (by omega) (by omega)
    obtain ⟨I2, A2, J2, B2, q1, q2, q3, q4, q5, q6⟩ := four1 (z := b) (M := M) p3 (by omega) (by omega)
    obtain ⟨I3, A3, J3, B3, r1, r2, r3, r4, r5, r6⟩ := four1 (z := c) (M := M) q3 (by omega) (by omega)
    obtain ⟨I4, A4, J4, B4, s1, s2, s3, s4, s5, s6⟩ := four1 (z := d) (M := M) r3 (by omega) (by omega)
    obtain ⟨I5, A5, J5, B5, t1, t2, t3, t4, t5, t6⟩ := four1 (z := e) (M := M) s3 (by omega) (by omega)
    rw [p1, bdX_mk, q1, bdX_mk, r1, bdX_mk, s1, bdX_mk, t1, bdX_mk] at eX2
    rw [p2, bdM_mk, q2, bdM_mk, r2, bdM_mk, s2, bdM_mk, t2, bdM_mk] at eM2
    cases eX2; cases eM2
    exact ⟨⟨t3, hL⟩, t3.1⟩
theorem RT.back {I I' J J' : Nat → Int32} {A A' B B' : Nat → Nat → Int32} {M M' : Nat → Nat → Int64} {z v w : Int32} (h : RT I A J B M) (hI : IvX I A) (eX : FE (fX11_back I A z) (v, I', A')) (eM : FE (fM12_back J B M z) (w, J', B', M')) : RT I' A' J' B' M' ∧ v = w := by
  obtain ⟨hT, hL⟩ := h
  have h0 := IvX_f0 hI
  have eX2 : fX11_back I A z = (v, I', A') := eX
  have eM2 : fM12_back J B M z = (w, J', B', M') := eM
  unfold fX11_back at eX2
  unfold fM12_back at eM2
  dsimp only [f_lt] at eX2 eM2
  rw [← hT.1] at eM2
  by_cases c1 : z.toInt < 0
  · rw [if_pos c1] at eX2 eM2
    cases eX2; cases eM2
    exact ⟨⟨hT, hL⟩, rfl⟩
  · rw [if_neg c1] at eX2 eM2
    by_cases c2 : z.toInt ≤ (I 0).toInt
    · rw [if_pos c2] at eM2
      first
        | rw [if_pos c2] at eX2
        | rw [if_neg (by omega)] at eX2
      cases eX2; cases eM2
      have e1 : (I 0 - z).toInt = (I 0).toInt - z.toInt := i32_sub rfl rfl rfl (by omega) (by omega)
      refine ⟨⟨⟨rfl, fun j hj => hT.2 j ?_⟩, hL⟩, rfl⟩
      have hj2 : (j : Int) < (I 0 - z).toInt := hj
      omega
    · rw [if_neg c2] at eM2
      first
        | rw [if_neg c2] at eX2
        | rw [if_pos (by omega)] at eX2
      cases eX2; cases eM2
      exact ⟨⟨hT, hL⟩, rfl⟩
