section
/-- the tapes are alike -/
def TP (I : Nat → Int32) (A : Nat → Nat → Int32) (J : Nat → Int32) (B : Nat → Nat → Int32) : Prop := I 0 = J 1 ∧ ∀ j : Nat, (j : Int) < (I 0).toInt → A 0 j = vp_nar .byte (B 0 j) &&& 255
def RT (I : Nat → Int32) (A : Nat → Nat → Int32) (J : Nat → Int32) (B : Nat → Nat → Int32) (M : Nat → Nat → Int64) : Prop := TP I A J B ∧ LK M
theorem RT.keep {I I' J J' : Nat → Int32} {A A' B B' : Nat → Nat → Int32} {M M' : Nat → Nat → Int64} (h : RT I A J B M) (i0 : I' 0 = I 0) (a0 : A' 0 = A 0) (j1 : J' 1 = J 1) (b0 : B' 0 = B 0) (m : M' = M) : RT I' A' J' B' M' := by
  subst m
  unfold RT TP at *
  rw [i0, a0, j1, b0]; exact h
theorem b255 : ∀ k : Fin 32, ¬ k.val < 8 → (Int32.toBitVec 255).getLsbD k.val = false := by decide
theorem bits_b (x : Int32) : x.toInt8.toInt32 &&& 255 = x &&& 255 := by
  apply Int32.toBitVec_inj.1
  simp only [Int32.toBitVec_and, Int8.toBitVec_toInt32, Int32.toBitVec_toInt8]
  ext i hi
  simp only [BitVec.getElem_and, BitVec.getElem_signExtend, BitVec.getElem_setWidth]
  by_cases h : i < 8
  · rw [dif_pos h]
    simp [BitVec.getLsbD_eq_getElem, hi]
  · have h2 : (Int32.toBitVec 255)[i] = false := by
      rw [← BitVec.getLsbD_eq_getElem]
      exact b255 ⟨i, hi⟩ h
    rw [h2, Bool.and_false, Bool.and_false]
theorem bits_s (w : Int32) (s : Int32) (hs : s = 0 ∨ s = 8 ∨ s = 16 ∨ s = 24) : (w >>> (s &&& 31)) &&& 255 = (w.toUInt32 >>> (s.toUInt32 &&& Int32.toUInt32 31)).toInt32 &&& 255 := by
  have key : ∀ (b : BitVec 32) (k : Nat), k ≤ 24 → b.sshiftRight k &&& (Int32.toBitVec 255) = b >>> k &&& (Int32.toBitVec 255) := by
    intro b k hk
    ext i hi
    rw [BitVec.getElem_and, BitVec.getElem_and]
    by_cases h : i < 8
    · rw [BitVec.getElem_sshiftRight, BitVec.getElem_ushiftRight]
      have h9 : k + i < 32 := by omega
      rw [dif_pos h9]
      simp [BitVec.getLsbD_eq_getElem, h9]
    · have h2 : (Int32.toBitVec 255)[i] = false := by
        rw [← BitVec.getLsbD_eq_getElem]
        exact b255 ⟨i, hi⟩ h
      rw [h2, Bool.and_false, Bool.and_false]
  rcases hs with e | e | e | e <;> subst e
  · exact Int32.toBitVec_inj.1 (key w.toBitVec 0 (by decide))
  · exact Int32.toBitVec_inj.1 (key w.toBitVec 8 (by decide))
  · exact Int32.toBitVec_inj.1 (key w.toBitVec 16 (by decide))
  · exact Int32.toBitVec_inj.1 (key w.toBitVec 24 (by decide))
theorem four {z : Int32} : ∀ (k m1 m2 : Nat) (x : Int32) (I : Nat → Int32) (A : Nat → Nat → Int32) (J : Nat → Int32) (B : Nat → Nat → Int32) (M : Nat → Nat → Int64), x.toInt = 8 * (k : Int) - 8 → k ≤ 4 → k < m1 → k < m2 → TP I A J B → 0 ≤ (I 0).toInt → (I 0).toInt + k ≤ 2000 → ∃ (I' : Nat → Int32) (A' : Nat → Nat → Int32) (J' : Nat → Int32) (B' : Nat → Nat → Int32), itr_iIA dfX (bX10_addFour_3 z) m1 x I A = (0, I', A') ∧ itr_iIAL dfM (bM12_lays_3 z) m2 x J B M = (0, J', B', M) ∧ TP I' A' J' B' ∧ (I' 0).toInt = (I 0).toInt + k ∧ Md [0] I I' ∧ Md [1] J J' := by
  intro k
  induction k with
  | zero =>
    intro m1 m2 x I A J B M hx _ h1 h2 hT _ _
    cases m1 with
    | zero => omega
    | succ m1 =>
      cases m2 with
      | zero => omega
      | succ m2 =>
        refine ⟨I, A, J, B, ?_, ?_, hT, by omega, Md.rf, Md.rf⟩
        · show bX10_addFour_3 z (itr_iIA dfX (bX10_addFour_3 z) m1) x I A = _
          generalize itr_iIA dfX (bX10_addFour_3 z) m1 = G
          unfold bX10_addFour_3
          rw [if_pos (by omega)]
        · show bM12_lays_3 z (itr_iIAL dfM (bM12_lays_3 z) m2) x J B M = _
          generalize itr_iIAL dfM (bM12_lays_3 z) m2 = G
          unfold bM12_lays_3
          rw [if_pos (by omega)]
  | succ k ih =>
    intro m1 m2 x I A J B M hx hk h1 h2 hT h0 h3
    cases m1 with
    | zero => omega
    | succ m1 =>
      cases m2 with
      | zero => omega
      | succ m2 =>
        have hx1 : (x + Int32.ofInt (-8)).toInt = 8 * (k : Int) - 8 := by rw [i32_add (b := -8) rfl hx (by decide) (by omega) (by omega)]; omega
        have hs : x = 0 ∨ x = 8 ∨ x = 16 ∨ x = 24 := by
          have : k = 0 ∨ k = 1 ∨ k = 2 ∨ k = 3 := by omega
          rcases this with e | e | e | e
          · exact Or.inl (Int32.toInt_inj.mp (by rw [hx, e]; rfl))
          · exact Or.inr (Or.inl (Int32.toInt_inj.mp (by rw [hx, e]; rfl)))
          · exact Or.inr (Or.inr (Or.inl (Int32.toInt_inj.mp (by rw [hx, e]; rfl))))
          · exact Or.inr (Or.inr (Or.inr (Int32.toInt_inj.mp (by rw [hx, e]; rfl))))
        have ei : (I 0 + 1).toInt = (I 0).toInt + 1 := i32_inc (by omega)
        have hc := cl_int (y := I 0) h0
        obtain ⟨v, hv⟩ : ∃ v, v = (z.toUInt32 >>> (x.toUInt32 &&& Int32.toUInt32 31)).toInt32 &&& 255 := ⟨_, rfl⟩
        obtain ⟨w, hw⟩ : ∃ w, w = vp_nar .byte ((z >>> (x &&& 31)).toInt8.toInt32) := ⟨_, rfl⟩
        have hvw : v = vp_nar .byte w &&& 255 := by
          rw [hv, hw, vp_nar_byte, vp_nar_byte, bits_b, bits_b, bits_b]
          exact (bits_s z x hs).symm
        obtain ⟨t1, t2⟩ := hT
        have hT2 : TP (upd I 0 (I 0 + 1)) (up3 A 0 (I 0).toNatClampNeg v) (upd J 1 (J 1 + 1)) (up3 B 0 (J 1).toNatClampNeg w) := by
          refine ⟨?_, fun j hj => ?_⟩
          · show I 0 + 1 = J 1 + 1
            rw [t1]
          · have hj2 : (j : Int) < (I 0 + 1).toInt := hj
            rw [← t1]
            by_cases c : j = (I 0).toNatClampNeg
            · rw [up3_at c, up3_at c]; exact hvw
            · rw [up3_ne c, up3_ne c]; exact t2 j (by omega)
        obtain ⟨I', A', J', B', g1, g2, g3, g4, g5, g6⟩ := ih m1 m2 (x + Int32.ofInt (-8)) _ _ _ _ M hx1 (by omega) (by omega) (by omega) hT2 (by show 0 ≤ (I 0 + 1).toInt; omega) (by show (I 0 + 1).toInt + _ ≤ 2000; omega)
        refine ⟨I', A', J', B', ?_, ?_, g3, by rw [g4]; show (I 0 + 1).toInt + _ = _; omega, Md.tr (Md.up Md.rf rfl) g5 rfl, Md.tr (Md.up Md.rf rfl) g6 rfl⟩
        · rw [← g1]
          show bX10_addFour_3 z (itr_iIA dfX (bX10_addFour_3 z) m1) x I A = _
          generalize itr_iIA dfX (bX10_addFour_3 z) m1 = G
          unfold bX10_addFour_3
          rw [if_neg (by omega), if_neg (by omega), hv]; rfl
        · rw [← g2]
          show bM12_lays_3 z (itr_iIAL dfM (bM12_lays_3 z) m2) x J B M = _
          generalize itr_iIAL dfM (bM12_lays_3 z) m2 = G
          unfold bM12_lays_3
          rw [if_neg (by omega), hw]; rfl
theorem four1 {z : Int32} {I : Nat → Int32} {A : Nat → Nat → Int32} {J : Nat → Int32} {B : Nat → Nat → Int32} {M : Nat → Nat → Int64} (hT : TP I A J B) (h0 : 0 ≤ (I 0).toInt) (h1 : (I 0).toInt + 4 ≤ 2000) : ∃ (I' : Nat → Int32) (A' : Nat → Nat → Int32) (J' : Nat → Int32) (B' : Nat → Nat → Int32), fX10_addFour I A z = (0, I', A') ∧ fM12_lays J B M z = (0, J', B', M) ∧ TP I' A' J' B' ∧ (I' 0).toInt = (I 0).toInt + 4 ∧ Md [0] I I' ∧ Md [1] J J' := by
  obtain ⟨I', A', J', B', g1, g2, g3, g4, g5, g6⟩ := four (z := z) 4 FU FU 24 I A J B M rfl (by decide) (by have := FU_eq; omega) (by have := FU_eq; omega) hT h0 (by omega)
  exact ⟨I', A', J', B', g1, g2, g3, g4, g5, g6⟩
theorem bdX_mk {ρ : Type} {y : Int32} {J : Nat → Int32} {B : Nat → Nat → Int32} {k : Int32 → (Nat → Int32) → (Nat → Nat → Int32) → ρ} : f_bdX (y, J, B) k = k y J B := rfl
theorem RT.feed {I I' J J' : Nat → Int32} {A A' B B' : Nat → Nat → Int32} {M M' : Nat → Nat → Int64} {a b c d e v w : Int32} (h : RT I A J B M) (hI : IvX I A) (eX : FE (fX11_feed I A a b c d e) (v, I', A')) (eM : FE (fM12_feed J B M a b c d e) (w, J', B', M')) : RT I' A' J' B' M' ∧ v = w := by
  obtain ⟨hT, hL⟩ := h
  have h0 := IvX_f0 hI
  have eX2 : fX11_feed I A a b c d e = (v, I', A') := eX
  have eM2 : fM12_feed J B M a b c d e = (w, J', B', M') := eM
  have ej : (J 1 + 20).toInt = (I 0).toInt + 20 := by rw [← hT.1]; exact i32_add (b := 20) rfl rfl rfl (by omega) (by omega)
  unfold fX11_feed at eX2
  unfold fM12_feed at eM2
  dsimp only [f_lt] at eX2 eM2
  by_cases c9 : 1980 < (I 0).toInt
  · first
      | rw [if_pos c9] at eX2
      | rw [if_neg (by omega)] at eX2
    rw [if_neg (by omega)] at eM2
    cases eX2; cases eM2
    exact ⟨⟨hT, hL⟩, rfl⟩
  · first
      | rw [if_neg c9] at eX2
      | rw [if_pos (by omega)] at eX2
    rw [if_pos (by omega)] at eM2
    obtain ⟨I1, A1, J1, B1, p1, p2, p3, p4, p5, p6⟩ := four1 (z := a) (M := M) hT (by omega) (by omega)
    obtain ⟨I2, A2, J2, B2, q1, q2, q3, q4, q5, q6⟩ := four1 (z := b) (M := M) p3 (by omega) (by omega)
    obtain ⟨I3, A3, J3, B3, r1, r2, r3, r4, r5, r6⟩ := four1 (z := c) (M := M) q3 (by omega) (by omega)
    obtain ⟨I4, A4, J4, B4, s1, s2, s3, s4, s5, s6⟩ := four1 (z := d) (M := M) r3 (by omega) (by omega)
    obtain ⟨I5, A5, J5, B5, t1, t2, t3, t4, t5, t6⟩ := four1 (z := e) (M := M) s3 (by omega) (by omega)
    rw [p1, bdX_mk, q1, bdX_mk, r1, bdX_mk, s1, bdX_mk, t1, bdX_mk] at eX2
    rw [p2, bdM_mk, q2, bdM_mk, r2, bdM_mk, s2, bdM_mk, t2, bdM_mk] at eM2
    cases eX2; cases eM2
    exact ⟨⟨t3, hL⟩, t3.1⟩
theorem RT.back {I I' J J' : Nat → Int32} {A A' B B' : Nat → Nat → Int32} {M M' : Nat → Nat → Int64} {z v w : Int32} (h : RT I A J B M) (hI : IvX I A) (eX : FE (fX11_back I A z) (v, I', A')) (eM : FE (fM12_back J B M z) (w, J', B', M')) : RT I' A' J' B' M' ∧ v = w := by
  obtain ⟨hT, hL⟩ := h
  have h0 := IvX_f0 hI
  have eX2 : fX11_back I A z = (v, I', A') := eX
  have eM2 : fM12_back J B M z = (w, J', B', M') := eM
  unfold fX11_back at eX2
  unfold fM12_back at eM2
  dsimp only [f_lt] at eX2 eM2
  rw [← hT.1] at eM2
  by_cases c1 : z.toInt < 0
  · rw [if_pos c1] at eX2 eM2
    cases eX2; cases eM2
    exact ⟨⟨hT, hL⟩, rfl⟩
  · rw [if_neg c1] at eX2 eM2
    by_cases c2 : z.toInt ≤ (I 0).toInt
    · rw [if_pos c2] at eM2
      first
        | rw [if_pos c2] at eX2
        | rw [if_neg (by omega)] at eX2
      cases eX2; cases eM2
      have e1 : (I 0 - z).toInt = (I 0).toInt - z.toInt := i32_sub rfl rfl rfl (by omega) (by omega)
      refine ⟨⟨⟨rfl, fun j hj => hT.2 j ?_⟩, hL⟩, rfl⟩
      have hj2 : (j : Int) < (I 0 - z).toInt := hj
      omega
    · rw [if_neg c2] at eM2
      first
        | rw [if_neg c2] at eX2
        | rw [if_pos (by omega)] at eX2
      cases eX2; cases eM2
      exact ⟨⟨hT, hL⟩, rfl⟩
end
section
theorem m_begins0 {J : Nat → Int32} {B : Nat → Nat → Int32} {L : Nat → Nat → Int64} (h : (J 15).toInt = 0) : ∀ (m : Nat) (x : Int32) (B1 : Nat → Nat → Int32), 0 ≤ x.toInt → x.toInt ≤ 160 → (B1 18 0).toInt ≤ 160 → 161 - x.toInt < (m : Int) → ∃ B2 : Nat → Nat → Int32, itr_iIAL dfM (bM12_begins_39 J B) m x J B1 L = (0, J, B2, L) := by
  intro m
  induction m with
  | zero => intro x B1 _ _ _ h9; omega
  | succ m ih =>
    intro x B1 h0 h1 h2 h3
    show ∃ B2 : Nat → Nat → Int32, bM12_begins_39 J B (itr_iIAL dfM (bM12_begins_39 J B) m) x J B1 L = (0, J, B2, L)
    obtain ⟨G, hG⟩ : ∃ G, G = itr_iIAL dfM (bM12_begins_39 J B) m := ⟨_, rfl⟩
    rw [← hG] at ih ⊢
    unfold bM12_begins_39
    simp only [h, ↓reduceIte, f_lt]
    by_cases c : (B1 18 0).toInt ≤ x.toInt
    · rw [if_pos c]; exact ⟨_, rfl⟩
    · rw [if_neg c]
      have hx : (x + Int32.ofInt 1).toInt = x.toInt + 1 := i32_inc (by omega)
      have hy : ((1 : Int32) + x).toInt = 1 + x.toInt := i32_add (a := 1) rfl rfl rfl (by omega) (by omega)
      have hc := cl_int (y := (1 : Int32) + x) (by omega)
      exact ih (x + Int32.ofInt 1) _ (by omega) (by omega) (by rw [up3_ne (by omega)]; exact h2) (by omega)
theorem m_begins1 {J : Nat → Int32} {B : Nat → Nat → Int32} {L : Nat → Nat → Int64} (h : (J 15).toInt = 1) : ∀ (m : Nat) (x : Int32) (B1 : Nat → Nat → Int32), 0 ≤ x.toInt → x.toInt ≤ 160 → (B1 18 0).toInt ≤ 160 → 161 - x.toInt < (m : Int) → ∃ B2 : Nat → Nat → Int32, itr_iIAL dfM (bM12_begins_39x J B) m x J B1 L = (0, J, B2, L) := by
  intro m
  induction m with
  | zero => intro x B1 _ _ _ h9; omega
  | succ m ih =>
    intro x B1 h0 h1 h2 h3
    show ∃ B2 : Nat → Nat → Int32, bM12_begins_39x J B (itr_iIAL dfM (bM12_begins_39x J B) m) x J B1 L = (0, J, B2, L)
    obtain ⟨G, hG⟩ : ∃ G, G = itr_iIAL dfM (bM12_begins_39x J B) m := ⟨_, rfl⟩
    rw [← hG] at ih ⊢
    unfold bM12_begins_39x
    simp only [h, ↓reduceIte, f_lt]
    by_cases c : (B1 18 0).toInt ≤ x.toInt
    · rw [if_pos c]; exact ⟨_, rfl⟩
    · rw [if_neg c]
      have hx : (x + Int32.ofInt 1).toInt = x.toInt + 1 := i32_inc (by omega)
      have hy : ((1 : Int32) + x).toInt = 1 + x.toInt := i32_add (a := 1) rfl rfl rfl (by omega) (by omega)
      have hc := cl_int (y := (1 : Int32) + x) (by omega)
      exact ih (x + Int32.ofInt 1) _ (by omega) (by omega) (by rw [up3_ne (by omega)]; exact h2) (by omega)
theorem m_begins {J : Nat → Int32} {B : Nat → Nat → Int32} {L : Nat → Nat → Int64} {σ : Nat} (h : (J 15).toInt = (σ : Int)) (hσ : σ ≤ 1) (h8 : (B 8 σ).toInt ≤ 160) : ∃ B2 : Nat → Nat → Int32, fM12_begins J B L = (0, J, B2, L) := by
  unfold fM12_begins
  have hc : σ = 0 ∨ σ = 1 := by omega
  rcases hc with e | e
  · subst e
    rw [if_pos (show (J 15).toInt = 0 from h)]
    exact m_begins0 h FU 0 _ (by decide) (by decide) (by rw [up3_at rfl]; exact h8) (by have := FU_eq; have : (0 : Int32).toInt = 0 := rfl; omega)
  · subst e
    rw [if_neg (by omega), if_pos (show (J 15).toInt = 1 from h)]
    exact m_begins1 h FU 0 _ (by decide) (by decide) (by rw [up3_at rfl]; exact h8) (by have := FU_eq; have : (0 : Int32).toInt = 0 := rfl; omega)
theorem m_224 {J : Nat → Int32} {L : Nat → Nat → Int64} : ∀ (m : Nat) (x : Int32) (B : Nat → Nat → Int32), 0 ≤ x.toInt → x.toInt ≤ 3 → 4 - x.toInt < (m : Int) → ∃ B2 : Nat → Nat → Int32, itr_iIAL dfM bM12_read_224 m x J B L = (0, J, B2, L) := by
  intro m
  induction m with
  | zero => intro x B _ _ h9; omega
  | succ m ih =>
    intro x B h0 h1 h3
    show ∃ B2 : Nat → Nat → Int32, bM12_read_224 (itr_iIAL dfM bM12_read_224 m) x J B L = (0, J, B2, L)
    obtain ⟨G, hG⟩ : ∃ G, G = itr_iIAL dfM bM12_read_224 m := ⟨_, rfl⟩
    rw [← hG] at ih ⊢
    unfold bM12_read_224
    by_cases c : 3 ≤ x.toInt
    · rw [if_pos c]; exact ⟨_, rfl⟩
    · rw [if_neg c]
      have hx : (x + Int32.ofInt 1).toInt = x.toInt + 1 := i32_inc (by omega)
      exact ih (x + Int32.ofInt 1) _ (by omega) (by omega) (by omega)
theorem m_224x : bM12_read_224x = bM12_read_224 := rfl
theorem m_suc {J : Nat → Int32} {B : Nat → Nat → Int32} {L : Nat → Nat → Int64} {σ : Nat} (hσ : σ ≤ 1) (h8 : (B 8 σ).toInt ≤ 160) : ∃ (J2 : Nat → Int32) (B2 : Nat → Nat → Int32), SUC σ J B L = (0, J2, B2, L) := by
  unfold SUC
  have hc : σ = 0 ∨ σ = 1 := by omega
  rcases hc with e | e
  · subst e
    rw [if_neg (by decide)]
    obtain ⟨B1, b1⟩ := m_begins (J := upd (upd (upd J 10 (-1)) 14 (-1)) 15 0) (B := B) (L := L) (σ := 0) rfl (by decide) h8
    rw [b1, bdM_mk]
    unfold fM12_keepsRow
    rw [bdM_mk, m_224x]
    obtain ⟨B2, b2⟩ := m_224 (J := upd (upd (upd (upd J 10 (-1)) 14 (-1)) 15 0) 22 0) (L := L) FU 0 _ (by decide) (by decide) (by have := FU_eq; have : (0 : Int32).toInt = 0 := rfl; omega)
    exact ⟨_, B2, b2⟩
  · subst e
    rw [if_pos rfl]
    obtain ⟨B1, b1⟩ := m_begins (J := upd (upd (upd J 10 (-1)) 14 (-1)) 15 1) (B := B) (L := L) (σ := 1) rfl (by decide) h8
    rw [b1, bdM_mk]
    unfold fM12_keepsRow
    rw [bdM_mk]
    obtain ⟨B2, b2⟩ := m_224 (J := upd (upd (upd (upd J 10 (-1)) 14 (-1)) 15 1) 22 0) (L := L) FU 0 _ (by decide) (by decide) (by have := FU_eq; have : (0 : Int32).toInt = 0 := rfl; omega)
    exact ⟨_, B2, b2⟩
theorem x_47 {y : Int32} {I : Nat → Int32} {A : Nat → Nat → Int32} : ∃ I' : Nat → Int32, itr_iIA dfX (bX11_read_47 y) FU 0 I A = (y, I', A) := by
  have e : ∀ (m : Nat) (x : Int32) (I : Nat → Int32), itr_iIA dfX (bX11_read_47 y) (m + 1) x I A = bX11_read_47 y (itr_iIA dfX (bX11_read_47 y) m) x I A := fun _ _ _ => rfl
  obtain ⟨m, hm⟩ : ∃ m, FU = m + 1 + 1 + 1 + 1 := ⟨FU - 4, by have := FU_eq; omega⟩
  rw [hm, e]
  generalize hG : itr_iIA dfX (bX11_read_47 y) (m + 1 + 1 + 1) = G
  show ∃ I' : Nat → Int32, G 1 (upd I 23 0) A = (y, I', A)
  rw [← hG, e]
  generalize hG2 : itr_iIA dfX (bX11_read_47 y) (m + 1 + 1) = G2
  show ∃ I' : Nat → Int32, G2 2 (upd (upd I 23 0) 25 0) A = (y, I', A)
  rw [← hG2, e]
  generalize hG3 : itr_iIA dfX (bX11_read_47 y) (m + 1) = G3
  show ∃ I' : Nat → Int32, G3 3 (upd (upd (upd I 23 0) 25 0) 27 0) A = (y, I', A)
  rw [← hG3, e]
  generalize itr_iIA dfX (bX11_read_47 y) m = G4
  exact ⟨_, rfl⟩
def jin (J : Nat → Int32) (s : Int32) : Nat → Int32 := upd (upd (upd (upd (upd (upd J 4 0) 6 0) 8 0) 11 (-2)) 16 s) 17 0
def bin (B : Nat → Nat → Int32) (σ : Nat) : Nat → Nat → Int32 := up3 (up3 (up3 (up3 (up3 (up3 B 8 σ 0) 10 σ 0) 13 σ 2) 14 σ 0) 15 σ 0) 16 σ 8
noncomputable def RDM (σ : Nat) (s : Int32) (J : Nat → Int32) (B2 : Nat → Nat → Int32) (M : Nat → Nat → Int64) : Int32 × (Nat → Int32) × (Nat → Nat → Int32) × (Nat → Nat → Int64) := f_bdM (fM12_cut (upd (upd J 2 (J 1)) 1 0) B2 M) (fun _ J3 B3 L3 => itr_IAL dfM (bR σ) FU (jin J3 s) (bin B3 σ) L3)
theorem m_copy {J : Nat → Int32} {B : Nat → Nat → Int32} {M : Nat → Nat → Int64} {n : Nat} {σ : Nat} {s : Int32} (hn : (J 1).toInt = (n : Int)) (hn2 : n ≤ 2000) (h15 : ((J 15).toInt = 0 ∧ σ = 1 ∧ s = 1) ∨ ((J 15).toInt = 1 ∧ σ = 0 ∧ s = 0)) : ∀ (m : Nat) (x : Int32) (k : Nat) (B1 : Nat → Nat → Int32), x.toInt = (k : Int) → k ≤ n → n - k < m → Md [1] B B1 → (∀ j, j < k → B1 1 j = vp_nar .byte (B 0 j)) → ∃ B2 : Nat → Nat → Int32, Md [1] B B2 ∧ (∀ j, j < n → B2 1 j = vp_nar .byte (B 0 j)) ∧ itr_iIAL dfM (bM12_read_10 J B) m x (upd J 2 (J 1)) B1 M = RDM σ s J B2 M := by
  intro m
  induction m with
  | zero => intro x k B1 _ _ h; omega
  | succ m ih =>
    intro x k B1 hx hk hm mB hB
    show ∃ B2 : Nat → Nat → Int32, Md [1] B B2 ∧ (∀ j, j < n → B2 1 j = vp_nar .byte (B 0 j)) ∧ bM12_read_10 J B (itr_iIAL dfM (bM12_read_10 J B) m) x (upd J 2 (J 1)) B1 M = RDM σ s J B2 M
    obtain ⟨G, hG⟩ : ∃ G, G = itr_iIAL dfM (bM12_read_10 J B) m := ⟨_, rfl⟩
    rw [← hG] at ih ⊢
    unfold bM12_read_10
    by_cases c : (J 1).toInt ≤ x.toInt
    · rw [if_pos c]
      refine ⟨B1, mB, fun j hj => hB j (by omega), ?_⟩
      unfold RDM bR
      rcases h15 with ⟨a, b, d⟩ | ⟨a, b, d⟩
      · subst b; subst d
        simp only [a, ↓reduceIte]
        rfl
      · subst b; subst d
        have e1 : ¬ ((1 : Int) = 0) := by decide
        have e2 : ¬ ((0 : Nat) = 1) := by decide
        simp only [a, e1, e2, ↓reduceIte]
        rfl
    · rw [if_neg c]
      have hx1 : (x + Int32.ofInt 1).toInt = ((k + 1 : Nat) : Int) := by rw [show x + Int32.ofInt 1 = x + 1 from rfl, i32_inc (by omega)]; omega
      show ∃ B2 : Nat → Nat → Int32, Md [1] B B2 ∧ (∀ j, j < n → B2 1 j = vp_nar .byte (B 0 j)) ∧ G (x + Int32.ofInt 1) (upd J 2 (J 1)) (up3 B1 1 x.toNatClampNeg (vp_nar .byte (B 0 x.toNatClampNeg))) M = RDM σ s J B2 M
      rw [clN hx]
      exact ih (x + Int32.ofInt 1) (k + 1) _ hx1 (by omega) (by omega) (Md.up3 mB rfl) (fun j hj => by
        by_cases e : j = k
        · rw [e]; exact up3_at rfl
        · rw [up3_ne e]; exact hB j (by omega))
theorem TM.cg {f : Nat → Int} {n : Nat} {B B' : Nat → Nat → Int32} {L : Nat → Nat → Int64} {t p s e : Nat} {c : Int} (h : TM f n B L t p s e c) (h2 : B' 2 = B 2) (h3 : B' 3 = B 3) (h4 : B' 4 = B 4) : TM f n B' L t p s e c := by
  unfold TM at *
  rw [h2, h3, h4]; exact h
/-- a whole text: both answer alike -/
theorem RT.read {I I' J J' : Nat → Int32} {A A' B B' : Nat → Nat → Int32} {M M' : Nat → Nat → Int64} {v w : Int32} (h : RT I A J B M) (hI : IvX I A) (hJ : IvM J B) (eX : FE (fX11_read I A) (v, I', A')) (eM : FE (fM12_read J B M) (w, J', B', M')) (r1 : (I' 0).toInt = 0) (r2 : (J' 1).toInt = 0) : RT I' A' J' B' M' ∧ v = w := by
  obtain ⟨hT, hL⟩ := h
  have h0 := IvX_f0 hI
  have h15 := IvM_f15 hJ
  have eX2 : fX11_read I A = (v, I', A') := eX
  have eM2 : fM12_read J B M = (w, J', B', M') := eM
  have hc0 := cl_int (y := I 0) h0.1
  obtain ⟨n, hn⟩ : ∃ n : Nat, n = (I 0).toNatClampNeg := ⟨_, rfl⟩
  have hnI : (I 0).toInt = (n : Int) := by omega
  have hnJ : (J 1).toInt = (n : Int) := by rw [← hT.1]; exact hnI
  have hn2 : n ≤ 2000 := by omega
  -- the sides
  obtain ⟨σ, s, hs⟩ : ∃ (σ : Nat) (s : Int32), ((J 15).toInt = 0 ∧ σ = 1 ∧ s = 1) ∨ ((J 15).toInt = 1 ∧ σ = 0 ∧ s = 0) := by
    by_cases c : (J 15).toInt = 0
    · exact ⟨1, 1, Or.inl ⟨c, rfl, rfl⟩⟩
    · exact ⟨0, 0, Or.inr ⟨by omega, rfl, rfl⟩⟩
  have hσ : σ ≤ 1 := by rcases hs with h | h <;> omega
  have hss : s.toInt = (σ : Int) := by rcases hs with ⟨_, a, b⟩ | ⟨_, a, b⟩ <;> rw [a, b] <;> rfl
  -- the reference: copy and cut
  obtain ⟨B2, mB2, hB2, e1⟩ := m_copy (J := J) (B := B) (M := M) (σ := σ) (s := s) hnJ hn2 hs FU 0 0 B rfl (by omega) (by have := FU_eq; omega) Md.rf (fun j hj => by omega)
  have e2 : fM12_read J B M = RDM σ s J B2 M := e1
  have hf : ∀ j, j < n → (B2 1 j &&& 255).toInt = bt A j := fun j hj => by
    rw [hB2 j hj, ← hT.2 j (by omega)]; rfl
  obtain ⟨J3, B3, L3, c, pos, k1, k2, k3, k4, k5, k6, k7, k8, k9, k10⟩ := m_cut (J := upd (upd J 2 (J 1)) 1 0) (B := B2) (L := M) (f := bt A) (n := n) hnJ hn2 hf FU 0 (upd (upd (upd J 2 (J 1)) 1 0) 3 0) B2 M 0 0 0 (fun _ => 0) rfl (by omega) rfl (by omega) (Md.up Md.rf rfl) Md.rf Md.rf rfl rfl (fun _ _ => Nat.zero_le n) (Nat.le_refl _) (fun j a b => by omega) (fun t ht => by omega) (by have := FU_eq; omega)
  have e3 : fM12_cut (upd (upd J 2 (J 1)) 1 0) B2 M = (0, J3, B3, L3) := k1
  unfold RDM at e2
  rw [e3, bdM_mk] at e2
  have lk3 : LK L3 := fun k hk => by rw [k4 6 rfl]; exact hL k hk
  have hE : ENV n c pos A (bin B3 σ) L3 := by
    refine ⟨hn2, fun j hj => ?_, lk3, k8, fun u hu => ?_, k10, k6⟩
    · rw [hT.2 j (by omega)]
      exact (i32_mask 8 rfl (by decide) (by decide)).1
    · obtain ⟨s9, cl9, h9⟩ := k9 u hu
      exact ⟨s9, cl9, h9.cg rfl rfl rfl⟩
  -- the class begins
  obtain ⟨Ac, hAc⟩ : ∃ Ac, Ac = up3 (up3 (up3 (up3 A 2 0 2) 2 1 0) 2 2 0) 2 3 8 := ⟨_, rfl⟩
  obtain ⟨Ib, hIb⟩ : ∃ Ib, Ib = upd (upd (upd (upd (upd (upd (upd (upd (upd (upd (upd I 14 0) 16 0) 6 0) 8 0) 9 (-2)) 10 0) 11 0) 12 (-1)) 13 (-1)) 5 0) 4 0 := ⟨_, rfl⟩
  have hA0 : Ac 0 = A 0 := by rw [hAc]; rfl
  obtain ⟨I1, s1, e1', c1, n1, n2, n3, n4⟩ := x_next (I := Ib) (A := Ac) (n := n) (p := pos 0) (by rw [hIb]; exact hnI) hn2 (fun j hj => by rw [hA0]; exact hE.2.1 j hj) (by rw [hIb, k7]; rfl) (by rw [k7]; omega)
  have eb : fX5_begin I A = (0, I1, Ac) := by
    have e8 : fX8_clear I A = (0, upd I 14 0, Ac) := by
      unfold fX8_clear
      rw [x_clear7, ← hAc]; rfl
    rw [hIb] at n1
    have e9 : fX10_toFirstToken (upd (upd (upd (upd (upd (upd (upd (upd (upd I 14 0) 16 0) 6 0) 8 0) 9 (-2)) 10 0) 11 0) 12 (-1)) 13 (-1)) Ac = (0, I1, Ac) := by
      unfold fX10_toFirstToken
      rw [n1]; rfl
    unfold fX5_begin
    rw [e8, bdX_mk, e9]; rfl
  have hc1 : 0 < c := by
    rcases k10 with h9 | ⟨u, h9, -⟩ <;> omega
  have hH : HAND n c pos A I1 Ac 0 := ⟨hA0, by rw [n2 0 rfl, hIb]; exact hnI, by rw [n3, hIb]; rfl, hc1, by omega, s1, e1', c1, n4⟩
  have i2 : 0 ≤ (I1 2).toInt := by rw [n4.2.2.1]; omega
  have g : ∀ k, [1, 2, 3, 4, 5].contains k = false → I1 k = Ib k := n2
  have hS : ST0 n c pos A (bin B3 σ) L3 (jin J3 s) σ 0 I1 Ac (jin J3 s) (bin B3 σ) L3 0 := by
    refine ⟨⟨hH, Md.rf, Md.rf, Md.rf, ⟨rfl, fun _ _ => rfl, fun _ _ => rfl⟩, rfl, rfl, by rw [g 10 rfl, hIb]; rfl, hss, hσ⟩, ?_, ?_, ?_, by rw [g 6 rfl, hIb]; rfl, by rw [g 9 rfl, hIb]; rfl, rfl, by rw [g 8 rfl, hIb]; rfl, by rw [g 16 rfl, hIb]; rfl⟩
    · have z11 : I1 11 = 0 := by rw [g 11 rfl, hIb]; rfl
      refine ⟨by rw [z11]; rfl, by rw [z11]; decide, fun _ => ⟨by rw [g 12 rfl, hIb]; rfl, by rw [g 13 rfl, hIb]; rfl⟩, fun h9 => absurd (show (I1 11).toInt = 0 by rw [z11]; rfl) h9⟩
    · have z14 : I1 14 = 0 := by rw [g 14 rfl, hIb]; rfl
      refine ⟨?_, by rw [z14]; decide, by rw [z14]; decide, fun j hj => absurd (show (j : Int) < (0 : Int32).toInt by rw [← z14]; exact hj) (by have : (0 : Int32).toInt = 0 := rfl; omega), ?_, fun _ => ?_⟩
      · rw [z14]
        unfold bin
        rw [up3_o (by decide), up3_o (by decide), up3_o (by decide), up3_o (by decide), up3_o (by decide)]; exact up3_at rfl
      · rw [hAc]
        unfold bin
        refine ⟨?_, ?_, ?_, ?_⟩
        · rw [up3_o (by decide), up3_o (by decide), up3_o (by decide), up3_at rfl]; rfl
        · rw [up3_o (by decide), up3_o (by decide), up3_at rfl]; rfl
        · rw [up3_o (by decide), up3_at rfl]; rfl
        · rw [up3_at rfl]; rfl
      · rw [hAc]
        exact ⟨⟨(by decide : 0 ≤ (2 : Int32).toInt), (by decide : (2 : Int32).toInt ≤ 15)⟩, ⟨(by decide : 0 ≤ (0 : Int32).toInt), (by decide : (0 : Int32).toInt ≤ 3)⟩, ⟨(by decide : 0 ≤ (0 : Int32).toInt), (by decide : (0 : Int32).toInt ≤ 1)⟩, ⟨(by decide : 1 ≤ (8 : Int32).toInt), (by decide : (8 : Int32).toInt ≤ 99)⟩⟩
    · refine ⟨?_, rfl, by omega, fun q hq => by omega⟩
      unfold bin
      rw [up3_o (by decide), up3_o (by decide), up3_o (by decide), up3_o (by decide), up3_at rfl]; rfl
  have hO := sim_all hE FU I1 Ac (jin J3 s) (bin B3 σ) L3 0 0 hS (by have := FU_eq; omega)
  rw [← e2, eM2] at hO
  have rt : ∀ Lx : Nat → Nat → Int64, LK Lx → RT I' A' J' B' Lx := fun Lx hx => ⟨⟨Int32.toInt_inj.mp (by omega), fun j hj => by omega⟩, hx⟩
  have i14 : I1 4 = 1 := by rw [n3, hIb]; rfl
  have run : ∀ (k : Int32) (If : Nat → Int32) (Af : Nat → Nat → Int32), Ev I1 Ac (k, If, Af) → fX5_readText I A = (k, If, Af) := fun k If Af hev => by
    unfold fX5_readText
    rw [eb, bdX_mk]
    exact hev FU 0 (by rw [i14]; rfl) (by decide) (by have := FU_eq; have : (0 : Int32).toInt = 0 := rfl; omega)
  unfold fX11_read at eX2
  rcases hO with ⟨k, pl, ca, Jf, Bf, Lf, o1, o2, ⟨If, Af, o3, -⟩, o4, o5, o6, -⟩ | ⟨If, Af, Jf, Bf, Lf, t9, nq9, o1, o3, -, -, o7, -⟩
  · rw [run k If Af o3, bdX_mk, if_pos o2] at eX2
    cases eX2; cases o1
    exact ⟨rt _ (fun k hk => by rw [o6 6 rfl]; exact lk3 k hk), rfl⟩
  · rw [run 0 If Af o3, bdX_mk, if_neg (by decide)] at eX2
    have h8 : (Bf 8 σ).toInt ≤ 160 := by rw [o7.2.2.1.1]; exact o7.2.2.1.2.2.1
    obtain ⟨J9, B9, m9⟩ := m_suc (J := Jf) (B := Bf) (L := Lf) hσ h8
    rw [m9] at o1
    have ev : v = 0 := by
      have e9 : v = (v, I', A').1 := rfl
      rw [e9, ← eX2]
      obtain ⟨I6, x6⟩ := x_47 (y := 0) (I := (fX11_goOnFrom (fX4_takeFrom (upd If 0 0) Af).2.1 (fX4_takeFrom (upd If 0 0) Af).2.2).2.1) (A := (fX11_goOnFrom (fX4_takeFrom (upd If 0 0) Af).2.1 (fX4_takeFrom (upd If 0 0) Af).2.2).2.2)
      show (itr_iIA dfX (bX11_read_47 0) FU 0 (fX11_goOnFrom (fX4_takeFrom (upd If 0 0) Af).2.1 (fX4_takeFrom (upd If 0 0) Af).2.2).2.1 (fX11_goOnFrom (fX4_takeFrom (upd If 0 0) Af).2.1 (fX4_takeFrom (upd If 0 0) Af).2.2).2.2).1 = 0
      rw [x6]
    cases o1
    exact ⟨rt _ (fun k hk => by rw [o7.1.2.2.2.1 6 rfl]; exact lk3 k hk), ev⟩
end
section
/-- what the class's reading leaves alone behind a text without FAULT (a state that can't be has I 30 = 0) -/
def QP (a b : Int32) (I : Nat → Int32) : Prop := I 30 = 0 ∨ (I 12 = a ∧ I 13 = b)
theorem QP.up {a b : Int32} {I : Nat → Int32} {k : Nat} {v : Int32} (h : QP a b I) (h1 : k ≠ 12) (h2 : k ≠ 13) (h3 : k ≠ 30) : QP a b (upd I k v) := by
  unfold QP
  rw [upd_ne (by omega), upd_ne (by omega), upd_ne (by omega)]; exact h
theorem QP.df {a b : Int32} : QP a b dfX.2.1 := Or.inl rfl
theorem q_itr {a b : Int32} {B : (Int32 → (Nat → Int32) → (Nat → Nat → Int32) → (Int32 × (Nat → Int32) × (Nat → Nat → Int32))) → Int32 → (Nat → Int32) → (Nat → Nat → Int32) → (Int32 × (Nat → Int32) × (Nat → Nat → Int32))} (hB : ∀ G, (∀ x I A, QP a b I → QP a b (G x I A).2.1) → ∀ x I A, QP a b I → QP a b (B G x I A).2.1) : ∀ (m : Nat) (x : Int32) (I : Nat → Int32) (A : Nat → Nat → Int32), QP a b I → QP a b (itr_iIA dfX B m x I A).2.1 := by
  intro m
  induction m with
  | zero => intro x I A _; exact QP.df
  | succ m ih =>
    intro x I A h
    show QP a b (B (itr_iIA dfX B m) x I A).2.1
    exact hB _ ih x I A h
theorem q_app2 {I : Nat → Int32} {A : Nat → Nat → Int32} {v : Int32} : (fX4_append_2 I A v).2.1 = I := by
  unfold fX4_append_2
  dsimp only [f_lt]
  split
  · rfl
  · split
    · rfl
    · rfl
theorem q_open2 {a b : Int32} {I : Nat → Int32} {A : Nat → Nat → Int32} (h : QP a b I) : QP a b (fX4_open_2 I A).2.1 := by
  unfold fX4_open_2
  dsimp only [f_lt]
  split
  · exact h
  · split
    · exact h
    · exact h.up (by decide) (by decide) (by decide)
theorem q_take4 {a b : Int32} {I : Nat → Int32} {A : Nat → Nat → Int32} (h : QP a b I) : QP a b (fX4_takeFrom I A).2.1 := by
  unfold fX4_takeFrom
  refine q_itr (fun G hG x I1 A1 h1 => ?_) FU 0 _ _ (h.up (by decide) (by decide) (by decide))
  unfold bX4_takeFrom_7
  split
  · exact h1
  · show QP a b (itr_iIA dfX (bX4_takeFrom_21 x G) FU 0 (fX4_open_2 I1 A1).2.1 (fX4_open_2 I1 A1).2.2).2.1
    refine q_itr (fun G2 hG2 x2 I2 A2 h2 => ?_) FU 0 _ _ (q_open2 h1)
    unfold bX4_takeFrom_21
    dsimp only [f_lt]
    split
    · exact hG _ _ _ h2
    · split
      · exact hG _ _ _ h2
      · show QP a b (G2 _ (fX4_append_2 I2 A2 _).2.1 (fX4_append_2 I2 A2 _).2.2).2.1
        refine hG2 _ _ _ ?_
        rw [q_app2]; exact h2
theorem q_app6 {a b : Int32} {I : Nat → Int32} {A : Nat → Nat → Int32} {v : Int32} (h : QP a b I) : QP a b (fX6_append I A v).2.1 := by
  unfold fX6_append
  dsimp only [f_lt]
  split
  · first
      | exact h
      | exact h.up (by decide) (by decide) (by decide)
  · first
      | exact h
      | exact h.up (by decide) (by decide) (by decide)
theorem q_take6 {a b : Int32} {I : Nat → Int32} {A : Nat → Nat → Int32} (h : QP a b I) : QP a b (fX6_takeFrom I A).2.1 := by
  unfold fX6_takeFrom
  refine q_itr (fun G hG x I1 A1 h1 => ?_) FU 0 _ _ ((h.up (by decide) (by decide) (by decide)).up (by decide) (by decide) (by decide))
  unfold bX6_takeFrom_12
  dsimp only [f_lt]
  split
  · exact h1
  · show QP a b (G _ (fX6_append I1 A1 _).2.1 (fX6_append I1 A1 _).2.2).2.1
    exact hG _ _ _ (q_app6 h1)
theorem q_take7 {a b : Int32} {I : Nat → Int32} {A : Nat → Nat → Int32} (h : QP a b I) : QP a b (fX7_takeFrom I A).2.1 := by
  unfold fX7_takeFrom
  refine q_itr (fun G hG x I1 A1 h1 => ?_) FU 0 _ _ h
  unfold bX7_takeFrom_2
  dsimp only [f_lt]
  split
  · exact h1
  · exact hG _ _ _ h1
theorem q_go {a b : Int32} {I : Nat → Int32} {A : Nat → Nat → Int32} (h : QP a b I) : QP a b (fX11_goOnFrom I A).2.1 := by
  show QP a b (upd (fX7_takeFrom (fX6_takeFrom I A).2.1 (fX6_takeFrom I A).2.2).2.1 21 0)
  exact (q_take7 (q_take6 h)).up (by decide) (by decide) (by decide)
theorem q_47 {a b y : Int32} {I : Nat → Int32} {A : Nat → Nat → Int32} (h : QP a b I) : QP a b (itr_iIA dfX (bX11_read_47 y) FU 0 I A).2.1 := by
  refine q_itr (fun G hG x I1 A1 h1 => ?_) FU 0 _ _ h
  unfold bX11_read_47
  split
  · exact h1
  · split
    · exact hG _ _ _ (h1.up (by decide) (by decide) (by decide))
    · split
      · exact hG _ _ _ (h1.up (by decide) (by decide) (by decide))
      · split
        · exact hG _ _ _ (h1.up (by decide) (by decide) (by decide))
        · exact QP.df
theorem m_suc2 {J : Nat → Int32} {B : Nat → Nat → Int32} {L : Nat → Nat → Int64} {σ : Nat} (hσ : σ ≤ 1) (h8 : (B 8 σ).toInt ≤ 160) : ∃ (J2 : Nat → Int32) (B2 : Nat → Nat → Int32), SUC σ J B L = (0, J2, B2, L) ∧ J2 10 = -1 ∧ J2 14 = -1 := by
  unfold SUC
  have hc : σ = 0 ∨ σ = 1 := by omega
  rcases hc with e | e
  · subst e
    rw [if_neg (by decide)]
    obtain ⟨B1, b1⟩ := m_begins (J := upd (upd (upd J 10 (-1)) 14 (-1)) 15 0) (B := B) (L := L) (σ := 0) rfl (by decide) h8
    rw [b1, bdM_mk]
    unfold fM12_keepsRow
    rw [bdM_mk, m_224x]
    obtain ⟨B2, b2⟩ := m_224 (J := upd (upd (upd (upd J 10 (-1)) 14 (-1)) 15 0) 22 0) (L := L) FU 0 _ (by decide) (by decide) (by have := FU_eq; have : (0 : Int32).toInt = 0 := rfl; omega)
    exact ⟨_, B2, b2, rfl, rfl⟩
  · subst e
    rw [if_pos rfl]
    obtain ⟨B1, b1⟩ := m_begins (J := upd (upd (upd J 10 (-1)) 14 (-1)) 15 1) (B := B) (L := L) (σ := 1) rfl (by decide) h8
    rw [b1, bdM_mk]
    unfold fM12_keepsRow
    rw [bdM_mk]
    obtain ⟨B2, b2⟩ := m_224 (J := upd (upd (upd (upd J 10 (-1)) 14 (-1)) 15 1) 22 0) (L := L) FU 0 _ (by decide) (by decide) (by have := FU_eq; have : (0 : Int32).toInt = 0 := rfl; omega)
    exact ⟨_, B2, b2, rfl, rfl⟩
/-- a whole text: number, place and cause alike -/
theorem read_pc {I I' J J' : Nat → Int32} {A A' B B' : Nat → Nat → Int32} {M M' : Nat → Nat → Int64} {v w : Int32} (h : RT I A J B M) (hI : IvX I A) (hJ : IvM J B) (eX : FE (fX11_read I A) (v, I', A')) (eM : FE (fM12_read J B M) (w, J', B', M')) (hI2 : IvX I' A') : I' 12 = J' 10 ∧ I' 13 = J' 14 := by
  obtain ⟨hT, hL⟩ := h
  have h0 := IvX_f0 hI
  have h15 := IvM_f15 hJ
  have eX2 : fX11_read I A = (v, I', A') := eX
  have eM2 : fM12_read J B M = (w, J', B', M') := eM
  have hc0 := cl_int (y := I 0) h0.1
  obtain ⟨n, hn⟩ : ∃ n : Nat, n = (I 0).toNatClampNeg := ⟨_, rfl⟩
  have hnI : (I 0).toInt = (n : Int) := by omega
  have hnJ : (J 1).toInt = (n : Int) := by rw [← hT.1]; exact hnI
  have hn2 : n ≤ 2000 := by omega
  -- the sides
  obtain ⟨σ, s, hs⟩ : ∃ (σ : Nat) (s : Int32), ((J 15).toInt = 0 ∧ σ = 1 ∧ s = 1) ∨ ((J 15).toInt = 1 ∧ σ = 0 ∧ s = 0) := by
    by_cases c : (J 15).toInt = 0
    · exact ⟨1, 1, Or.inl ⟨c, rfl, rfl⟩⟩
    · exact ⟨0, 0, Or.inr ⟨by omega, rfl, rfl⟩⟩
  have hσ : σ ≤ 1 := by rcases hs with h | h <;> omega
  have hss : s.toInt = (σ : Int) := by rcases hs with ⟨_, a, b⟩ | ⟨_, a, b⟩ <;> rw [a, b] <;> rfl
  -- the reference: copy and cut
  obtain ⟨B2, mB2, hB2, e1⟩ := m_copy (J := J) (B := B) (M := M) (σ := σ) (s := s) hnJ hn2 hs FU 0 0 B rfl (by omega) (by have := FU_eq; omega) Md.rf (fun j hj => by omega)
  have e2 : fM12_read J B M = RDM σ s J B2 M := e1
  have hf : ∀ j, j < n → (B2 1 j &&& 255).toInt = bt A j := fun j hj => by
    rw [hB2 j hj, ← hT.2 j (by omega)]; rfl
  obtain ⟨J3, B3, L3, c, pos, k1, k2, k3, k4, k5, k6, k7, k8, k9, k10⟩ := m_cut (J := upd (upd J 2 (J 1)) 1 0) (B := B2) (L := M) (f := bt A) (n := n) hnJ hn2 hf FU 0 (upd (upd (upd J 2 (J 1)) 1 0) 3 0) B2 M 0 0 0 (fun _ => 0) rfl (by omega) rfl (by omega) (Md.up Md.rf rfl) Md.rf Md.rf rfl rfl (fun _ _ => Nat.zero_le n) (Nat.le_refl _) (fun j a b => by omega) (fun t ht => by omega) (by have := FU_eq; omega)
  have e3 : fM12_cut (upd (upd J 2 (J 1)) 1 0) B2 M = (0, J3, B3, L3) := k1
  unfold RDM at e2
  rw [e3, bdM_mk] at e2
  have lk3 : LK L3 := fun k hk => by rw [k4 6 rfl]; exact hL k hk
  have hE : ENV n c pos A (bin B3 σ) L3 := by
    refine ⟨hn2, fun j hj => ?_, lk3, k8, fun u hu => ?_, k10, k6⟩
    · rw [hT.2 j (by omega)]
      exact (i32_mask 8 rfl (by decide) (by decide)).1
    · obtain ⟨s9, cl9, h9⟩ := k9 u hu
      exact ⟨s9, cl9, h9.cg rfl rfl rfl⟩
  -- the class begins
  obtain ⟨Ac, hAc⟩ : ∃ Ac, Ac = up3 (up3 (up3 (up3 A 2 0 2) 2 1 0) 2 2 0) 2 3 8 := ⟨_, rfl⟩
  obtain ⟨Ib, hIb⟩ : ∃ Ib, Ib = upd (upd (upd (upd (upd (upd (upd (upd (upd (upd (upd I 14 0) 16 0) 6 0) 8 0) 9 (-2)) 10 0) 11 0) 12 (-1)) 13 (-1)) 5 0) 4 0 := ⟨_, rfl⟩
  have hA0 : Ac 0 = A 0 := by rw [hAc]; rfl
  obtain ⟨I1, s1, e1', c1, n1, n2, n3, n4⟩ := x_next (I := Ib) (A := Ac) (n := n) (p := pos 0) (by rw [hIb]; exact hnI) hn2 (fun j hj => by rw [hA0]; exact hE.2.1 j hj) (by rw [hIb, k7]; rfl) (by rw [k7]; omega)
  have eb : fX5_begin I A = (0, I1, Ac) := by
    have e8 : fX8_clear I A = (0, upd I 14 0, Ac) := by
      unfold fX8_clear
      rw [x_clear7, ← hAc]; rfl
    rw [hIb] at n1
    have e9 : fX10_toFirstToken (upd (upd (upd (upd (upd (upd (upd (upd (upd I 14 0) 16 0) 6 0) 8 0) 9 (-2)) 10 0) 11 0) 12 (-1)) 13 (-1)) Ac = (0, I1, Ac) := by
      unfold fX10_toFirstToken
      rw [n1]; rfl
    unfold fX5_begin
    rw [e8, bdX_mk, e9]; rfl
  have hc1 : 0 < c := by
    rcases k10 with h9 | ⟨u, h9, -⟩ <;> omega
  have hH : HAND n c pos A I1 Ac 0 := ⟨hA0, by rw [n2 0 rfl, hIb]; exact hnI, by rw [n3, hIb]; rfl, hc1, by omega, s1, e1', c1, n4⟩
  have i2 : 0 ≤ (I1 2).toInt := by rw [n4.2.2.1]; omega
  have g : ∀ k, [1, 2, 3, 4, 5].contains k = false → I1 k = Ib k := n2
  have hS : ST0 n c pos A (bin B3 σ) L3 (jin J3 s) σ 0 I1 Ac (jin J3 s) (bin B3 σ) L3 0 := by
    refine ⟨⟨hH, Md.rf, Md.rf, Md.rf, ⟨rfl, fun _ _ => rfl, fun _ _ => rfl⟩, rfl, rfl, by rw [g 10 rfl, hIb]; rfl, hss, hσ⟩, ?_, ?_, ?_, by rw [g 6 rfl, hIb]; rfl, by rw [g 9 rfl, hIb]; rfl, rfl, by rw [g 8 rfl, hIb]; rfl, by rw [g 16 rfl, hIb]; rfl⟩
    · have z11 : I1 11 = 0 := by rw [g 11 rfl, hIb]; rfl
      refine ⟨by rw [z11]; rfl, by rw [z11]; decide, fun _ => ⟨by rw [g 12 rfl, hIb]; rfl, by rw [g 13 rfl, hIb]; rfl⟩, fun h9 => absurd (show (I1 11).toInt = 0 by rw [z11]; rfl) h9⟩
    · have z14 : I1 14 = 0 := by rw [g 14 rfl, hIb]; rfl
      refine ⟨?_, by rw [z14]; decide, by rw [z14]; decide, fun j hj => absurd (show (j : Int) < (0 : Int32).toInt by rw [← z14]; exact hj) (by have : (0 : Int32).toInt = 0 := rfl; omega), ?_, fun _ => ?_⟩
      · rw [z14]
        unfold bin
        rw [up3_o (by decide), up3_o (by decide), up3_o (by decide), up3_o (by decide), up3_o (by decide)]; exact up3_at rfl
      · rw [hAc]
        unfold bin
        refine ⟨?_, ?_, ?_, ?_⟩
        · rw [up3_o (by decide), up3_o (by decide), up3_o (by decide), up3_at rfl]; rfl
        · rw [up3_o (by decide), up3_o (by decide), up3_at rfl]; rfl
        · rw [up3_o (by decide), up3_at rfl]; rfl
        · rw [up3_at rfl]; rfl
      · rw [hAc]
        exact ⟨⟨(by decide : 0 ≤ (2 : Int32).toInt), (by decide : (2 : Int32).toInt ≤ 15)⟩, ⟨(by decide : 0 ≤ (0 : Int32).toInt), (by decide : (0 : Int32).toInt ≤ 3)⟩, ⟨(by decide : 0 ≤ (0 : Int32).toInt), (by decide : (0 : Int32).toInt ≤ 1)⟩, ⟨(by decide : 1 ≤ (8 : Int32).toInt), (by decide : (8 : Int32).toInt ≤ 99)⟩⟩
    · refine ⟨?_, rfl, by omega, fun q hq => by omega⟩
      unfold bin
      rw [up3_o (by decide), up3_o (by decide), up3_o (by decide), up3_o (by decide), up3_at rfl]; rfl
  have hO := sim_all hE FU I1 Ac (jin J3 s) (bin B3 σ) L3 0 0 hS (by have := FU_eq; omega)
  rw [← e2, eM2] at hO
  have i14 : I1 4 = 1 := by rw [n3, hIb]; rfl
  have run : ∀ (k : Int32) (If : Nat → Int32) (Af : Nat → Nat → Int32), Ev I1 Ac (k, If, Af) → fX5_readText I A = (k, If, Af) := fun k If Af hev => by
    unfold fX5_readText
    rw [eb, bdX_mk]
    exact hev FU 0 (by rw [i14]; rfl) (by decide) (by have := FU_eq; have : (0 : Int32).toInt = 0 := rfl; omega)
  unfold fX11_read at eX2
  rcases hO with ⟨k, pl, ca, Jf, Bf, Lf, o1, o2, ⟨If, Af, o3, u1, u2, -⟩, o4, o5, o6, -⟩ | ⟨If, Af, Jf, Bf, Lf, t9, nq9, o1, o3, -, -, o7, o8⟩
  · rw [run k If Af o3, bdX_mk, if_pos o2] at eX2
    cases eX2; cases o1
    exact ⟨u1, u2⟩
  · rw [run 0 If Af o3, bdX_mk, if_neg (by decide)] at eX2
    have h8 : (Bf 8 σ).toInt ≤ 160 := by rw [o7.2.2.1.1]; exact o7.2.2.1.2.2.1
    obtain ⟨J9, B9, m9, w1, w2⟩ := m_suc2 (J := Jf) (B := Bf) (L := Lf) hσ h8
    rw [m9] at o1
    have hq : QP (-1) (-1) I' := by
      have e9 : I' = (v, I', A').2.1 := rfl
      rw [e9, ← eX2]
      show QP (-1) (-1) (itr_iIA dfX (bX11_read_47 0) FU 0 (fX11_goOnFrom (fX4_takeFrom (upd If 0 0) Af).2.1 (fX4_takeFrom (upd If 0 0) Af).2.2).2.1 (fX11_goOnFrom (fX4_takeFrom (upd If 0 0) Af).2.1 (fX4_takeFrom (upd If 0 0) Af).2.2).2.2).2.1
      exact q_47 (q_go (q_take4 (QP.up (Or.inr (o7.2.1.2.2.1 o8)) (by decide) (by decide) (by decide))))
    have h30 := IvX_f30 hI2
    cases o1
    rcases hq with h9 | ⟨h9, h10⟩
    · rw [h9] at h30
      exact absurd h30.1 (by decide)
    · exact ⟨h9.trans w1.symm, h10.trans w2.symm⟩
/-- tapes, keys, place and cause alike -/
def RTp (I : Nat → Int32) (A : Nat → Nat → Int32) (J : Nat → Int32) (B : Nat → Nat → Int32) (M : Nat → Nat → Int64) : Prop := RT I A J B M ∧ I 12 = J 10 ∧ I 13 = J 14
end
