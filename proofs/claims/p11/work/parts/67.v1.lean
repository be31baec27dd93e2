theorem m_begE0 {J : Nat → Int32} {B : Nat → Nat → Int32} {L : Nat → Nat → Int64} {n : Nat} (h : (J 15).toInt = 0) (h8 : (B 8 0).toInt = (n : Int)) (hn : n ≤ 160) : ∃ B2 : Nat → Nat → Int32, itr_iIAL dfM (bM12_begins_39 J B) FU 0 J (up3 (up2 B 18 (cpo (fun _ => 0) (B 18) 0 165)) 18 0 (B 8 0)) L = (0, J, B2, L) ∧ Md [18] B B2 ∧ B2 18 0 = B 8 0 ∧ (∀ i : Nat, i < n → B2 18 (1 + i) = B 9 (0 + i)) ∧ B2 18 161 = B 13 0 ∧ B2 18 162 = B 14 0 ∧ B2 18 163 = B 15 0 ∧ B2 18 164 = B 16 0 := by
  refine run_iIAL (Q := fun r => ∃ B2 : Nat → Nat → Int32, r = (0, J, B2, L) ∧ Md [18] B B2 ∧ B2 18 0 = B 8 0 ∧ (∀ i : Nat, i < n → B2 18 (1 + i) = B 9 (0 + i)) ∧ B2 18 161 = B 13 0 ∧ B2 18 162 = B 14 0 ∧ B2 18 163 = B 15 0 ∧ B2 18 164 = B 16 0) n (fun k x J1 B1 L1 => x.toInt = (k : Int) ∧ J1 = J ∧ L1 = L ∧ Md [18] B B1 ∧ B1 18 0 = B 8 0 ∧ (∀ i : Nat, i < k → B1 18 (1 + i) = B 9 (0 + i))) (fun G k x J1 B1 L1 hk hP => ?_) FU 0 0 J _ L ⟨rfl, rfl, rfl, Md.up3 (Md.up2 Md.rf rfl) rfl, up3_at rfl, fun i hi => by omega⟩ (by omega) (fu_lt (by omega))
  obtain ⟨hx, eJ, eL, mB, h0, hi⟩ := hP
  unfold bM12_begins_39
  simp only [h, ↓reduceIte, f_lt]
  rw [h0]
  by_cases c : (B 8 0).toInt ≤ x.toInt
  · rw [if_pos c, eJ, eL]
    refine Or.inr ⟨_, rfl, Md.up3 (Md.up3 (Md.up3 (Md.up3 mB rfl) rfl) rfl) rfl, ?_, fun i hi2 => ?_, ?_, ?_, ?_, ?_⟩
    · rw [up3_ne (by omega), up3_ne (by omega), up3_ne (by omega), up3_ne (by omega)]; exact h0
    · rw [up3_ne (by omega), up3_ne (by omega), up3_ne (by omega), up3_ne (by omega)]; exact hi i (by omega)
    · rw [up3_ne (by omega), up3_ne (by omega), up3_ne (by omega), up3_at rfl]
    · rw [up3_ne (by omega), up3_ne (by omega), up3_at rfl]
    · rw [up3_ne (by omega), up3_at rfl]
    · rw [up3_at rfl]
  · rw [if_neg c]
    left
    refine ⟨by omega, ?_⟩
    have e1 : (1 + x).toInt = ((1 + k : Nat) : Int) := by
      have := i32_add (x := 1) (y := x) (a := 1) rfl rfl hx (by omega) (by omega)
      omega
    have e2 : (0 + x).toInt = ((0 + k : Nat) : Int) := by
      have := i32_add (x := 0) (y := x) (a := 0) rfl rfl hx (by omega) (by omega)
      omega
    rw [clN e1, clN e2]
    refine ⟨_, _, _, _, rfl, i_s hx (by omega), eJ, eL, Md.up3 mB rfl, ?_, fun i hi2 => ?_⟩
    · rw [up3_ne (by omega)]; exact h0
    · by_cases ei : i = k
      · rw [up3_at (by omega), ei]
      · rw [up3_ne (by omega)]; exact hi i (by omega)
theorem m_begE1 {J : Nat → Int32} {B : Nat → Nat → Int32} {L : Nat → Nat → Int64} {n : Nat} (h : (J 15).toInt = 1) (h8 : (B 8 1).toInt = (n : Int)) (hn : n ≤ 160) : ∃ B2 : Nat → Nat → Int32, itr_iIAL dfM (bM12_begins_39x J B) FU 0 J (up3 (up2 B 18 (cpo (fun _ => 0) (B 18) 0 165)) 18 0 (B 8 1)) L = (0, J, B2, L) ∧ Md [18] B B2 ∧ B2 18 0 = B 8 1 ∧ (∀ i : Nat, i < n → B2 18 (1 + i) = B 9 (160 + i)) ∧ B2 18 161 = B 13 1 ∧ B2 18 162 = B 14 1 ∧ B2 18 163 = B 15 1 ∧ B2 18 164 = B 16 1 := by
  refine run_iIAL (Q := fun r => ∃ B2 : Nat → Nat → Int32, r = (0, J, B2, L) ∧ Md [18] B B2 ∧ B2 18 0 = B 8 1 ∧ (∀ i : Nat, i < n → B2 18 (1 + i) = B 9 (160 + i)) ∧ B2 18 161 = B 13 1 ∧ B2 18 162 = B 14 1 ∧ B2 18 163 = B 15 1 ∧ B2 18 164 = B 16 1) n (fun k x J1 B1 L1 => x.toInt = (k : Int) ∧ J1 = J ∧ L1 = L ∧ Md [18] B B1 ∧ B1 18 0 = B 8 1 ∧ (∀ i : Nat, i < k → B1 18 (1 + i) = B 9 (160 + i))) (fun G k x J1 B1 L1 hk hP => ?_) FU 0 0 J _ L ⟨rfl, rfl, rfl, Md.up3 (Md.up2 Md.rf rfl) rfl, up3_at rfl, fun i hi => by omega⟩ (by omega) (fu_lt (by omega))
  obtain ⟨hx, eJ, eL, mB, h0, hi⟩ := hP
  unfold bM12_begins_39x
  simp only [h, ↓reduceIte, f_lt]
  rw [h0]
  by_cases c : (B 8 1).toInt ≤ x.toInt
  · rw [if_pos c, eJ, eL]
    refine Or.inr ⟨_, rfl, Md.up3 (Md.up3 (Md.up3 (Md.up3 mB rfl) rfl) rfl) rfl, ?_, fun i hi2 => ?_, ?_, ?_, ?_, ?_⟩
    · rw [up3_ne (by omega), up3_ne (by omega), up3_ne (by omega), up3_ne (by omega)]; exact h0
    · rw [up3_ne (by omega), up3_ne (by omega), up3_ne (by omega), up3_ne (by omega)]; exact hi i (by omega)
    · rw [up3_ne (by omega), up3_ne (by omega), up3_ne (by omega), up3_at rfl]
    · rw [up3_ne (by omega), up3_ne (by omega), up3_at rfl]
    · rw [up3_ne (by omega), up3_at rfl]
    · rw [up3_at rfl]
  · rw [if_neg c]
    left
    refine ⟨by omega, ?_⟩
    have e1 : (1 + x).toInt = ((1 + k : Nat) : Int) := by
      have := i32_add (x := 1) (y := x) (a := 1) rfl rfl hx (by omega) (by omega)
      omega
    have e2 : (160 + x).toInt = ((160 + k : Nat) : Int) := by
      have := i32_add (x := 160) (y := x) (a := 160) rfl rfl hx (by omega) (by omega)
      omega
    rw [clN e1, clN e2]
    refine ⟨_, _, _, _, rfl, i_s hx (by omega), eJ, eL, Md.up3 mB rfl, ?_, fun i hi2 => ?_⟩
    · rw [up3_ne (by omega)]; exact h0
    · by_cases ei : i = k
      · rw [up3_at (by omega), ei]
      · rw [up3_ne (by omega)]; exact hi i (by omega)
theorem m_begE {J : Nat → Int32} {B : Nat → Nat → Int32} {L : Nat → Nat → Int64} {σ n : Nat} (h : (J 15).toInt = (σ : Int)) (hσ : σ ≤ 1) (h8 : (B 8 σ).toInt = (n : Int)) (hn : n ≤ 160) : ∃ B2 : Nat → Nat → Int32, fM12_begins J B L = (0, J, B2, L) ∧ Md [18] B B2 ∧ B2 18 0 = B 8 σ ∧ (∀ i : Nat, i < n → B2 18 (1 + i) = B 9 (160 * σ + i)) ∧ B2 18 161 = B 13 σ ∧ B2 18 162 = B 14 σ ∧ B2 18 163 = B 15 σ ∧ B2 18 164 = B 16 σ := by
  unfold fM12_begins
  have hc : σ = 0 ∨ σ = 1 := by omega
  rcases hc with e | e
  · subst e
    rw [if_pos (show (J 15).toInt = 0 from h)]
    exact m_begE0 h h8 hn
  · subst e
    rw [if_neg (by omega), if_pos (show (J 15).toInt = 1 from h)]
    exact m_begE1 h h8 hn
theorem nar0 : (vp_nar .boolean 0).toInt = 0 := by decide +kernel
theorem nar1 : (vp_nar .boolean 1).toInt = 1 := by decide +kernel
theorem m_224E {J : Nat → Int32} {B : Nat → Nat → Int32} {L : Nat → Nat → Int64} : ∃ B2 : Nat → Nat → Int32, itr_iIAL dfM bM12_read_224 FU 0 J B L = (0, J, B2, L) ∧ Md [27] B B2 ∧ ∀ s, s < 3 → (B2 27 s).toInt = 0 := by
  refine run_iIAL (Q := fun r => ∃ B2 : Nat → Nat → Int32, r = (0, J, B2, L) ∧ Md [27] B B2 ∧ ∀ s, s < 3 → (B2 27 s).toInt = 0) 3 (fun k x J1 B1 L1 => x.toInt = (k : Int) ∧ J1 = J ∧ L1 = L ∧ Md [27] B B1 ∧ ∀ s, s < k → (B1 27 s).toInt = 0) (fun G k x J1 B1 L1 hk hP => ?_) FU 0 0 J B L ⟨rfl, rfl, rfl, Md.rf, fun i hi => by omega⟩ (by omega) (fu_lt (by omega))
  obtain ⟨hx, eJ, eL, mB, hi⟩ := hP
  unfold bM12_read_224
  dsimp only [f_lt]
  by_cases c : 3 ≤ x.toInt
  · rw [if_pos c, eJ, eL]
    exact Or.inr ⟨_, rfl, mB, fun s hs => hi s (by omega)⟩
  · rw [if_neg c, clN hx]
    left
    refine ⟨by omega, _, _, _, _, rfl, i_s hx (by omega), eJ, eL, Md.up3 mB rfl, fun s hs => ?_⟩
    by_cases e : s = k
    · rw [up3_at e]; exact nar0
    · rw [up3_ne e]; exact hi s (by omega)
/-- a text without a fault: what the reference goes on from -/
theorem m_sucE {J : Nat → Int32} {B : Nat → Nat → Int32} {L : Nat → Nat → Int64} {σ n : Nat} (hσ : σ ≤ 1) (h8 : (B 8 σ).toInt = (n : Int)) (hn : n ≤ 160) : ∃ (J2 : Nat → Int32) (B2 : Nat → Nat → Int32), SUC σ J B L = (0, J2, B2, L) ∧ Md [10, 14, 15, 22] J J2 ∧ J2 10 = -1 ∧ J2 14 = -1 ∧ (J2 15).toInt = (σ : Int) ∧ (J2 22).toInt = 0 ∧ Md [17, 18, 27] B B2 ∧ (∀ s, s < 3 → (B2 27 s).toInt = 0) ∧ B2 17 0 = B 8 σ ∧ (∀ i : Nat, i < n → B2 17 (1 + i) = B 9 (160 * σ + i)) ∧ B2 17 161 = B 13 σ ∧ B2 17 162 = B 14 σ ∧ B2 17 163 = B 15 σ ∧ B2 17 164 = B 16 σ := by
  obtain ⟨s, hs, hj⟩ : ∃ s : Int32, s.toInt = (σ : Int) ∧ SUC σ J B L = f_bdM (fM12_begins (upd (upd (upd J 10 (-1)) 14 (-1)) 15 s) B L) (fun _ J1 B1 L1 => f_bdM (fM12_keepsRow J1 B1 L1) (fun _ J2 B2 L2 => itr_iIAL dfM (bM12_read_224) FU 0 (upd J2 22 0) B2 L2)) := by
    have hc : σ = 0 ∨ σ = 1 := by omega
    rcases hc with e | e
    · subst e
      refine ⟨0, rfl, ?_⟩
      unfold SUC
      rw [if_neg (by decide), m_224x]
    · subst e
      refine ⟨1, rfl, ?_⟩
      unfold SUC
      rw [if_pos rfl]
  obtain ⟨B1, b1, b2, b3, b4, b5, b6, b7, b8⟩ := m_begE (J := upd (upd (upd J 10 (-1)) 14 (-1)) 15 s) (B := B) (L := L) (σ := σ) hs hσ h8 hn
  rw [hj, b1, bdM_mk]
  unfold fM12_keepsRow
  rw [bdM_mk]
  obtain ⟨B2, c1, c2, c3⟩ := m_224E (J := upd (upd (upd (upd J 10 (-1)) 14 (-1)) 15 s) 22 0) (B := up2 B1 17 (cpo (B1 18) (B1 17) 0 165)) (L := L)
  have q : ∀ k, k < 165 → B2 17 k = B1 18 k := fun k hk => by
    rw [c2 17 rfl]
    show cpo (B1 18) (B1 17) 0 165 k = B1 18 k
    rw [cpo_in (by omega) (by omega)]; rfl
  refine ⟨_, B2, c1, Md.up (Md.up (Md.up (Md.up Md.rf rfl) rfl) rfl) rfl, rfl, rfl, hs, rfl, Md.tr (Md.up2 (Md.tr Md.rf b2 rfl) rfl) c2 rfl, c3, ?_, fun i hi => ?_, ?_, ?_, ?_, ?_⟩
  · rw [q 0 (by omega), b3]
  · rw [q (1 + i) (by omega), b4 i hi]
  · rw [q 161 (by omega), b5]
  · rw [q 162 (by omega), b6]
  · rw [q 163 (by omega), b7]
  · rw [q 164 (by omega), b8]
theorem x_47E {y : Int32} {I : Nat → Int32} {A : Nat → Nat → Int32} : itr_iIA dfX (bX11_read_47 y) FU 0 I A = (y, upd (upd (upd I 23 0) 25 0) 27 0, A) := by
  have e : ∀ (m : Nat) (x : Int32) (I : Nat → Int32), itr_iIA dfX (bX11_read_47 y) (m + 1) x I A = bX11_read_47 y (itr_iIA dfX (bX11_read_47 y) m) x I A := fun _ _ _ => rfl
  obtain ⟨m, hm⟩ : ∃ m, FU = m + 1 + 1 + 1 + 1 := ⟨FU - 4, by have := FU_eq; omega⟩
  rw [hm, e]
  generalize hG : itr_iIA dfX (bX11_read_47 y) (m + 1 + 1 + 1) = G
  show G 1 (upd I 23 0) A = _
  rw [← hG, e]
  generalize hG2 : itr_iIA dfX (bX11_read_47 y) (m + 1 + 1) = G2
  show G2 2 (upd (upd I 23 0) 25 0) A = _
  rw [← hG2, e]
  generalize hG3 : itr_iIA dfX (bX11_read_47 y) (m + 1) = G3
  show G3 3 (upd (upd (upd I 23 0) 25 0) 27 0) A = _
  rw [← hG3, e]
  generalize itr_iIA dfX (bX11_read_47 y) m = G4
  rfl
/-- the QUERIES are alike -/
def QS (I : Nat → Int32) (A : Nat → Nat → Int32) (J : Nat → Int32) (B : Nat → Nat → Int32) : Prop := ∃ σ nq : Nat, (J 15).toInt = (σ : Int) ∧ σ ≤ 1 ∧ (I 19).toInt = (nq : Int) ∧ (B 10 σ).toInt = (nq : Int) ∧ nq ≤ 5 ∧ ∀ q : Nat, q < nq → A 9 q = B 11 (5 * σ + q) ∧ 2 ≤ (A 9 q).toInt ∧ (A 9 q).toInt ≤ 16 ∧ ∀ i : Nat, (i : Int) < (A 9 q).toInt → A 8 (16 * q + i) = B 12 (80 * σ + (16 * q + i)) ∧ -999 ≤ (A 8 (16 * q + i)).toInt ∧ (A 8 (16 * q + i)).toInt ≤ 999
theorem QS.keep {I I' J J' : Nat → Int32} {A A' B B' : Nat → Nat → Int32} (h : QS I A J B) (i19 : I' 19 = I 19) (a8 : A' 8 = A 8) (a9 : A' 9 = A 9) (j15 : J' 15 = J 15) (b10 : B' 10 = B 10) (b11 : B' 11 = B 11) (b12 : B' 12 = B 12) : QS I' A' J' B' := by
  unfold QS at *
  rw [i19, a8, a9, j15, b10, b11, b12]; exact h
/-- a SLOT is alike -/
def SL (s : Nat) (I : Nat → Int32) (A B : Nat → Nat → Int32) : Prop := ((I (23 + 2 * s)).toInt ≠ 0 ↔ (B 27 s).toInt ≠ 0) ∧ ((I (23 + 2 * s)).toInt ≠ 0 → Rep 0 (I (22 + 2 * s)).toInt (A (15 + 2 * s)) (A (16 + 2 * s)) (fun k => B 28 (165 * s + k)))
def SLS (I : Nat → Int32) (A B : Nat → Nat → Int32) : Prop := SL 0 I A B ∧ SL 1 I A B ∧ SL 2 I A B
theorem SL.keep {s : Nat} {I I' : Nat → Int32} {A A' B B' : Nat → Nat → Int32} (h : SL s I A B) (i0 : I' (22 + 2 * s) = I (22 + 2 * s)) (i1 : I' (23 + 2 * s) = I (23 + 2 * s)) (a0 : A' (15 + 2 * s) = A (15 + 2 * s)) (a1 : A' (16 + 2 * s) = A (16 + 2 * s)) (b0 : B' 27 s = B 27 s) (b1 : ∀ k, k < 165 → B' 28 (165 * s + k) = B 28 (165 * s + k)) : SL s I' A' B' := by
  unfold SL at *
  rw [i0, i1, a0, a1, b0]
  exact ⟨h.1, fun h9 => (h.2 h9).cg b1⟩
theorem SLS.keep {I I' : Nat → Int32} {A A' B B' : Nat → Nat → Int32} (h : SLS I A B) (i22 : I' 22 = I 22) (i23 : I' 23 = I 23) (i24 : I' 24 = I 24) (i25 : I' 25 = I 25) (i26 : I' 26 = I 26) (i27 : I' 27 = I 27) (a15 : A' 15 = A 15) (a16 : A' 16 = A 16) (a17 : A' 17 = A 17) (a18 : A' 18 = A 18) (a19 : A' 19 = A 19) (a20 : A' 20 = A 20) (b27 : B' 27 = B 27) (b28 : B' 28 = B 28) : SLS I' A' B' :=
  ⟨h.1.keep i22 i23 a15 a16 (by rw [b27]) (fun k _ => by rw [b28]), h.2.1.keep i24 i25 a17 a18 (by rw [b27]) (fun k _ => by rw [b28]), h.2.2.keep i26 i27 a19 a20 (by rw [b27]) (fun k _ => by rw [b28])⟩
