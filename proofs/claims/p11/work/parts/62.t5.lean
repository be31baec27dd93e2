/-- what the reading of one text rests on -/
def ENV (n c : Nat) (pos : Nat → Nat) (A0 B0 : Nat → Nat → Int32) (L0 : Nat → Nat → Int64) : Prop :=
  n ≤ 2000 ∧ (∀ j, j < n → 0 ≤ (A0 0 j).toInt) ∧ LK L0 ∧ (∀ u, u ≤ c → pos u ≤ n) ∧ (∀ u, u < c → ∃ (s : Nat) (cl : Int), TM (bt A0) n B0 L0 u (pos u) s (pos (u + 1)) cl) ∧ (c = 401 ∨ ∃ u : Nat, c = u + 1 ∧ (B0 2 u).toInt = 0) ∧ c ≤ 401
/-- the class has TOKEN t at hand -/
def HAND (n c : Nat) (pos : Nat → Nat) (A0 : Nat → Nat → Int32) (I : Nat → Int32) (A : Nat → Nat → Int32) (t : Nat) : Prop :=
  A 0 = A0 0 ∧ (I 0).toInt = (n : Int) ∧ (I 4).toInt = (t : Int) + 1 ∧ t < c ∧ t ≤ 400 ∧ ∃ (s e : Nat) (cl : Int), TX I A n (pos t) s e cl
theorem bt_eq {A A0 : Nat → Nat → Int32} (h : A 0 = A0 0) : bt A = bt A0 := by unfold bt; rw [h]
theorem Tk.kinds {f : Nat → Int} {n p s e : Nat} {c : Int} (hT : Tk f n p c s e) : c = 0 ∨ c = 1 ∨ c = 2 ∨ c = 3 ∨ c = 4 ∨ c = 5 := by
  rcases hT.2 with ⟨a1, a2, a3⟩ | ⟨a1, a2, a3, a4⟩ | ⟨a1, a2, a3, a4⟩ | ⟨a1, a2, a3, a4, a5⟩
  · omega
  · by_cases h9 : 8 < e - s
    · rw [if_pos h9] at a4; omega
    · rw [if_neg h9] at a4; omega
  · by_cases h9 : 4 < e - s
    · rw [if_pos h9] at a4; omega
    · rw [if_neg h9] at a4; omega
  · by_cases h9 : f s = 59
    · rw [if_pos h9] at a5; omega
    · rw [if_neg h9] at a5
      by_cases h8 : f s = 45
      · rw [if_pos h8] at a5; omega
      · rw [if_neg h8] at a5; omega
theorem Tk.lets {f : Nat → Int} {n p s e : Nat} (hT : Tk f n p 1 s e) : Rn isL f n s e ∧ e - s ≤ 8 := by
  rcases hT.2 with ⟨a1, a2, a3⟩ | ⟨a1, a2, a3, a4⟩ | ⟨a1, a2, a3, a4⟩ | ⟨a1, a2, a3, a4, a5⟩
  · omega
  · refine ⟨a3, ?_⟩
    by_cases h9 : 8 < e - s
    · rw [if_pos h9] at a4; omega
    · omega
  · by_cases h9 : 4 < e - s
    · rw [if_pos h9] at a4; omega
    · rw [if_neg h9] at a4; omega
  · by_cases h9 : f s = 59
    · rw [if_pos h9] at a5; omega
    · rw [if_neg h9] at a5
      by_cases h8 : f s = 45
      · rw [if_pos h8] at a5; omega
      · rw [if_neg h8] at a5; omega
theorem Tk.digs {f : Nat → Int} {n p s e : Nat} (hT : Tk f n p 2 s e) : Rn isD f n s e ∧ e - s ≤ 4 := by
  rcases hT.2 with ⟨a1, a2, a3⟩ | ⟨a1, a2, a3, a4⟩ | ⟨a1, a2, a3, a4⟩ | ⟨a1, a2, a3, a4, a5⟩
  · omega
  · by_cases h9 : 8 < e - s
    · rw [if_pos h9] at a4; omega
    · rw [if_neg h9] at a4; omega
  · refine ⟨a3, ?_⟩
    by_cases h9 : 4 < e - s
    · rw [if_pos h9] at a4; omega
    · omega
  · by_cases h9 : f s = 59
    · rw [if_pos h9] at a5; omega
    · rw [if_neg h9] at a5
      by_cases h8 : f s = 45
      · rw [if_pos h8] at a5; omega
      · rw [if_neg h8] at a5; omega
/-- the TOKEN at hand, by the reference's number of its kind -/
def HK (I : Nat → Int32) (A : Nat → Nat → Int32) (K : Int) : Prop :=
  (K = 0 ↔ (I 1).toInt = 0) ∧ (K = 2 ↔ (I 1).toInt = 2) ∧ (K = 4 ↔ (I 1).toInt = 3) ∧ (K = 9 ↔ (I 1).toInt = 4) ∧ ((K = 1 ∨ (20 ≤ K ∧ K ≤ 32)) ↔ (I 1).toInt = 1) ∧ (∀ i, i < 13 → fX10_isWord i I A = if K = 20 + (kx i : Int) then 1 else 0) ∧ (0 ≤ K ∧ K ≤ 32 ∧ (4 < K → K < 20 → K = 9))
theorem hand_tm {n c t : Nat} {pos : Nat → Nat} {A0 B0 : Nat → Nat → Int32} {L0 : Nat → Nat → Int64} {I : Nat → Int32} {A : Nat → Nat → Int32} (hE : ENV n c pos A0 B0 L0) (hH : HAND n c pos A0 I A t) : ∃ (s e : Nat) (cl : Int), TX I A n (pos t) s e cl ∧ TM (bt A0) n B0 L0 t (pos t) s e cl ∧ e = pos (t + 1) ∧ s ≤ n ∧ e ≤ n ∧ s ≤ e ∧ (cl ≠ 0 → s < e) := by
  obtain ⟨h1, h2, h3, h4, h5, s, e, cl, h6⟩ := hH
  obtain ⟨g1, g2, g3, g4, g5, g6, g7⟩ := hE
  obtain ⟨s2, cl2, h7⟩ := g5 t h4
  have h8 := h6.1
  rw [bt_eq h1] at h8
  obtain ⟨e1, e2, e3⟩ := h8.uniq h7.1
  subst e1; subst e2; subst e3
  have h9 := h8.le (g4 t (by omega))
  exact ⟨s, pos (t + 1), cl, h6, h7, rfl, h9.1, h9.2.1, h9.2.2.2.1, fun h0 => h9.2.2.2.2.1 (by have := h9.2.2.2.2.2; omega)⟩
theorem hand_K {n c t : Nat} {pos : Nat → Nat} {A0 B0 : Nat → Nat → Int32} {L0 : Nat → Nat → Int64} {I : Nat → Int32} {A : Nat → Nat → Int32} (hE : ENV n c pos A0 B0 L0) (hH : HAND n c pos A0 I A t) : HK I A (B0 2 t).toInt ∧ B0 3 t = I 2 ∧ ((B0 2 t).toInt = 2 → B0 4 t = I 3 ∧ 0 ≤ (I 3).toInt ∧ (I 3).toInt ≤ 9999) ∧ 0 ≤ (I 2).toInt ∧ (I 2).toInt ≤ 2000 ∧ (I 5).toInt = (pos (t + 1) : Int) ∧ pos (t + 1) ≤ n := by
  obtain ⟨s, e, cl, hX, hM, he, hs, hen, hse, hlt⟩ := hand_tm hE hH
  obtain ⟨h1, h2, h3, h4, h5, -⟩ := hH
  obtain ⟨g1, g2, g3, g4, g5, g6, g7⟩ := hE
  have hw : ∀ i, i < 13 → fX10_isWord i I A = if (B0 2 t).toInt = 20 + (kx i : Int) then 1 else 0 := fun i hi => x_word h2 g1 (g4 t (by omega)) g3 hX (by rw [bt_eq h1]; exact hM) hi
  obtain ⟨hT, x1, x2, x5, x3⟩ := hX
  obtain ⟨mT, m3, m4, m5, mk⟩ := hM
  have hcl := hT.kinds
  refine ⟨?_, Int32.toInt_inj.mp (by omega), ?_, by omega, by omega, by omega, by omega⟩
  · have hk : (cl = 1 → (B0 2 t).toInt = 1 ∨ (20 ≤ (B0 2 t).toInt ∧ (B0 2 t).toInt ≤ 32)) := fun h9 => by
      rcases (m5 h9).2 with h8 | ⟨k, k1, k2, k3⟩
      · exact Or.inl h8.1
      · exact Or.inr (by omega)
    obtain ⟨k0, k2, k3, k4, k5⟩ := mk
    refine ⟨?_, ?_, ?_, ?_, ?_, hw, ?_⟩ <;> (rcases hcl with e9 | e9 | e9 | e9 | e9 | e9 <;> first | (have := k0 e9; omega) | (have := hk e9; omega) | (have := k2 e9; omega) | (have := k3 e9; omega) | (have := k4 e9; omega) | (have := k5 e9; omega))
  · intro h9
    obtain ⟨k0, k2, k3, k4, k5⟩ := mk
    have hc2 : cl = 2 := by
      rcases hcl with e9 | e9 | e9 | e9 | e9 | e9
      · have := k0 e9; omega
      · rcases (m5 e9).2 with h8 | ⟨k, k1, k2, k3⟩
        · have := h8.1; omega
        · omega
      · exact e9
      · have := k3 e9; omega
      · have := k4 e9; omega
      · have := k5 e9; omega
    have hv := x3 hc2
    have hv2 := m4 hc2
    rw [bt_eq h1] at hv
    subst hc2
    have hd := mT.digs
    have hdl := dec_lt (f := bt A0) (s := s) (e - s) (fun j a b => (hd.1.2.1 j a (by omega)).2) hd.2
    have h10 : dec (bt A0) s (e - s) < 10000 := by
      have : e - s = 0 ∨ e - s = 1 ∨ e - s = 2 ∨ e - s = 3 ∨ e - s = 4 := by have := hd.2; omega
      rcases this with e9 | e9 | e9 | e9 | e9 <;> rw [e9] at hdl ⊢ <;> omega
    exact ⟨Int32.toInt_inj.mp (by omega), by omega, by omega⟩
/-- a name at hand -/
theorem hand_N {n c t : Nat} {pos : Nat → Nat} {A0 B0 : Nat → Nat → Int32} {L0 : Nat → Nat → Int64} {I : Nat → Int32} {A : Nat → Nat → Int32} (hE : ENV n c pos A0 B0 L0) (hH : HAND n c pos A0 I A t) (hK : (B0 2 t).toInt = 1) : ∃ s k : Nat, (I 2).toInt = (s : Int) ∧ (I 5 - I 2).toInt = (k : Int) ∧ k ≤ 8 ∧ s + k ≤ n ∧ (∀ j, s ≤ j → j < s + k → isL (bt A0 j)) ∧ (L0 5 t).toInt = enc (bt A0) s k := by
  have h0 := (hand_K hE hH).1.2.2.2.2.1.mp (Or.inl hK)
  obtain ⟨s, e, cl, hX, hM, he, hs, hen, hse, hlt⟩ := hand_tm hE hH
  obtain ⟨h1, h2, h3, h4, h5, -⟩ := hH
  obtain ⟨g1, g2, g3, g4, g5, g6, g7⟩ := hE
  obtain ⟨hT, x1, x2, x5, x3⟩ := hX
  obtain ⟨mT, m3, m4, m5, mk⟩ := hM
  have hc1 : cl = 1 := by omega
  subst hc1
  have hd := mT.lets
  exact ⟨s, e - s, x2, by rw [i32_sub rfl x5 x2 (by omega) (by omega)]; omega, hd.2, by omega, fun j a b => (hd.1.2.1 j a (by omega)).2, (m5 rfl).1⟩
theorem hand_next {n c t : Nat} {pos : Nat → Nat} {A0 B0 : Nat → Nat → Int32} {L0 : Nat → Nat → Int64} {I I1 : Nat → Int32} {A A1 : Nat → Nat → Int32} (hE : ENV n c pos A0 B0 L0) (hH : HAND n c pos A0 I A t) (hK : (B0 2 t).toInt ≠ 0) (ht : t ≠ 400) (hA : A1 0 = A 0) (h0 : I1 0 = I 0) (h4 : I1 4 = I 4) (h5 : I1 5 = I 5) : ∃ I2 : Nat → Int32, fX10_toNextToken I1 A1 = (0, I2, A1) ∧ Md [1, 2, 3, 4, 5] I1 I2 ∧ I2 4 = I 4 + 1 ∧ HAND n c pos A0 I2 A1 (t + 1) ∧ (I 2).toInt < (I2 2).toInt := by
  have hk := hand_K hE hH
  obtain ⟨s, e, cl, hX, hM, he, hs, hen, hse, hlt⟩ := hand_tm hE hH
  obtain ⟨a1, a2, a3, a4, a5, -⟩ := hH
  obtain ⟨g1, g2, g3, g4, g5, g6, g7⟩ := hE
  have hA0 : A1 0 = A0 0 := hA.trans a1
  obtain ⟨I2, s2, e2, cl2, b1, b2, b3, b4⟩ := x_next (I := I1) (A := A1) (n := n) (p := pos (t + 1)) (by rw [h0]; exact a2) g1 (fun j hj => by rw [hA0]; exact g2 j hj) (by rw [h5]; exact hk.2.2.2.2.2.1) hk.2.2.2.2.2.2
  have hle := b4.1.le hk.2.2.2.2.2.2
  have hcl : cl ≠ 0 := fun h9 => hK (hM.2.2.2.2.1 h9)
  have hlt2 := hlt hcl
  refine ⟨I2, b1, b2, by rw [b3, h4], ⟨hA0, by rw [b2 0 rfl, h0]; exact a2, ?_, ?_, Nat.lt_of_le_of_ne a5 ht, s2, e2, cl2, b4⟩, ?_⟩
  · rw [b3, h4, i32_inc (by omega)]; omega
  · rcases g6 with h9 | ⟨u, h9, h8⟩
    · omega
    · have : t ≠ u := fun h7 => hK (by rw [h7]; exact h8)
      omega
  · have := b4.2.2.1
    have := hX.2.2.1
    omega
