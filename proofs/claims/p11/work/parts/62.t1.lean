/-- the TOKEN from p on: its kind (as the class has it), its first byte, the place behind it -/
def Tk (f : Nat → Int) (n p : Nat) (c : Int) (s e : Nat) : Prop := Rn isB f n p s ∧
  ((¬ s < n ∧ c = 0 ∧ e = s) ∨ (s < n ∧ isL (f s) ∧ Rn isL f n s e ∧ c = if 8 < e - s then 5 else 1) ∨ (s < n ∧ isD (f s) ∧ Rn isD f n s e ∧ c = if 4 < e - s then 5 else 2) ∨ (s < n ∧ ¬ isL (f s) ∧ ¬ isD (f s) ∧ e = s + 1 ∧ c = if f s = 59 then 3 else if f s = 45 then 4 else 5))
theorem Tk.uniq {f : Nat → Int} {n p s e s2 e2 : Nat} {c c2 : Int} (h : Tk f n p c s e) (h2 : Tk f n p c2 s2 e2) : c = c2 ∧ s = s2 ∧ e = e2 := by
  have es := Rn.uniq h.1 h2.1
  subst es
  have hx : isL (f s) → isD (f s) → False := fun a b => by unfold isL isD at *; omega
  rcases h.2 with ⟨a1, a2, a3⟩ | ⟨a1, a2, a3, a4⟩ | ⟨a1, a2, a3, a4⟩ | ⟨a1, a2, a3, a4, a5⟩
  · rcases h2.2 with ⟨b1, b2, b3⟩ | ⟨b1, b2, b3, b4⟩ | ⟨b1, b2, b3, b4⟩ | ⟨b1, b2, b3, b4, b5⟩
    · exact ⟨by omega, rfl, by omega⟩
    · exact absurd b1 a1
    · exact absurd b1 a1
    · exact absurd b1 a1
  · rcases h2.2 with ⟨b1, b2, b3⟩ | ⟨b1, b2, b3, b4⟩ | ⟨b1, b2, b3, b4⟩ | ⟨b1, b2, b3, b4, b5⟩
    · exact absurd a1 b1
    · have e9 := Rn.uniq a3 b3
      subst e9
      exact ⟨a4.trans b4.symm, rfl, rfl⟩
    · exact (hx a2 b2).elim
    · exact absurd a2 b2
  · rcases h2.2 with ⟨b1, b2, b3⟩ | ⟨b1, b2, b3, b4⟩ | ⟨b1, b2, b3, b4⟩ | ⟨b1, b2, b3, b4, b5⟩
    · exact absurd a1 b1
    · exact (hx b2 a2).elim
    · have e9 := Rn.uniq a3 b3
      subst e9
      exact ⟨a4.trans b4.symm, rfl, rfl⟩
    · exact absurd a2 b3
  · rcases h2.2 with ⟨b1, b2, b3⟩ | ⟨b1, b2, b3, b4⟩ | ⟨b1, b2, b3, b4⟩ | ⟨b1, b2, b3, b4, b5⟩
    · exact absurd a1 b1
    · exact absurd b2 a2
    · exact absurd b2 a3
    · exact ⟨a5.trans b5.symm, rfl, by omega⟩
theorem Tk.le {f : Nat → Int} {n p s e : Nat} {c : Int} (h : Tk f n p c s e) (hp : p ≤ n) : s ≤ n ∧ e ≤ n ∧ p ≤ s ∧ s ≤ e ∧ (s < n → s < e) ∧ (c = 0 ↔ ¬ s < n) := by
  have h1 := h.1.le hp
  have h0 := h.1.1
  rcases h.2 with ⟨a1, a2, a3⟩ | ⟨a1, a2, a3, a4⟩ | ⟨a1, a2, a3, a4⟩ | ⟨a1, a2, a3, a4, a5⟩
  · exact ⟨by omega, by omega, by omega, by omega, by omega, by omega⟩
  · have := a3.le h1
    have h2 := a3.1
    have h3 : s < e := by
      rcases Nat.lt_or_ge s e with h4 | h4
      · exact h4
      · have : e = s := by omega
        subst this
        exact absurd ⟨a1, a2⟩ a3.2.2
    have h5 : c = 5 ∨ c = 1 := by rw [a4]; by_cases h9 : 8 < e - s <;> simp [h9]
    exact ⟨by omega, by omega, by omega, by omega, by omega, by omega⟩
  · have := a3.le h1
    have h2 := a3.1
    have h3 : s < e := by
      rcases Nat.lt_or_ge s e with h4 | h4
      · exact h4
      · have : e = s := by omega
        subst this
        exact absurd ⟨a1, a2⟩ a3.2.2
    have h5 : c = 5 ∨ c = 2 := by rw [a4]; by_cases h9 : 4 < e - s <;> simp [h9]
    exact ⟨by omega, by omega, by omega, by omega, by omega, by omega⟩
  · have h5 : c = 3 ∨ c = 4 ∨ c = 5 := by
      rw [a5]
      by_cases h9 : f s = 59
      · simp [h9]
      · by_cases h8 : f s = 45
        · simp [h8]
        · simp [h9, h8]
    exact ⟨by omega, by omega, by omega, by omega, by omega, by omega⟩
/-- the class's TOKEN at hand: it was looked for from p on -/
def TX (I : Nat → Int32) (A : Nat → Nat → Int32) (n p s e : Nat) (c : Int) : Prop := Tk (bt A) n p c s e ∧ (I 1).toInt = c ∧ (I 2).toInt = (s : Int) ∧ (I 5).toInt = (e : Int) ∧ (c = 2 → (I 3).toInt = dec (bt A) s (e - s))
theorem x_next {I : Nat → Int32} {A : Nat → Nat → Int32} {n p : Nat} (hn : (I 0).toInt = (n : Int)) (hn2 : n ≤ 2000) (hb : ∀ j, j < n → 0 ≤ (A 0 j).toInt) (h5 : (I 5).toInt = (p : Int)) (hp : p ≤ n) : ∃ (I' : Nat → Int32) (s e : Nat) (c : Int), fX10_toNextToken I A = (0, I', A) ∧ Md [1, 2, 3, 4, 5] I I' ∧ I' 4 = I 4 + 1 ∧ TX I' A n p s e c := by
  obtain ⟨s, hs1, hs2⟩ := x_blanks (A := A) hn hn2 FU (I 5) p h5 hp (by have := FU_eq; omega)
  have hs3 := hs2.le hp
  obtain ⟨y, hy⟩ : ∃ y, y = fX10_behindBlanks I A (I 5) := ⟨_, rfl⟩
  have hy2 : y.toInt = (s : Int) := by rw [hy]; exact hs1
  obtain ⟨J, hJ⟩ : ∃ J, J = upd (upd (upd I 2 y) 4 (I 4 + 1)) 3 0 := ⟨_, rfl⟩
  have j0 : J 0 = I 0 := by rw [hJ]; rfl
  have j2 : J 2 = y := by rw [hJ]; rfl
  have j3 : J 3 = 0 := by rw [hJ]; rfl
  have j4 : J 4 = I 4 + 1 := by rw [hJ]; rfl
  have hM : Md [1, 2, 3, 4, 5] I J := by rw [hJ]; exact Md.up (Md.up (Md.up Md.rf rfl) rfl) rfl
  have e1 : fX10_toNextToken I A = (if 0 ≤ (fX10_byteAt J A y).toInt then if fX10_isLetter J A (fX10_byteAt J A y) = 0 then if fX10_isDigit J A (fX10_byteAt J A y) = 0 then if (fX10_byteAt J A y).toInt ≠ 59 then if (fX10_byteAt J A y).toInt ≠ 45 then (0, upd (upd J 5 (y + 1)) 1 5, A) else (0, upd (upd J 5 (y + 1)) 1 4, A) else (0, upd (upd J 5 (y + 1)) 1 3, A) else f_bdX (fX10_takeDigits J A) fun _ I2 A2 => (0, I2, A2) else f_bdX (fX10_takeLetters J A) fun _ I2 A2 => (0, I2, A2) else (0, upd (upd J 1 0) 5 y, A)) := by
    rw [hJ, hy]; rfl
  rw [e1]
  by_cases c0 : s < n
  · have e2 : fX10_byteAt J A y = A 0 s := by rw [x_byte (by omega) (by rw [j0]; omega), clN hy2]
    rw [e2, if_pos (hb s c0), x_isL, x_isD]
    by_cases cL : 97 ≤ (A 0 s).toInt ∧ (A 0 s).toInt ≤ 122
    · rw [if_pos cL, if_neg (by decide)]
      obtain ⟨e, z, h1, h2, h3⟩ := x_letters (I := J) (A := A) (n := n) (s := s) (by rw [j0]; exact hn) hn2 (by rw [j2]; exact hy2) FU (J 2) s (by rw [j2]; exact hy2) (Nat.le_refl _) hs3 (by have := FU_eq; omega)
      have h4 : fX10_takeLetters J A = _ := h3
      rw [h4]
      refine ⟨upd (upd J 5 z) 1 (if 8 < e - s then 5 else 1), s, e, if 8 < e - s then 5 else 1, rfl, Md.up (Md.up hM rfl) rfl, j4, ⟨hs2, Or.inr (Or.inl ⟨c0, cL, h2, rfl⟩)⟩, ?_, ?_, h1, ?_⟩
      · show (if 8 < e - s then (5 : Int32) else 1).toInt = _
        by_cases c9 : 8 < e - s
        · rw [if_pos c9, if_pos c9]; rfl
        · rw [if_neg c9, if_neg c9]; rfl
      · show (J 2).toInt = _
        rw [j2]; exact hy2
      · intro h9
        by_cases c9 : 8 < e - s
        · rw [if_pos c9] at h9; omega
        · rw [if_neg c9] at h9; omega
    · rw [if_neg cL, if_pos rfl]
      by_cases cD : 48 ≤ (A 0 s).toInt ∧ (A 0 s).toInt ≤ 57
      · rw [if_pos cD, if_neg (by decide)]
        obtain ⟨e, z, w, h1, h2, h6, h3⟩ := x_digits (I := J) (A := A) (n := n) (s := s) (by rw [j0]; exact hn) hn2 (by rw [j2]; exact hy2) FU (J 2) (J 3) s (by rw [j2]; exact hy2) (Nat.le_refl _) hs3 (by have := FU_eq; omega) (fun j a b => by omega) (fun _ => by rw [j3, Nat.sub_self]; rfl)
        have h4 : fX10_takeDigits J A = (0, upd (upd (upd J 3 w) 5 z) 1 (if 4 < e - s then 5 else 2), A) := by
          rw [← h3]
          show itr_iIA dfX (bX10_takeDigits_5 J) FU (J 2) J A = _
          rw [show upd J 3 (J 3) = J from upd_same rfl]
        rw [h4]
        refine ⟨upd (upd (upd J 3 w) 5 z) 1 (if 4 < e - s then 5 else 2), s, e, if 4 < e - s then 5 else 2, rfl, Md.up (Md.up (Md.up hM rfl) rfl) rfl, j4, ⟨hs2, Or.inr (Or.inr (Or.inl ⟨c0, cD, h2, rfl⟩))⟩, ?_, ?_, h1, ?_⟩
        · show (if 4 < e - s then (5 : Int32) else 2).toInt = _
          by_cases c9 : 4 < e - s
          · rw [if_pos c9, if_pos c9]; rfl
          · rw [if_neg c9, if_neg c9]; rfl
        · show (J 2).toInt = _
          rw [j2]; exact hy2
        · intro h9
          by_cases c9 : 4 < e - s
          · rw [if_pos c9] at h9; omega
          · exact h6 (by omega)
      · rw [if_neg cD, if_pos rfl]
        have hz : (y + 1).toInt = ((s + 1 : Nat) : Int) := by rw [i32_inc (by omega)]; omega
        by_cases k1 : (A 0 s).toInt = 59
        · rw [if_neg (fun h9 => h9 k1)]
          refine ⟨_, s, s + 1, 3, rfl, Md.up (Md.up hM rfl) rfl, j4, ⟨hs2, Or.inr (Or.inr (Or.inr ⟨c0, cL, cD, rfl, by rw [if_pos (show bt A s = 59 from k1)]⟩))⟩, rfl, ?_, hz, fun h9 => absurd h9 (by decide)⟩
          show (J 2).toInt = _
          rw [j2]; exact hy2
        · rw [if_pos k1]
          by_cases k2 : (A 0 s).toInt = 45
          · rw [if_neg (fun h9 => h9 k2)]
            refine ⟨_, s, s + 1, 4, rfl, Md.up (Md.up hM rfl) rfl, j4, ⟨hs2, Or.inr (Or.inr (Or.inr ⟨c0, cL, cD, rfl, by rw [if_neg (show ¬ bt A s = 59 from k1), if_pos (show bt A s = 45 from k2)]⟩))⟩, rfl, ?_, hz, fun h9 => absurd h9 (by decide)⟩
            show (J 2).toInt = _
            rw [j2]; exact hy2
          · rw [if_pos k2]
            refine ⟨_, s, s + 1, 5, rfl, Md.up (Md.up hM rfl) rfl, j4, ⟨hs2, Or.inr (Or.inr (Or.inr ⟨c0, cL, cD, rfl, by rw [if_neg (show ¬ bt A s = 59 from k1), if_neg (show ¬ bt A s = 45 from k2)]⟩))⟩, rfl, ?_, hz, fun h9 => absurd h9 (by decide)⟩
            show (J 2).toInt = _
            rw [j2]; exact hy2
  · have e2 : fX10_byteAt J A y = -1 := x_byteE (by rw [j0]; omega)
    rw [e2, if_neg (by decide)]
    refine ⟨_, s, s, 0, rfl, Md.up (Md.up hM rfl) rfl, j4, ⟨hs2, Or.inl ⟨c0, rfl, rfl⟩⟩, rfl, ?_, hy2, fun h9 => absurd h9 (by decide)⟩
    show (J 2).toInt = _
    rw [j2]; exact hy2
