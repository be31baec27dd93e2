section
theorem upd_at {α : Type} {f : Nat → Int32} {k : Nat} {v : Int32} : upd f k v k = v := by show (if k = k then v else f k) = v; rw [if_pos rfl]
theorem upd_ne {f : Nat → Int32} {k j : Nat} {v : Int32} (h : j ≠ k) : upd f k v j = f j := by show (if j = k then v else f j) = f j; rw [if_neg h]
theorem upd_upd {f : Nat → Int32} {k : Nat} {v w : Int32} : upd (upd f k v) k w = upd f k w := by
  funext j
  show (if j = k then w else (if j = k then v else f j)) = (if j = k then w else f j)
  by_cases h : j = k
  · rw [if_pos h, if_pos h]
  · rw [if_neg h, if_neg h, if_neg h]
theorem upd_comm {f : Nat → Int32} {k j : Nat} {v w : Int32} (h : k ≠ j) : upd (upd f k v) j w = upd (upd f j w) k v := by
  funext i
  show (if i = j then w else (if i = k then v else f i)) = (if i = k then v else (if i = j then w else f i))
  by_cases h1 : i = j
  · rw [if_pos h1, if_pos h1, if_neg (by omega)]
  · rw [if_neg h1, if_neg h1]
def isB (c : Int) : Prop := c = 9 ∨ c = 10 ∨ c = 13 ∨ c = 32
def isL (c : Int) : Prop := 97 ≤ c ∧ c ≤ 122
def isD (c : Int) : Prop := 48 ≤ c ∧ c ≤ 57
def Rn (P : Int → Prop) (f : Nat → Int) (n p q : Nat) : Prop := p ≤ q ∧ (∀ j, p ≤ j → j < q → j < n ∧ P (f j)) ∧ ¬ (q < n ∧ P (f q))
theorem Rn.uniq {P : Int → Prop} {f : Nat → Int} {n p q r : Nat} (h : Rn P f n p q) (h2 : Rn P f n p r) : q = r := by
  rcases Nat.lt_trichotomy q r with h3 | h3 | h3
  · exact absurd (h2.2.1 q h.1 h3) h.2.2
  · exact h3
  · exact absurd (h.2.1 r h2.1 h3) h2.2.2
theorem Rn.le {P : Int → Prop} {f : Nat → Int} {n p q : Nat} (h : Rn P f n p q) (hp : p ≤ n) : q ≤ n := by
  rcases Nat.lt_or_ge n q with h3 | h3
  · have := (h.2.1 n hp h3).1; omega
  · exact h3
theorem Rn.stop {P : Int → Prop} {f : Nat → Int} {n p : Nat} (h : ¬ (p < n ∧ P (f p))) : Rn P f n p p := ⟨Nat.le_refl _, fun j h1 h2 => by omega, h⟩
theorem Rn.step {P : Int → Prop} {f : Nat → Int} {n p q : Nat} (h0 : p < n ∧ P (f p)) (h : Rn P f n (p + 1) q) : Rn P f n p q := by
  refine ⟨by have := h.1; omega, fun j h1 h2 => ?_, h.2.2⟩
  by_cases e : j = p
  · rw [e]; exact h0
  · exact h.2.1 j (by omega) h2
/-- the class's bytes -/
def bt (A : Nat → Nat → Int32) : Nat → Int := fun j => (A 0 j).toInt
theorem x_byte {I : Nat → Int32} {A : Nat → Nat → Int32} {z : Int32} (h0 : 0 ≤ z.toInt) (h1 : z.toInt < (I 0).toInt) : fX10_byteAt I A z = A 0 z.toNatClampNeg := by
  unfold fX10_byteAt
  rw [if_neg (by omega), if_neg (by omega)]
theorem x_byteE {I : Nat → Int32} {A : Nat → Nat → Int32} {z : Int32} (h1 : (I 0).toInt ≤ z.toInt) : fX10_byteAt I A z = -1 := by
  unfold fX10_byteAt
  by_cases h : z.toInt < 0
  · rw [if_pos h]
  · rw [if_neg h, if_pos h1]
theorem x_isL {I : Nat → Int32} {A : Nat → Nat → Int32} {z : Int32} : fX10_isLetter I A z = if 97 ≤ z.toInt ∧ z.toInt ≤ 122 then 1 else 0 := by
  unfold fX10_isLetter
  by_cases h : z.toInt < 97
  · rw [if_pos h, if_neg (by omega)]
  · rw [if_neg h]
    by_cases h2 : 122 < z.toInt
    · rw [if_pos h2, if_neg (by omega)]
    · rw [if_neg h2, if_pos (by omega)]
theorem x_isD {I : Nat → Int32} {A : Nat → Nat → Int32} {z : Int32} : fX10_isDigit I A z = if 48 ≤ z.toInt ∧ z.toInt ≤ 57 then 1 else 0 := by
  unfold fX10_isDigit
  by_cases h : z.toInt < 48
  · rw [if_pos h, if_neg (by omega)]
  · rw [if_neg h]
    by_cases h2 : 57 < z.toInt
    · rw [if_pos h2, if_neg (by omega)]
    · rw [if_neg h2, if_pos (by omega)]
theorem i32_inc {x : Int32} (h : x.toInt < 2147483647) : (x + 1).toInt = x.toInt + 1 := i32_add (y := 1) (b := 1) rfl rfl (by decide) (by have := Int32.le_toInt x; omega) (by omega)
theorem clN {x : Int32} {k : Nat} (h : x.toInt = (k : Int)) : x.toNatClampNeg = k := cl_nat h
/-- blanks -/
theorem x_blanks {I : Nat → Int32} {A : Nat → Nat → Int32} {n : Nat} (hn : (I 0).toInt = (n : Int)) (hn2 : n ≤ 2000) : ∀ (m : Nat) (x : Int32) (p : Nat), x.toInt = (p : Int) → p ≤ n → n - p < m → ∃ q : Nat, (itr_i (0 : Int32) (bX10_behindBlanks_2 I A) m x).toInt = (q : Int) ∧ Rn isB (bt A) n p q := by
  intro m
  induction m with
  | zero => intro x p _ _ h; omega
  | succ m ih =>
    intro x p hx hp hm
    show ∃ q : Nat, (bX10_behindBlanks_2 I A (itr_i (0 : Int32) (bX10_behindBlanks_2 I A) m) x).toInt = (q : Int) ∧ Rn isB (bt A) n p q
    obtain ⟨K, hK⟩ : ∃ K, K = itr_i (0 : Int32) (bX10_behindBlanks_2 I A) m := ⟨_, rfl⟩
    rw [← hK] at ih ⊢
    dsimp only [bX10_behindBlanks_2, f_lt]
    by_cases h : (I 0).toInt ≤ x.toInt
    · rw [if_pos h]
      exact ⟨p, by omega, Rn.stop (by omega)⟩
    · rw [if_neg h]
      rw [x_byte (by omega) (by omega), clN hx]
      have hi : (x + 1).toInt = ((p + 1 : Nat) : Int) := by rw [i32_inc (by omega)]; omega
      have step : isB (bt A p) → ∃ q : Nat, (K (x + 1)).toInt = (q : Int) ∧ Rn isB (bt A) n p q := fun hb => by
        obtain ⟨q, h1, h2⟩ := ih (x + 1) (p + 1) hi (by omega) (by omega)
        exact ⟨q, h1, Rn.step ⟨by omega, hb⟩ h2⟩
      by_cases c1 : (A 0 p).toInt = 9
      · rw [if_pos c1]; exact step (Or.inl c1)
      · rw [if_neg c1]
        by_cases c2 : (A 0 p).toInt = 10
        · rw [if_pos c2]; exact step (Or.inr (Or.inl c2))
        · rw [if_neg c2]
          by_cases c3 : (A 0 p).toInt = 13
          · rw [if_pos c3]; exact step (Or.inr (Or.inr (Or.inl c3)))
          · rw [if_neg c3]
            by_cases c4 : (A 0 p).toInt = 32
            · rw [if_pos c4]; exact step (Or.inr (Or.inr (Or.inr c4)))
            · rw [if_neg c4]
              refine ⟨p, hx, Rn.stop (fun h9 => ?_)⟩
              rcases h9.2 with h9 | h9 | h9 | h9
              · exact c1 h9
              · exact c2 h9
              · exact c3 h9
              · exact c4 h9
/-- letters -/
theorem x_letters {I : Nat → Int32} {A : Nat → Nat → Int32} {n s : Nat} (hn : (I 0).toInt = (n : Int)) (hn2 : n ≤ 2000) (hs : (I 2).toInt = (s : Int)) : ∀ (m : Nat) (x : Int32) (p : Nat), x.toInt = (p : Int) → s ≤ p → p ≤ n → n - p < m → ∃ (q : Nat) (y : Int32), y.toInt = (q : Int) ∧ Rn isL (bt A) n p q ∧ itr_i dfX (bX10_takeLetters_5 I A) m x = (0, upd (upd I 5 y) 1 (if 8 < q - s then 5 else 1), A) := by
  intro m
  induction m with
  | zero => intro x p _ _ _ h; omega
  | succ m ih =>
    intro x p hx hsp hp hm
    show ∃ (q : Nat) (y : Int32), y.toInt = (q : Int) ∧ Rn isL (bt A) n p q ∧ bX10_takeLetters_5 I A (itr_i dfX (bX10_takeLetters_5 I A) m) x = (0, upd (upd I 5 y) 1 (if 8 < q - s then 5 else 1), A)
    have hd : (x - I 2).toInt = x.toInt - (I 2).toInt := i32_sub rfl rfl rfl (by omega) (by omega)
    have fin : ¬ (p < n ∧ isL (bt A p)) → ∃ (q : Nat) (y : Int32), y.toInt = (q : Int) ∧ Rn isL (bt A) n p q ∧ (if 8 < (x - I 2).toInt then ((0 : Int32), upd (upd I 5 x) 1 5, A) else (0, upd (upd I 5 x) 1 1, A)) = (0, upd (upd I 5 y) 1 (if 8 < q - s then 5 else 1), A) := fun hs2 => by
      refine ⟨p, x, hx, Rn.stop hs2, ?_⟩
      by_cases c : 8 < (x - I 2).toInt
      · rw [if_pos c, if_pos (by omega)]
      · rw [if_neg c, if_neg (by omega)]
    obtain ⟨K, hK⟩ : ∃ K, K = itr_i dfX (bX10_takeLetters_5 I A) m := ⟨_, rfl⟩
    rw [← hK] at ih ⊢
    dsimp only [bX10_takeLetters_5, f_lt]
    by_cases h : (I 0).toInt ≤ x.toInt
    · rw [if_pos h]
      exact fin (by omega)
    · rw [if_neg h, x_byte (by omega) (by omega), clN hx]
      rw [x_isL]
      by_cases c : 97 ≤ (A 0 p).toInt ∧ (A 0 p).toInt ≤ 122
      · rw [if_pos c, if_neg (by decide)]
        obtain ⟨q, y, h1, h2, h3⟩ := ih (x + 1) (p + 1) (by rw [i32_inc (by omega)]; omega) (by omega) (by omega) (by omega)
        exact ⟨q, y, h1, Rn.step ⟨by omega, c⟩ h2, h3⟩
      · rw [if_neg c, if_pos rfl]
        exact fin (fun h9 => c h9.2)
/-- digits -/
def dec (f : Nat → Int) (s : Nat) : Nat → Int
  | 0 => 0
  | k + 1 => 10 * dec f s k + (f (s + k) - 48)
theorem dec_lt {f : Nat → Int} {s : Nat} : ∀ k : Nat, (∀ j, s ≤ j → j < s + k → isD (f j)) → k ≤ 4 → 0 ≤ dec f s k ∧ dec f s k < 10 ^ k := by
  intro k
  induction k with
  | zero => intro _ _; exact ⟨Int.le_refl 0, (show (0 : Int) < 1 from by decide)⟩
  | succ k ih =>
    intro h hk
    have h1 := ih (fun j a b => h j a (by omega)) (by omega)
    have h2 : isD (f (s + k)) := h (s + k) (by omega) (by omega)
    unfold isD at h2
    show 0 ≤ 10 * dec f s k + (f (s + k) - 48) ∧ 10 * dec f s k + (f (s + k) - 48) < 10 ^ (k + 1)
    rw [Int.pow_succ]
    generalize (10 : Int) ^ k = t at h1
    omega
theorem x_digits {I : Nat → Int32} {A : Nat → Nat → Int32} {n s : Nat} (hn : (I 0).toInt = (n : Int)) (hn2 : n ≤ 2000) (hs : (I 2).toInt = (s : Int)) : ∀ (m : Nat) (x v : Int32) (p : Nat), x.toInt = (p : Int) → s ≤ p → p ≤ n → n - p < m → (∀ j, s ≤ j → j < p → isD (bt A j)) → (p - s ≤ 4 → v.toInt = dec (bt A) s (p - s)) → ∃ (q : Nat) (y w : Int32), y.toInt = (q : Int) ∧ Rn isD (bt A) n p q ∧ (q - s ≤ 4 → w.toInt = dec (bt A) s (q - s)) ∧ itr_iIA dfX (bX10_takeDigits_5 I) m x (upd I 3 v) A = (0, upd (upd (upd I 3 w) 5 y) 1 (if 4 < q - s then 5 else 2), A) := by
  intro m
  induction m with
  | zero => intro x v p _ _ _ h; omega
  | succ m ih =>
    intro x v p hx hsp hp hm hD hv
    show ∃ (q : Nat) (y w : Int32), y.toInt = (q : Int) ∧ Rn isD (bt A) n p q ∧ (q - s ≤ 4 → w.toInt = dec (bt A) s (q - s)) ∧ bX10_takeDigits_5 I (itr_iIA dfX (bX10_takeDigits_5 I) m) x (upd I 3 v) A = (0, upd (upd (upd I 3 w) 5 y) 1 (if 4 < q - s then 5 else 2), A)
    obtain ⟨K, hK⟩ : ∃ K, K = itr_iIA dfX (bX10_takeDigits_5 I) m := ⟨_, rfl⟩
    rw [← hK] at ih ⊢
    have hd : (x - I 2).toInt = x.toInt - (I 2).toInt := i32_sub rfl rfl rfl (by omega) (by omega)
    have fin : ¬ (p < n ∧ isD (bt A p)) → ∃ (q : Nat) (y w : Int32), y.toInt = (q : Int) ∧ Rn isD (bt A) n p q ∧ (q - s ≤ 4 → w.toInt = dec (bt A) s (q - s)) ∧ (if 4 < (x - I 2).toInt then ((0 : Int32), upd (upd (upd I 3 v) 5 x) 1 5, A) else (0, upd (upd (upd I 3 v) 5 x) 1 2, A)) = (0, upd (upd (upd I 3 w) 5 y) 1 (if 4 < q - s then 5 else 2), A) := fun hs2 => by
      refine ⟨p, x, v, hx, Rn.stop hs2, hv, ?_⟩
      by_cases c : 4 < (x - I 2).toInt
      · rw [if_pos c, if_pos (by omega)]
      · rw [if_neg c, if_neg (by omega)]
    dsimp only [bX10_takeDigits_5, f_lt]
    have e0 : upd I 3 v 0 = I 0 := upd_ne (by decide)
    by_cases h : (I 0).toInt ≤ x.toInt
    · rw [if_pos h]
      exact fin (by omega)
    · rw [if_neg h, x_byte (I := upd I 3 v) (by omega) (by rw [e0]; omega), clN hx, x_isD]
      by_cases c : 48 ≤ (A 0 p).toInt ∧ (A 0 p).toInt ≤ 57
      · rw [if_pos c, if_neg (by decide), upd_upd, show upd I 3 v 3 = v from upd_at (α := Nat)]
        have hb : ∀ j, s ≤ j → j < p + 1 → isD (bt A j) := fun j a b => by
          by_cases e : j = p
          · rw [e]; exact c
          · exact hD j a (by omega)
        obtain ⟨q, y, w, h1, h2, h3, h4⟩ := ih (x + 1) (v * 10 + A 0 p - 48) (p + 1) (by rw [i32_inc (by omega)]; omega) (by omega) (by omega) (by omega) hb (fun h9 => by
          have g1 := hv (by omega)
          have g2 := dec_lt (f := bt A) (s := s) (p - s) (fun j a b => hD j a (by omega)) (by omega)
          have g3 : dec (bt A) s (p - s) < 1000 := by
            have : p - s = 0 ∨ p - s = 1 ∨ p - s = 2 ∨ p - s = 3 := by omega
            rcases this with e | e | e | e <;> rw [e] at g2 ⊢ <;> omega
          have g4 : (v * 10).toInt = v.toInt * 10 := i32_mul rfl rfl rfl (by omega) (by omega)
          have g5 : (v * 10 + A 0 p).toInt = v.toInt * 10 + (A 0 p).toInt := i32_add rfl g4 rfl (by omega) (by omega)
          have g6 : (v * 10 + A 0 p - 48).toInt = v.toInt * 10 + (A 0 p).toInt - 48 := i32_sub rfl g5 rfl (by omega) (by omega)
          rw [g6, show p + 1 - s = (p - s) + 1 by omega]
          show v.toInt * 10 + (A 0 p).toInt - 48 = 10 * dec (bt A) s (p - s) + (bt A (s + (p - s)) - 48)
          rw [show s + (p - s) = p by omega]
          show v.toInt * 10 + (A 0 p).toInt - 48 = 10 * dec (bt A) s (p - s) + ((A 0 p).toInt - 48)
          omega)
        exact ⟨q, y, w, h1, Rn.step ⟨by omega, c⟩ h2, h3, h4⟩
      · rw [if_neg c, if_pos rfl]
        exact fin (fun h9 => c h9.2)
end
section
/-- the TOKEN from p on: its kind (as the class has it), its first byte, the place behind it -/
def Tk (f : Nat → Int) (n p : Nat) (c : Int) (s e : Nat) : Prop := Rn isB f n p s ∧
  ((¬ s < n ∧ c = 0 ∧ e = s) ∨ (s < n ∧ isL (f s) ∧ Rn isL f n s e ∧ c = if 8 < e - s then 5 else 1) ∨ (s < n ∧ isD (f s) ∧ Rn isD f n s e ∧ c = if 4 < e - s then 5 else 2) ∨ (s < n ∧ ¬ isL (f s) ∧ ¬ isD (f s) ∧ e = s + 1 ∧ c = if f s = 59 then 3 else if f s = 45 then 4 else 5))
theorem Tk.uniq {f : Nat → Int} {n p s e s2 e2 : Nat} {c c2 : Int} (h : Tk f n p c s e) (h2 : Tk f n p c2 s2 e2) : c = c2 ∧ s = s2 ∧ e = e2 := by
  have es := Rn.uniq h.1 h2.1
  subst es
  have hx : isL (f s) → isD (f s) → False := fun a b => by unfold isL isD at *; omega
  rcases h.2 with ⟨a1, a2, a3⟩ | ⟨a1, a2, a3, a4⟩ | ⟨a1, a2, a3, a4⟩ | ⟨a1, a2, a3, a4, a5⟩
  · rcases h2.2 with ⟨b1, b2, b3⟩ | ⟨b1, b2, b3, b4⟩ | ⟨b1, b2, b3, b4⟩ | ⟨b1, b2, b3, b4, b5⟩
    · exact ⟨by omega, rfl, by omega⟩
    · exact absurd b1 a1
    · exact absurd b1 a1
    · exact absurd b1 a1
  · rcases h2.2 with ⟨b1, b2, b3⟩ | ⟨b1, b2, b3, b4⟩ | ⟨b1, b2, b3, b4⟩ | ⟨b1, b2, b3, b4, b5⟩
    · exact absurd a1 b1
    · have e9 := Rn.uniq a3 b3
      subst e9
      exact ⟨a4.trans b4.symm, rfl, rfl⟩
    · exact (hx a2 b2).elim
    · exact absurd a2 b2
  · rcases h2.2 with ⟨b1, b2, b3⟩ | ⟨b1, b2, b3, b4⟩ | ⟨b1, b2, b3, b4⟩ | ⟨b1, b2, b3, b4, b5⟩
    · exact absurd a1 b1
    · exact (hx b2 a2).elim
    · have e9 := Rn.uniq a3 b3
      subst e9
      exact ⟨a4.trans b4.symm, rfl, rfl⟩
    · exact absurd a2 b3
  · rcases h2.2 with ⟨b1, b2, b3⟩ | ⟨b1, b2, b3, b4⟩ | ⟨b1, b2, b3, b4⟩ | ⟨b1, b2, b3, b4, b5⟩
    · exact absurd a1 b1
    · exact absurd b2 a2
    · exact absurd b2 a3
    · exact ⟨a5.trans b5.symm, rfl, by omega⟩
theorem Tk.le {f : Nat → Int} {n p s e : Nat} {c : Int} (h : Tk f n p c s e) (hp : p ≤ n) : s ≤ n ∧ e ≤ n ∧ p ≤ s ∧ s ≤ e ∧ (s < n → s < e) ∧ (c = 0 ↔ ¬ s < n) := by
  have h1 := h.1.le hp
  have h0 := h.1.1
  rcases h.2 with ⟨a1, a2, a3⟩ | ⟨a1, a2, a3, a4⟩ | ⟨a1, a2, a3, a4⟩ | ⟨a1, a2, a3, a4, a5⟩
  · exact ⟨by omega, by omega, by omega, by omega, by omega, by omega⟩
  · have := a3.le h1
    have h2 := a3.1
    have h3 : s < e := by
      rcases Nat.lt_or_ge s e with h4 | h4
      · exact h4
      · have : e = s := by omega
        subst this
        exact absurd ⟨a1, a2⟩ a3.2.2
    have h5 : c = 5 ∨ c = 1 := by rw [a4]; by_cases h9 : 8 < e - s <;> simp [h9]
    exact ⟨by omega, by omega, by omega, by omega, by omega, by omega⟩
  · have := a3.le h1
    have h2 := a3.1
    have h3 : s < e := by
      rcases Nat.lt_or_ge s e with h4 | h4
      · exact h4
      · have : e = s := by omega
        subst this
        exact absurd ⟨a1, a2⟩ a3.2.2
    have h5 : c = 5 ∨ c = 2 := by rw [a4]; by_cases h9 : 4 < e - s <;> simp [h9]
    exact ⟨by omega, by omega, by omega, by omega, by omega, by omega⟩
  · have h5 : c = 3 ∨ c = 4 ∨ c = 5 := by
      rw [a5]
      by_cases h9 : f s = 59
      · simp [h9]
      · by_cases h8 : f s = 45
        · simp [h8]
        · simp [h9, h8]
    exact ⟨by omega, by omega, by omega, by omega, by omega, by omega⟩
/-- the class's TOKEN at hand: it was looked for from p on -/
def TX (I : Nat → Int32) (A : Nat → Nat → Int32) (n p s e : Nat) (c : Int) : Prop := Tk (bt A) n p c s e ∧ (I 1).toInt = c ∧ (I 2).toInt = (s : Int) ∧ (I 5).toInt = (e : Int) ∧ (c = 2 → (I 3).toInt = dec (bt A) s (e - s))
theorem x_next {I : Nat → Int32} {A : Nat → Nat → Int32} {n p : Nat} (hn : (I 0).toInt = (n : Int)) (hn2 : n ≤ 2000) (hb : ∀ j, j < n → 0 ≤ (A 0 j).toInt) (h5 : (I 5).toInt = (p : Int)) (hp : p ≤ n) : ∃ (I' : Nat → Int32) (s e : Nat) (c : Int), fX10_toNextToken I A = (0, I', A) ∧ Md [1, 2, 3, 4, 5] I I' ∧ I' 4 = I 4 + 1 ∧ TX I' A n p s e c := by
  obtain ⟨s, hs1, hs2⟩ := x_blanks (A := A) hn hn2 FU (I 5) p h5 hp (by have := FU_eq; omega)
  have hs3 := hs2.le hp
  obtain ⟨y, hy⟩ : ∃ y, y = fX10_behindBlanks I A (I 5) := ⟨_, rfl⟩
  have hy2 : y.toInt = (s : Int) := by rw [hy]; exact hs1
  obtain ⟨J, hJ⟩ : ∃ J, J = upd (upd (upd I 2 y) 4 (I 4 + 1)) 3 0 := ⟨_, rfl⟩
  have j0 : J 0 = I 0 := by rw [hJ]; rfl
  have j2 : J 2 = y := by rw [hJ]; rfl
  have j3 : J 3 = 0 := by rw [hJ]; rfl
  have j4 : J 4 = I 4 + 1 := by rw [hJ]; rfl
  have hM : Md [1, 2, 3, 4, 5] I J := by rw [hJ]; exact Md.up (Md.up (Md.up Md.rf rfl) rfl) rfl
  have e1 : fX10_toNextToken I A = (if 0 ≤ (fX10_byteAt J A y).toInt then if fX10_isLetter J A (fX10_byteAt J A y) = 0 then if fX10_isDigit J A (fX10_byteAt J A y) = 0 then if (fX10_byteAt J A y).toInt ≠ 59 then if (fX10_byteAt J A y).toInt ≠ 45 then (0, upd (upd J 5 (y + 1)) 1 5, A) else (0, upd (upd J 5 (y + 1)) 1 4, A) else (0, upd (upd J 5 (y + 1)) 1 3, A) else f_bdX (fX10_takeDigits J A) fun _ I2 A2 => (0, I2, A2) else f_bdX (fX10_takeLetters J A) fun _ I2 A2 => (0, I2, A2) else (0, upd (upd J 1 0) 5 y, A)) := by
    rw [hJ, hy]; rfl
  rw [e1]
  by_cases c0 : s < n
  · have e2 : fX10_byteAt J A y = A 0 s := by rw [x_byte (by omega) (by rw [j0]; omega), clN hy2]
    rw [e2, if_pos (hb s c0), x_isL, x_isD]
    by_cases cL : 97 ≤ (A 0 s).toInt ∧ (A 0 s).toInt ≤ 122
    · rw [if_pos cL, if_neg (by decide)]
      obtain ⟨e, z, h1, h2, h3⟩ := x_letters (I := J) (A := A) (n := n) (s := s) (by rw [j0]; exact hn) hn2 (by rw [j2]; exact hy2) FU (J 2) s (by rw [j2]; exact hy2) (Nat.le_refl _) hs3 (by have := FU_eq; omega)
      have h4 : fX10_takeLetters J A = _ := h3
      rw [h4]
      refine ⟨upd (upd J 5 z) 1 (if 8 < e - s then 5 else 1), s, e, if 8 < e - s then 5 else 1, rfl, Md.up (Md.up hM rfl) rfl, j4, ⟨hs2, Or.inr (Or.inl ⟨c0, cL, h2, rfl⟩)⟩, ?_, ?_, h1, ?_⟩
      · show (if 8 < e - s then (5 : Int32) else 1).toInt = _
        by_cases c9 : 8 < e - s
        · rw [if_pos c9, if_pos c9]; rfl
        · rw [if_neg c9, if_neg c9]; rfl
      · show (J 2).toInt = _
        rw [j2]; exact hy2
      · intro h9
        by_cases c9 : 8 < e - s
        · rw [if_pos c9] at h9; omega
        · rw [if_neg c9] at h9; omega
    · rw [if_neg cL, if_pos rfl]
      by_cases cD : 48 ≤ (A 0 s).toInt ∧ (A 0 s).toInt ≤ 57
      · rw [if_pos cD, if_neg (by decide)]
        obtain ⟨e, z, w, h1, h2, h6, h3⟩ := x_digits (I := J) (A := A) (n := n) (s := s) (by rw [j0]; exact hn) hn2 (by rw [j2]; exact hy2) FU (J 2) (J 3) s (by rw [j2]; exact hy2) (Nat.le_refl _) hs3 (by have := FU_eq; omega) (fun j a b => by omega) (fun _ => by rw [j3, Nat.sub_self]; rfl)
        have h4 : fX10_takeDigits J A = (0, upd (upd (upd J 3 w) 5 z) 1 (if 4 < e - s then 5 else 2), A) := by
          rw [← h3]
          show itr_iIA dfX (bX10_takeDigits_5 J) FU (J 2) J A = _
          rw [show upd J 3 (J 3) = J from upd_same rfl]
        rw [h4]
        refine ⟨upd (upd (upd J 3 w) 5 z) 1 (if 4 < e - s then 5 else 2), s, e, if 4 < e - s then 5 else 2, rfl, Md.up (Md.up (Md.up hM rfl) rfl) rfl, j4, ⟨hs2, Or.inr (Or.inr (Or.inl ⟨c0, cD, h2, rfl⟩))⟩, ?_, ?_, h1, ?_⟩
        · show (if 4 < e - s then (5 : Int32) else 2).toInt = _
          by_cases c9 : 4 < e - s
          · rw [if_pos c9, if_pos c9]; rfl
          · rw [if_neg c9, if_neg c9]; rfl
        · show (J 2).toInt = _
          rw [j2]; exact hy2
        · intro h9
          by_cases c9 : 4 < e - s
          · rw [if_pos c9] at h9; omega
          · exact h6 (by omega)
      · rw [if_neg cD, if_pos rfl]
        have hz : (y + 1).toInt = ((s + 1 : Nat) : Int) := by rw [i32_inc (by omega)]; omega
        by_cases k1 : (A 0 s).toInt = 59
        · rw [if_neg (fun h9 => h9 k1)]
          refine ⟨_, s, s + 1, 3, rfl, Md.up (Md.up hM rfl) rfl, j4, ⟨hs2, Or.inr (Or.inr (Or.inr ⟨c0, cL, cD, rfl, by rw [if_pos (show bt A s = 59 from k1)]⟩))⟩, rfl, ?_, hz, fun h9 => absurd h9 (by decide)⟩
          show (J 2).toInt = _
          rw [j2]; exact hy2
        · rw [if_pos k1]
          by_cases k2 : (A 0 s).toInt = 45
          · rw [if_neg (fun h9 => h9 k2)]
            refine ⟨_, s, s + 1, 4, rfl, Md.up (Md.up hM rfl) rfl, j4, ⟨hs2, Or.inr (Or.inr (Or.inr ⟨c0, cL, cD, rfl, by rw [if_neg (show ¬ bt A s = 59 from k1), if_pos (show bt A s = 45 from k2)]⟩))⟩, rfl, ?_, hz, fun h9 => absurd h9 (by decide)⟩
            show (J 2).toInt = _
            rw [j2]; exact hy2
          · rw [if_pos k2]
            refine ⟨_, s, s + 1, 5, rfl, Md.up (Md.up hM rfl) rfl, j4, ⟨hs2, Or.inr (Or.inr (Or.inr ⟨c0, cL, cD, rfl, by rw [if_neg (show ¬ bt A s = 59 from k1), if_neg (show ¬ bt A s = 45 from k2)]⟩))⟩, rfl, ?_, hz, fun h9 => absurd h9 (by decide)⟩
            show (J 2).toInt = _
            rw [j2]; exact hy2
  · have e2 : fX10_byteAt J A y = -1 := x_byteE (by rw [j0]; omega)
    rw [e2, if_neg (by decide)]
    refine ⟨_, s, s, 0, rfl, Md.up (Md.up hM rfl) rfl, j4, ⟨hs2, Or.inl ⟨c0, rfl, rfl⟩⟩, rfl, ?_, hy2, fun h9 => absurd h9 (by decide)⟩
    show (J 2).toInt = _
    rw [j2]; exact hy2
end
section
theorem i64_add {x y z : Int64} {a b : Int} (e : z = x + y) (hx : x.toInt = a) (hy : y.toInt = b) (h1 : -9223372036854775808 ≤ a + b) (h2 : a + b < 9223372036854775808) : z.toInt = a + b := by
  rw [e, Int64.toInt_add, hx, hy]
  exact Int.bmod_eq_of_le (by omega) (by omega)
theorem i64_mul {x y z : Int64} {a b : Int} (e : z = x * y) (hx : x.toInt = a) (hy : y.toInt = b) (h1 : -9223372036854775808 ≤ a * b) (h2 : a * b < 9223372036854775808) : z.toInt = a * b := by
  rw [e, Int64.toInt_mul, hx, hy]
  exact Int.bmod_eq_of_le (by omega) (by omega)
theorem lcmp_0 {x y : Int64} : (lg_cmp x y).toInt = 0 ↔ x = y := by
  unfold lg_cmp
  by_cases h : x > y
  · rw [if_pos h]
    constructor
    · intro h9; exact absurd h9 (by decide)
    · intro h9
      rw [h9] at h
      exact absurd h (by show ¬ (y < y); rw [Int64.lt_iff_toInt_lt]; omega)
  · rw [if_neg h]
    by_cases h2 : x = y
    · rw [if_pos h2]; exact ⟨fun _ => h2, fun _ => rfl⟩
    · rw [if_neg h2]; exact ⟨fun h9 => absurd h9 (by decide), fun h9 => absurd h9 h2⟩
theorem Md.up3L {S : List Nat} {I J : Nat → Nat → Int64} {a j : Nat} {v : Int64} (h : Md S I J) (ha : S.contains a = true) : Md S I (up3L J a j v) := by
  intro k hk
  by_cases e : k = a
  · rw [e] at hk; rw [hk] at ha; cases ha
  · show (if k = a then vp_updL (J a) j v else J k) = I k
    rw [if_neg e]; exact h k hk
theorem up3L_at {A : Nat → Nat → Int64} {a i p : Nat} {v : Int64} (h : p = i) : up3L A a i v a p = v := by
  show (if a = a then vp_updL (A a) i v else A a) p = _
  rw [if_pos rfl]
  unfold vp_updL
  rw [if_pos h]
theorem up3L_ne {A : Nat → Nat → Int64} {a i p : Nat} {v : Int64} (h : p ≠ i) : up3L A a i v a p = A a p := by
  show (if a = a then vp_updL (A a) i v else A a) p = _
  rw [if_pos rfl]
  unfold vp_updL
  rw [if_neg h]
theorem up3_o {A : Nat → Nat → Int32} {a b i : Nat} {v : Int32} (h : b ≠ a) : up3 A a i v b = A b := by
  show (if b = a then upd (A a) i v else A b) = _
  rw [if_neg h]
theorem m_isL {I : Nat → Int32} {A : Nat → Nat → Int32} {L : Nat → Nat → Int64} {z : Int32} : fM12_isLetter I A L z = if 97 ≤ z.toInt ∧ z.toInt ≤ 122 then 1 else 0 := by
  unfold fM12_isLetter
  by_cases h : z.toInt < 97
  · rw [if_pos h, if_neg (by omega)]
  · rw [if_neg h]
    by_cases h2 : 122 < z.toInt
    · rw [if_pos h2, if_neg (by omega)]
    · rw [if_neg h2, if_pos (by omega)]
theorem m_isD {I : Nat → Int32} {A : Nat → Nat → Int32} {L : Nat → Nat → Int64} {z : Int32} : fM12_isDigit I A L z = if 48 ≤ z.toInt ∧ z.toInt ≤ 57 then 1 else 0 := by
  unfold fM12_isDigit
  by_cases h : z.toInt < 48
  · rw [if_pos h, if_neg (by omega)]
  · rw [if_neg h]
    by_cases h2 : 57 < z.toInt
    · rw [if_pos h2, if_neg (by omega)]
    · rw [if_neg h2, if_pos (by omega)]
theorem m_byte {I : Nat → Int32} {A : Nat → Nat → Int32} {L : Nat → Nat → Int64} {z : Int32} (h1 : z.toInt < (I 2).toInt) : fM12_byteAt I A L z = (A 1 z.toNatClampNeg &&& 255, 1) := by
  unfold fM12_byteAt
  rw [if_neg (by omega)]
  rfl
theorem m_byteE {I : Nat → Int32} {A : Nat → Nat → Int32} {L : Nat → Nat → Int64} {z : Int32} (h1 : (I 2).toInt ≤ z.toInt) : fM12_byteAt I A L z = (0, 0) := by
  unfold fM12_byteAt
  rw [if_pos h1]
/-- the reference's digits -/
theorem m_digits {J : Nat → Int32} {B : Nat → Nat → Int32} {L : Nat → Nat → Int64} {f : Nat → Int} {n s : Nat} (hn : (J 2).toInt = (n : Int)) (hn2 : n ≤ 2000) (hf : ∀ j, j < n → (B 1 j &&& 255).toInt = f j) {x : Int32} (hx : x.toInt = (s : Int)) (kk : Int32 → (Nat → Int32) → (Nat → Nat → Int32) → (Nat → Nat → Int64) → (Int32 × (Nat → Int32) × (Nat → Nat → Int32) × (Nat → Nat → Int64))) :
    ∀ (m : Nat) (v c : Int32) (k : Nat), c.toInt = (k : Int) → s + k ≤ n → n - (s + k) < m → (∀ j, s ≤ j → j < s + k → isD (f j)) → v.toInt = dec f s (min k 4) → ∃ (q : Nat) (w y : Int32), Rn isD f n (s + k) q ∧ w.toInt = dec f s (min (q - s) 4) ∧ y.toInt = (q : Int) ∧ itr_ii dfM (bM12_cut_208 x J B L kk) m v c = f_bdM (fM12_token J B L (if 4 < q - s then 3 else 2) x w 0) (fun _ I A L => kk y I A L) := by
  intro m
  induction m with
  | zero => intro v c k _ _ h; omega
  | succ m ih =>
    intro v c k hc hk hm hD hv
    show ∃ (q : Nat) (w y : Int32), Rn isD f n (s + k) q ∧ w.toInt = dec f s (min (q - s) 4) ∧ y.toInt = (q : Int) ∧ bM12_cut_208 x J B L kk (itr_ii dfM (bM12_cut_208 x J B L kk) m) v c = f_bdM (fM12_token J B L (if 4 < q - s then 3 else 2) x w 0) (fun _ I A L => kk y I A L)
    obtain ⟨K, hK⟩ : ∃ K, K = itr_ii dfM (bM12_cut_208 x J B L kk) m := ⟨_, rfl⟩
    rw [← hK] at ih ⊢
    have hxc : (x + c).toInt = ((s + k : Nat) : Int) := by rw [i32_add rfl hx hc (by omega) (by omega)]; omega
    have fin : ¬ (s + k < n ∧ isD (f (s + k))) → ∃ (q : Nat) (w y : Int32), Rn isD f n (s + k) q ∧ w.toInt = dec f s (min (q - s) 4) ∧ y.toInt = (q : Int) ∧ (if c.toInt ≤ 4 then f_bdM (fM12_token J B L 2 x v 0) (fun _ I A L => kk (x + c) I A L) else f_bdM (fM12_token J B L 3 x v 0) (fun _ I A L => kk (x + c) I A L)) = f_bdM (fM12_token J B L (if 4 < q - s then 3 else 2) x w 0) (fun _ I A L => kk y I A L) := fun hs2 => by
      refine ⟨s + k, v, x + c, Rn.stop hs2, by rw [show s + k - s = k by omega]; exact hv, hxc, ?_⟩
      by_cases c9 : c.toInt ≤ 4
      · rw [if_pos c9, if_neg (by omega)]
      · rw [if_neg c9, if_pos (by omega)]
    unfold bM12_cut_208
    dsimp only [f_lt]
    by_cases h : n ≤ s + k
    · rw [m_byteE (I := J) (A := B) (L := L) (z := x + c) (by omega), if_pos rfl, m_isD, if_pos (by decide)]
      exact fin (by omega)
    · rw [m_byte (I := J) (A := B) (L := L) (z := x + c) (by omega), if_neg (show ¬ ((1 : Nat) = 0) by decide), clN hxc, m_isD]
      have hb := hf (s + k) (by omega)
      dsimp only
      by_cases cD : 48 ≤ (B 1 (s + k) &&& 255).toInt ∧ (B 1 (s + k) &&& 255).toInt ≤ 57
      · rw [if_pos cD, if_neg (by decide)]
        rw [hb] at cD
        have hb2 : ∀ j, s ≤ j → j < s + (k + 1) → isD (f j) := fun j a b => by
          by_cases e : j = s + k
          · rw [e]; exact cD
          · exact hD j a (by omega)
        have hc1 : (c + 1).toInt = ((k + 1 : Nat) : Int) := by rw [i32_inc (by omega)]; omega
        by_cases c4 : 4 ≤ c.toInt
        · rw [if_pos c4]
          obtain ⟨q, w, y, h1, h2, h3, h4⟩ := ih v (c + 1) (k + 1) hc1 (by omega) (by omega) hb2 (by rw [hv, show min k 4 = 4 by omega, show min (k + 1) 4 = 4 by omega])
          exact ⟨q, w, y, Rn.step ⟨by omega, cD⟩ h1, h2, h3, h4⟩
        · rw [if_neg c4, if_neg (show ¬ ((1 : Nat) = 0) by decide)]
          have g2 := dec_lt (f := f) (s := s) k (fun j a b => hD j a b) (by omega)
          have g3 : dec f s k < 1000 := by
            have : k = 0 ∨ k = 1 ∨ k = 2 ∨ k = 3 := by omega
            rcases this with e | e | e | e <;> rw [e] at g2 ⊢ <;> omega
          rw [show min k 4 = k by omega] at hv
          have g4 : (10 * v).toInt = 10 * v.toInt := i32_mul rfl rfl rfl (by omega) (by omega)
          have g5 : (10 * v + (B 1 (s + k) &&& 255)).toInt = 10 * v.toInt + f (s + k) := i32_add rfl g4 hb (by omega) (by omega)
          have g6 : (10 * v + (B 1 (s + k) &&& 255) - 48).toInt = 10 * v.toInt + f (s + k) - 48 := i32_sub rfl g5 rfl (by omega) (by omega)
          obtain ⟨q, w, y, h1, h2, h3, h4⟩ := ih (10 * v + (B 1 (s + k) &&& 255) - 48) (c + 1) (k + 1) hc1 (by omega) (by omega) hb2 (by
            rw [g6, show min (k + 1) 4 = k + 1 by omega]
            show 10 * v.toInt + f (s + k) - 48 = 10 * dec f s k + (f (s + k) - 48)
            omega)
          exact ⟨q, w, y, Rn.step ⟨by omega, cD⟩ h1, h2, h3, h4⟩
      · rw [if_neg cD, if_pos rfl]
        rw [hb] at cD
        exact fin (fun h9 => cD h9.2)
/-- names by 27 -/
def enc (f : Nat → Int) (s : Nat) : Nat → Int
  | 0 => 0
  | k + 1 => 27 * enc f s k + (f (s + k) - 96)
theorem enc_lt {f : Nat → Int} {s : Nat} : ∀ k : Nat, (∀ j, s ≤ j → j < s + k → isL (f j)) → 0 ≤ enc f s k ∧ enc f s k < 27 ^ k := by
  intro k
  induction k with
  | zero => intro _; exact ⟨Int.le_refl 0, (show (0 : Int) < 1 from by decide)⟩
  | succ k ih =>
    intro h
    have h1 := ih (fun j a b => h j a (by omega))
    have h2 : isL (f (s + k)) := h (s + k) (by omega) (by omega)
    unfold isL at h2
    show 0 ≤ 27 * enc f s k + (f (s + k) - 96) ∧ 27 * enc f s k + (f (s + k) - 96) < 27 ^ (k + 1)
    rw [Int.pow_succ]
    generalize (27 : Int) ^ k = t at h1
    omega
/-- which word a name is -/
def KW (L : Nat → Nat → Int64) (nm : Int64) (K : Int32) : Prop := (K.toInt = 1 ∧ ∀ k, k < 13 → L 6 k ≠ nm) ∨ (∃ k : Nat, k < 13 ∧ L 6 k = nm ∧ K.toInt = 20 + (k : Int))
theorem m_keys {J : Nat → Int32} {B : Nat → Nat → Int32} {L : Nat → Nat → Int64} {x c : Int32} {nm : Int64} (kk : Int32 → (Nat → Int32) → (Nat → Nat → Int32) → (Nat → Nat → Int64) → (Int32 × (Nat → Int32) × (Nat → Nat → Int32) × (Nat → Nat → Int64))) :
    ∀ (m : Nat) (z K : Int32) (k : Nat), z.toInt = (k : Int) → k ≤ 13 → 13 - k < m → ((K.toInt = 1 ∧ ∀ j, j < k → L 6 j ≠ nm) ∨ (∃ j : Nat, j < 13 ∧ L 6 j = nm ∧ K.toInt = 20 + (j : Int))) → ∃ K2 : Int32, KW L nm K2 ∧ itr_ii dfM (bM12_cut_146 J B L x nm c kk) m z K = f_bdM (fM12_token J B L K2 x 0 nm) (fun _ I A L => kk (x + c) I A L) := by
  intro m
  induction m with
  | zero => intro z K k _ _ h; omega
  | succ m ih =>
    intro z K k hz hk hm hK
    show ∃ K2 : Int32, KW L nm K2 ∧ bM12_cut_146 J B L x nm c kk (itr_ii dfM (bM12_cut_146 J B L x nm c kk) m) z K = f_bdM (fM12_token J B L K2 x 0 nm) (fun _ I A L => kk (x + c) I A L)
    obtain ⟨G, hG⟩ : ∃ G, G = itr_ii dfM (bM12_cut_146 J B L x nm c kk) m := ⟨_, rfl⟩
    rw [← hG] at ih ⊢
    unfold bM12_cut_146
    dsimp only [f_lt]
    by_cases h : 13 ≤ z.toInt
    · rw [if_pos h]
      refine ⟨K, ?_, rfl⟩
      rcases hK with h1 | h1
      · exact Or.inl ⟨h1.1, fun j hj => h1.2 j (by omega)⟩
      · exact Or.inr h1
    · rw [if_neg h, clN hz]
      have hz1 : (z + 1).toInt = ((k + 1 : Nat) : Int) := by rw [i32_inc (by omega)]; omega
      by_cases h2 : L 6 k = nm
      · rw [if_neg (fun h9 => h9 (lcmp_0.mpr h2))]
        exact ih (z + 1) (20 + z) (k + 1) hz1 (by omega) (by omega) (Or.inr ⟨k, by omega, h2, by rw [i32_add (a := 20) rfl rfl hz (by omega) (by omega)]⟩)
      · rw [if_pos (fun h9 => h2 (lcmp_0.mp h9))]
        refine ih (z + 1) K (k + 1) hz1 (by omega) (by omega) ?_
        rcases hK with h1 | h1
        · refine Or.inl ⟨h1.1, fun j hj => ?_⟩
          by_cases e : j = k
          · rw [e]; exact h2
          · exact h1.2 j (by omega)
        · exact Or.inr h1
theorem m_keysx {J : Nat → Int32} {B : Nat → Nat → Int32} {L : Nat → Nat → Int64} {x c : Int32} {nm : Int64} (kk : Int32 → (Nat → Int32) → (Nat → Nat → Int32) → (Nat → Nat → Int64) → (Int32 × (Nat → Int32) × (Nat → Nat → Int32) × (Nat → Nat → Int64))) : bM12_cut_146x J B L x nm c kk = bM12_cut_146 J B L x nm c kk := rfl
/-- the reference's letters -/
theorem m_letters {J : Nat → Int32} {B : Nat → Nat → Int32} {L : Nat → Nat → Int64} {f : Nat → Int} {n s : Nat} (hn : (J 2).toInt = (n : Int)) (hn2 : n ≤ 2000) (hf : ∀ j, j < n → (B 1 j &&& 255).toInt = f j) {x : Int32} (hx : x.toInt = (s : Int)) (kk : Int32 → (Nat → Int32) → (Nat → Nat → Int32) → (Nat → Nat → Int64) → (Int32 × (Nat → Int32) × (Nat → Nat → Int32) × (Nat → Nat → Int64))) :
    ∀ (m : Nat) (v : Int64) (c : Int32) (k : Nat), c.toInt = (k : Int) → s + k ≤ n → n - (s + k) < m → (∀ j, s ≤ j → j < s + k → isL (f j)) → v.toInt = enc f s (min k 8) → ∃ (q : Nat) (w : Int64) (K y : Int32), Rn isL f n (s + k) q ∧ w.toInt = enc f s (min (q - s) 8) ∧ y.toInt = (q : Int) ∧ (8 < q - s → K.toInt = 3) ∧ (¬ 8 < q - s → KW L w K) ∧ itr_li dfM (bM12_cut_85 x J B L kk) m v c = f_bdM (fM12_token J B L K x 0 w) (fun _ I A L => kk y I A L) := by
  intro m
  induction m with
  | zero => intro v c k _ _ h; omega
  | succ m ih =>
    intro v c k hc hk hm hD hv
    show ∃ (q : Nat) (w : Int64) (K y : Int32), Rn isL f n (s + k) q ∧ w.toInt = enc f s (min (q - s) 8) ∧ y.toInt = (q : Int) ∧ (8 < q - s → K.toInt = 3) ∧ (¬ 8 < q - s → KW L w K) ∧ bM12_cut_85 x J B L kk (itr_li dfM (bM12_cut_85 x J B L kk) m) v c = f_bdM (fM12_token J B L K x 0 w) (fun _ I A L => kk y I A L)
    obtain ⟨G, hG⟩ : ∃ G, G = itr_li dfM (bM12_cut_85 x J B L kk) m := ⟨_, rfl⟩
    rw [← hG] at ih ⊢
    have hxc : (x + c).toInt = ((s + k : Nat) : Int) := by rw [i32_add rfl hx hc (by omega) (by omega)]; omega
    have fin : ¬ (s + k < n ∧ isL (f (s + k))) → ∃ (q : Nat) (w : Int64) (K y : Int32), Rn isL f n (s + k) q ∧ w.toInt = enc f s (min (q - s) 8) ∧ y.toInt = (q : Int) ∧ (8 < q - s → K.toInt = 3) ∧ (¬ 8 < q - s → KW L w K) ∧ (if c.toInt ≤ 8 then itr_ii dfM (bM12_cut_146 J B L x v c kk) FU 0 1 else f_bdM (fM12_token J B L 3 x 0 v) (fun _ I A L => kk (x + c) I A L)) = f_bdM (fM12_token J B L K x 0 w) (fun _ I A L => kk y I A L) := fun hs2 => by
      by_cases c9 : c.toInt ≤ 8
      · rw [if_pos c9]
        obtain ⟨K2, h1, h2⟩ := m_keys (J := J) (B := B) (L := L) (x := x) (c := c) (nm := v) kk FU 0 1 0 rfl (by omega) (by have := FU_eq; omega) (Or.inl ⟨rfl, fun j hj => by omega⟩)
        exact ⟨s + k, v, K2, x + c, Rn.stop hs2, by rw [show s + k - s = k by omega]; exact hv, hxc, fun h9 => by omega, fun _ => h1, h2⟩
      · rw [if_neg c9]
        exact ⟨s + k, v, 3, x + c, Rn.stop hs2, by rw [show s + k - s = k by omega]; exact hv, hxc, fun _ => rfl, fun h9 => by omega, rfl⟩
    unfold bM12_cut_85
    dsimp only [f_lt]
    rw [m_keysx]
    by_cases h : n ≤ s + k
    · rw [m_byteE (I := J) (A := B) (L := L) (z := x + c) (by omega), if_pos rfl, m_isL, if_pos (by decide)]
      exact fin (by omega)
    · rw [m_byte (I := J) (A := B) (L := L) (z := x + c) (by omega), if_neg (show ¬ ((1 : Nat) = 0) by decide), clN hxc, m_isL]
      have hb := hf (s + k) (by omega)
      dsimp only
      by_cases cD : 97 ≤ (B 1 (s + k) &&& 255).toInt ∧ (B 1 (s + k) &&& 255).toInt ≤ 122
      · rw [if_pos cD, if_neg (by decide)]
        have hc1 : (c + 1).toInt = ((k + 1 : Nat) : Int) := by rw [i32_inc (by omega)]; omega
        have cD2 : 97 ≤ f (s + k) ∧ f (s + k) ≤ 122 := by rw [← hb]; exact cD
        have hb2 : ∀ j, s ≤ j → j < s + (k + 1) → isL (f j) := fun j a b => by
          by_cases e : j = s + k
          · rw [e]; exact cD2
          · exact hD j a (by omega)
        by_cases c4 : 8 ≤ c.toInt
        · rw [if_pos c4]
          obtain ⟨q, w, K, y, h1, h2⟩ := ih v (c + 1) (k + 1) hc1 (by omega) (by omega) hb2 (by rw [hv, show min k 8 = 8 by omega, show min (k + 1) 8 = 8 by omega])
          exact ⟨q, w, K, y, Rn.step ⟨by omega, cD2⟩ h1, h2⟩
        · rw [if_neg c4, if_neg (show ¬ ((1 : Nat) = 0) by decide)]
          have g2 := enc_lt (f := f) (s := s) k (fun j a b => hD j a b)
          have g3 : enc f s k < 10460353203 := by
            have : k = 0 ∨ k = 1 ∨ k = 2 ∨ k = 3 ∨ k = 4 ∨ k = 5 ∨ k = 6 ∨ k = 7 := by omega
            rcases this with e | e | e | e | e | e | e | e <;> rw [e] at g2 ⊢ <;> omega
          rw [show min k 8 = k by omega] at hv
          have g4 : (27 * v).toInt = 27 * v.toInt := i64_mul rfl rfl rfl (by omega) (by omega)
          have g5 : ((B 1 (s + k) &&& 255) - 97).toInt = f (s + k) - 97 := i32_sub rfl hb rfl (by omega) (by omega)
          have g6 : ((B 1 (s + k) &&& 255) - 97 + 1).toInt = f (s + k) - 97 + 1 := i32_add rfl g5 rfl (by omega) (by omega)
          have g7 : (27 * v + ((B 1 (s + k) &&& 255) - 97 + 1).toInt64).toInt = 27 * v.toInt + (f (s + k) - 97 + 1) := i64_add rfl g4 (by rw [Int32.toInt_toInt64]; exact g6) (by omega) (by omega)
          have e9 : fM12_appends J B L v (B 1 (s + k) &&& 255) = 27 * v + ((B 1 (s + k) &&& 255) - 97 + 1).toInt64 := by
            unfold fM12_appends
            rw [if_pos (by omega)]
            rfl
          rw [e9]
          obtain ⟨q, w, K, y, h1, h2⟩ := ih (27 * v + ((B 1 (s + k) &&& 255) - 97 + 1).toInt64) (c + 1) (k + 1) hc1 (by omega) (by omega) hb2 (by
            rw [g7, show min (k + 1) 8 = k + 1 by omega]
            show 27 * v.toInt + (f (s + k) - 97 + 1) = 27 * enc f s k + (f (s + k) - 96)
            omega)
          exact ⟨q, w, K, y, Rn.step ⟨by omega, cD2⟩ h1, h2⟩
      · rw [if_neg cD, if_pos rfl]
        rw [hb] at cD
        exact fin (fun h9 => cD h9.2)
end
section
/-- the reference's kinds -/
def KM (c : Int) (K : Int32) : Prop := (c = 0 → K.toInt = 0) ∧ (c = 2 → K.toInt = 2) ∧ (c = 3 → K.toInt = 4) ∧ (c = 4 → K.toInt = 9) ∧ (c = 5 → K.toInt = 3)
/-- row t of the reference's TOKENS -/
def TM (f : Nat → Int) (n : Nat) (B : Nat → Nat → Int32) (L : Nat → Nat → Int64) (t p s e : Nat) (c : Int) : Prop :=
  Tk f n p c s e ∧ (B 3 t).toInt = (s : Int) ∧ (c = 2 → (B 4 t).toInt = dec f s (e - s)) ∧ (c = 1 → (L 5 t).toInt = enc f s (e - s) ∧ KW L (L 5 t) (B 2 t)) ∧ KM c (B 2 t)
def stB (B : Nat → Nat → Int32) (u : Nat) (K x v : Int32) : Nat → Nat → Int32 := up3 (up3 (up3 B 2 u K) 3 u x) 4 u v
theorem stB_2 {B : Nat → Nat → Int32} {u : Nat} {K x v : Int32} : stB B u K x v 2 u = K := by
  unfold stB
  rw [up3_o (by decide), up3_o (by decide)]
  exact up3_at rfl
theorem stB_3 {B : Nat → Nat → Int32} {u : Nat} {K x v : Int32} : stB B u K x v 3 u = x := by
  unfold stB
  rw [up3_o (by decide)]
  exact up3_at rfl
theorem stB_4 {B : Nat → Nat → Int32} {u : Nat} {K x v : Int32} : stB B u K x v 4 u = v := by
  unfold stB
  exact up3_at rfl
theorem stB_ne {B : Nat → Nat → Int32} {u t : Nat} {K x v : Int32} (h : t ≠ u) : stB B u K x v 2 t = B 2 t ∧ stB B u K x v 3 t = B 3 t ∧ stB B u K x v 4 t = B 4 t := by
  refine ⟨?_, ?_, ?_⟩
  · unfold stB
    rw [up3_o (by decide), up3_o (by decide)]
    exact up3_ne h
  · unfold stB
    rw [up3_o (by decide), up3_ne h, up3_o (by decide)]
  · unfold stB
    rw [up3_ne h, up3_o (by decide), up3_o (by decide)]
theorem stB_md {S : Nat → Nat → Int32} {B : Nat → Nat → Int32} {u : Nat} {K x v : Int32} (h : Md [2, 3, 4] S B) : Md [2, 3, 4] S (stB B u K x v) := Md.up3 (Md.up3 (Md.up3 h rfl) rfl) rfl
theorem m_token {J : Nat → Int32} {B : Nat → Nat → Int32} {L : Nat → Nat → Int64} {K x v : Int32} {nm : Int64} : fM12_token J B L K x v nm = (0, upd J 3 (J 3 + 1), stB B (J 3).toNatClampNeg K x v, up3L L 5 (J 3).toNatClampNeg nm) := rfl
theorem KW_st {L : Nat → Nat → Int64} {u : Nat} {w nm : Int64} {K : Int32} (h : KW L nm K) : KW (up3L L 5 u w) nm K := h
theorem TM_st {f : Nat → Int} {n : Nat} {B : Nat → Nat → Int32} {L : Nat → Nat → Int64} {t p s e u : Nat} {c : Int} {K x v : Int32} {nm : Int64} (h : TM f n B L t p s e c) (hu : t ≠ u) : TM f n (stB B u K x v) (up3L L 5 u nm) t p s e c := by
  obtain ⟨h1, h2, h3, h4, h5⟩ := h
  have g := stB_ne (B := B) (K := K) (x := x) (v := v) hu
  have gl : up3L L 5 u nm 5 t = L 5 t := up3L_ne hu
  refine ⟨h1, by rw [g.2.1]; exact h2, by rw [g.2.2]; exact h3, fun h9 => ?_, by rw [g.1]; exact h5⟩
  rw [gl, g.1]
  exact ⟨(h4 h9).1, KW_st (h4 h9).2⟩
def CUT (f : Nat → Int) (n : Nat) (J : Nat → Int32) (B : Nat → Nat → Int32) (L : Nat → Nat → Int64) (R : Int32 × (Nat → Int32) × (Nat → Nat → Int32) × (Nat → Nat → Int64)) : Prop :=
  ∃ (J2 : Nat → Int32) (B2 : Nat → Nat → Int32) (L2 : Nat → Nat → Int64) (c : Nat) (pos : Nat → Nat), R = (0, J2, B2, L2) ∧ Md [3] J J2 ∧ Md [2, 3, 4] B B2 ∧ Md [5] L L2 ∧ (J2 3).toInt = (c : Int) ∧ c ≤ 401 ∧ pos 0 = 0 ∧ (∀ t, t ≤ c → pos t ≤ n) ∧ (∀ t, t < c → ∃ (s : Nat) (cl : Int), TM f n B2 L2 t (pos t) s (pos (t + 1)) cl) ∧ (c = 401 ∨ ∃ t : Nat, c = t + 1 ∧ (B2 2 t).toInt = 0)
theorem m_cut {J : Nat → Int32} {B : Nat → Nat → Int32} {L : Nat → Nat → Int64} {f : Nat → Int} {n : Nat} (hn : (J 2).toInt = (n : Int)) (hn2 : n ≤ 2000) (hf : ∀ j, j < n → (B 1 j &&& 255).toInt = f j) :
    ∀ (m : Nat) (x : Int32) (J1 : Nat → Int32) (B1 : Nat → Nat → Int32) (L1 : Nat → Nat → Int64) (c p q : Nat) (pos : Nat → Nat), x.toInt = (q : Int) → q ≤ n → (J1 3).toInt = (c : Int) → c ≤ 401 → Md [3] J J1 → Md [2, 3, 4] B B1 → Md [5] L L1 → pos 0 = 0 → pos c = p → (∀ t, t ≤ c → pos t ≤ n) → p ≤ q → (∀ j, p ≤ j → j < q → j < n ∧ isB (f j)) → (∀ t, t < c → ∃ (s : Nat) (cl : Int), TM f n B1 L1 t (pos t) s (pos (t + 1)) cl) → (2001 - q) + (402 - c) < m → CUT f n J B L (itr_iIAL dfM (bM12_cut_7 J) m x J1 B1 L1) := by
  intro m
  induction m with
  | zero => intro x J1 B1 L1 c p q pos _ _ _ _ _ _ _ _ _ _ _ _ _ h; omega
  | succ m ih =>
    intro x J1 B1 L1 c p q pos hx hq hc hc2 hJ hB hL hp0 hpc hpn hpq hbl hT hm
    show CUT f n J B L (bM12_cut_7 J (itr_iIAL dfM (bM12_cut_7 J) m) x J1 B1 L1)
    obtain ⟨G, hG⟩ : ∃ G, G = itr_iIAL dfM (bM12_cut_7 J) m := ⟨_, rfl⟩
    rw [← hG] at ih ⊢
    have hn1 : (J1 2).toInt = (n : Int) := by rw [hJ 2 rfl]; exact hn
    have hf1 : ∀ j, j < n → (B1 1 j &&& 255).toInt = f j := fun j hj => by rw [hB 1 rfl]; exact hf j hj
    have hcn := clN hc
    -- one more TOKEN
    have add : ∀ (K v : Int32) (nm : Int64) (e : Nat) (cl : Int), c ≤ 400 → e ≤ n → Tk f n p cl q e → (cl = 2 → v.toInt = dec f q (e - q)) → (cl = 1 → nm.toInt = enc f q (e - q) ∧ KW L1 nm K) → KM cl K → ∃ pos2 : Nat → Nat, pos2 0 = 0 ∧ pos2 (c + 1) = e ∧ (∀ t, t ≤ c + 1 → pos2 t ≤ n) ∧ (∀ t, t < c + 1 → ∃ (s : Nat) (cl : Int), TM f n (stB B1 c K x v) (up3L L1 5 c nm) t (pos2 t) s (pos2 (t + 1)) cl) := by
      intro K v nm e cl hc4 he hTk h2 h1 hK
      refine ⟨fun t => if t = c + 1 then e else pos t, by show (if 0 = c + 1 then e else pos 0) = 0; rw [if_neg (by omega)]; exact hp0, by show (if c + 1 = c + 1 then e else _) = e; rw [if_pos rfl], fun t ht => ?_, fun t ht => ?_⟩
      · show (if t = c + 1 then e else pos t) ≤ n
        by_cases h9 : t = c + 1
        · rw [if_pos h9]; exact he
        · rw [if_neg h9]; exact hpn t (by omega)
      · show ∃ (s : Nat) (cl : Int), TM f n (stB B1 c K x v) (up3L L1 5 c nm) t (if t = c + 1 then e else pos t) s (if t + 1 = c + 1 then e else pos (t + 1)) cl
        rw [if_neg (by omega)]
        by_cases h9 : t = c
        · rw [if_pos (by omega), h9, hpc]
          refine ⟨q, cl, hTk, by rw [stB_3]; exact hx, by rw [stB_4]; exact h2, fun h8 => ?_, by rw [stB_2]; exact hK⟩
          rw [up3L_at rfl, stB_2]
          exact ⟨(h1 h8).1, KW_st (h1 h8).2⟩
        · rw [if_neg (by omega)]
          obtain ⟨s, cl2, h8⟩ := hT t (by omega)
          exact ⟨s, cl2, TM_st h8 h9⟩
    have hJ3 : c ≤ 400 → (upd J1 3 (J1 3 + 1) 3).toInt = ((c + 1 : Nat) : Int) := fun h9 => by
      rw [show upd J1 3 (J1 3 + 1) 3 = J1 3 + 1 from upd_at (α := Nat), i32_inc (by omega)]; omega
    have go : ∀ (K v : Int32) (nm : Int64) (e : Nat) (y : Int32) (cl : Int), c ≤ 400 → y.toInt = (e : Int) → e ≤ n → q < e → Tk f n p cl q e → (cl = 2 → v.toInt = dec f q (e - q)) → (cl = 1 → nm.toInt = enc f q (e - q) ∧ KW L1 nm K) → KM cl K → CUT f n J B L (f_bdM (fM12_token J1 B1 L1 K x v nm) (fun _ I A L => G y I A L)) := by
      intro K v nm e y cl hc4 hy he hqe hTk h2 h1 hK
      rw [m_token, hcn]
      obtain ⟨pos2, g1, g2, g3, g4⟩ := add K v nm e cl hc4 he hTk h2 h1 hK
      exact ih y (upd J1 3 (J1 3 + 1)) (stB B1 c K x v) (up3L L1 5 c nm) (c + 1) e e pos2 hy he (hJ3 hc4) (by omega) (Md.up hJ rfl) (stB_md hB) (Md.up3L hL rfl) g1 g2 g3 (Nat.le_refl _) (fun j a b => by omega) g4 (by omega)
    have fin : c ≤ 400 → ¬ q < n → CUT f n J B L (f_bdM (fM12_token J1 B1 L1 0 (J 2) 0 0) (fun _ I A L => (0, I, A, L))) := fun hc4 hqn => by
      have e2 : J 2 = x := Int32.toInt_inj.mp (by omega)
      rw [e2, m_token, hcn]
      obtain ⟨pos2, g1, g2, g3, g4⟩ := add 0 0 0 q 0 hc4 hq ⟨⟨hpq, hbl, fun h9 => hqn h9.1⟩, Or.inl ⟨hqn, rfl, rfl⟩⟩ (fun h9 => absurd h9 (by decide)) (fun h9 => absurd h9 (by decide)) ⟨fun _ => rfl, fun h9 => absurd h9 (by decide), fun h9 => absurd h9 (by decide), fun h9 => absurd h9 (by decide), fun h9 => absurd h9 (by decide)⟩
      exact ⟨upd J1 3 (J1 3 + 1), stB B1 c 0 x 0, up3L L1 5 c 0, c + 1, pos2, rfl, Md.up hJ rfl, stB_md hB, Md.up3L hL rfl, hJ3 hc4, by omega, g1, g3, g4, Or.inr ⟨c, rfl, by rw [stB_2]; rfl⟩⟩
    unfold bM12_cut_7
    dsimp only [f_lt]
    by_cases h4 : 400 < (J1 3).toInt
    · rw [if_pos h4]
      exact ⟨J1, B1, L1, c, pos, rfl, hJ, hB, hL, hc, hc2, hp0, hpn, hT, Or.inl (by omega)⟩
    · rw [if_neg h4]
      have hc4 : c ≤ 400 := by omega
      by_cases hqn : q < n
      · rw [m_byte (I := J1) (A := B1) (L := L1) (z := x) (by omega), if_neg (show ¬ ((1 : Nat) = 0) by decide), clN hx, if_pos (show x.toInt < (J 2).toInt by omega)]
        have hb := hf1 q hqn
        dsimp only
        obtain ⟨y, hy⟩ : ∃ y, y = B1 1 q &&& 255 := ⟨_, rfl⟩
        rw [← hy] at hb ⊢
        have hx1 : (x + 1).toInt = ((q + 1 : Nat) : Int) := by rw [i32_inc (by omega)]; omega
        have blank : isB (f q) → CUT f n J B L (G (x + 1) J1 B1 L1) := fun h9 =>
          ih (x + 1) J1 B1 L1 c p (q + 1) pos hx1 (by omega) hc hc2 hJ hB hL hp0 hpc hpn (by omega) (fun j a b => by
            by_cases e : j = q
            · rw [e]; exact ⟨hqn, h9⟩
            · exact hbl j a (by omega)) hT (by omega)
        by_cases b1 : y.toInt = 9
        · rw [if_pos b1]; exact blank (Or.inl (by omega))
        rw [if_neg b1]
        by_cases b2 : y.toInt = 10
        · rw [if_pos b2]; exact blank (Or.inr (Or.inl (by omega)))
        rw [if_neg b2]
        by_cases b3 : y.toInt = 13
        · rw [if_pos b3]; exact blank (Or.inr (Or.inr (Or.inl (by omega))))
        rw [if_neg b3]
        by_cases b4 : y.toInt = 32
        · rw [if_neg (fun h9 => h9 b4)]; exact blank (Or.inr (Or.inr (Or.inr (by omega))))
        rw [if_pos b4]
        have hRn : Rn isB f n p q := ⟨hpq, hbl, fun h9 => by
          rcases h9.2 with h8 | h8 | h8 | h8 <;> omega⟩
        rw [m_isL, m_isD]
        by_cases cL : 97 ≤ y.toInt ∧ y.toInt ≤ 122
        · rw [if_pos cL, if_neg (by decide)]
          obtain ⟨e, w, K, z, h1, h2, h3, h5, h6, h7⟩ := m_letters (J := J1) (B := B1) (L := L1) (f := f) (n := n) (s := q) hn1 hn2 hf1 hx G FU 0 0 0 rfl (by omega) (by have := FU_eq; omega) (fun j a b => by omega) rfl
          rw [h7]
          have h1' : Rn isL f n q e := h1
          have cL2 : isL (f q) := by rw [← hb]; exact cL
          have hqe : q < e := by
            rcases Nat.lt_or_ge q e with h9 | h9
            · exact h9
            · have h8 := h1'.1
              have : e = q := by omega
              rw [this] at h1'
              exact absurd ⟨hqn, cL2⟩ h1'.2.2
          by_cases c8 : 8 < e - q
          · refine go K 0 w e z 5 hc4 h3 (h1'.le hq) hqe ⟨hRn, Or.inr (Or.inl ⟨hqn, cL2, h1', by rw [if_pos c8]⟩)⟩ (fun h9 => absurd h9 (by decide)) (fun h9 => absurd h9 (by decide)) ⟨fun h9 => absurd h9 (by decide), fun h9 => absurd h9 (by decide), fun h9 => absurd h9 (by decide), fun h9 => absurd h9 (by decide), fun _ => h5 c8⟩
          · refine go K 0 w e z 1 hc4 h3 (h1'.le hq) hqe ⟨hRn, Or.inr (Or.inl ⟨hqn, cL2, h1', by rw [if_neg c8]⟩)⟩ (fun h9 => absurd h9 (by decide)) (fun _ => ⟨by rw [h2, show min (e - q) 8 = e - q by omega], h6 c8⟩) ⟨fun h9 => absurd h9 (by decide), fun h9 => absurd h9 (by decide), fun h9 => absurd h9 (by decide), fun h9 => absurd h9 (by decide), fun h9 => absurd h9 (by decide)⟩
        · rw [if_neg cL, if_pos rfl]
          have cL2 : ¬ isL (f q) := by rw [← hb]; exact cL
          by_cases cD : 48 ≤ y.toInt ∧ y.toInt ≤ 57
          · rw [if_pos cD, if_neg (by decide)]
            obtain ⟨e, w, z, h1, h2, h3, h7⟩ := m_digits (J := J1) (B := B1) (L := L1) (f := f) (n := n) (s := q) hn1 hn2 hf1 hx G FU 0 0 0 rfl (by omega) (by have := FU_eq; omega) (fun j a b => by omega) rfl
            rw [h7]
            have h1' : Rn isD f n q e := h1
            have cD2 : isD (f q) := by rw [← hb]; exact cD
            have hqe : q < e := by
              rcases Nat.lt_or_ge q e with h9 | h9
              · exact h9
              · have h8 := h1'.1
                have : e = q := by omega
                rw [this] at h1'
                exact absurd ⟨hqn, cD2⟩ h1'.2.2
            by_cases c8 : 4 < e - q
            · rw [if_pos c8]
              exact go 3 w 0 e z 5 hc4 h3 (h1'.le hq) hqe ⟨hRn, Or.inr (Or.inr (Or.inl ⟨hqn, cD2, h1', by rw [if_pos c8]⟩))⟩ (fun h9 => absurd h9 (by decide)) (fun h9 => absurd h9 (by decide)) ⟨fun h9 => absurd h9 (by decide), fun h9 => absurd h9 (by decide), fun h9 => absurd h9 (by decide), fun h9 => absurd h9 (by decide), fun _ => rfl⟩
            · rw [if_neg c8]
              exact go 2 w 0 e z 2 hc4 h3 (h1'.le hq) hqe ⟨hRn, Or.inr (Or.inr (Or.inl ⟨hqn, cD2, h1', by rw [if_neg c8]⟩))⟩ (fun _ => by rw [h2, show min (e - q) 4 = e - q by omega]) (fun h9 => absurd h9 (by decide)) ⟨fun h9 => absurd h9 (by decide), fun _ => rfl, fun h9 => absurd h9 (by decide), fun h9 => absurd h9 (by decide), fun h9 => absurd h9 (by decide)⟩
          · rw [if_neg cD, if_pos rfl]
            have cD2 : ¬ isD (f q) := by rw [← hb]; exact cD
            have sg : ∀ d : Int32, CUT f n J B L (f_bdM (fM12_sign J1 B1 L1 x y d) (fun y3 I A L => G (x + y3) I A L)) := by
              intro d
              unfold fM12_sign
              by_cases k1 : y.toInt = 59
              · rw [if_neg (fun h9 => h9 k1)]
                exact go 4 0 0 (q + 1) (x + 1) 3 hc4 hx1 (by omega) (by omega) ⟨hRn, Or.inr (Or.inr (Or.inr ⟨hqn, cL2, cD2, rfl, by rw [if_pos (by omega)]⟩))⟩ (fun h9 => absurd h9 (by decide)) (fun h9 => absurd h9 (by decide)) ⟨fun h9 => absurd h9 (by decide), fun h9 => absurd h9 (by decide), fun _ => rfl, fun h9 => absurd h9 (by decide), fun h9 => absurd h9 (by decide)⟩
              · rw [if_pos k1]
                by_cases k2 : y.toInt = 45
                · rw [if_neg (fun h9 => h9 k2)]
                  exact go 9 0 0 (q + 1) (x + 1) 4 hc4 hx1 (by omega) (by omega) ⟨hRn, Or.inr (Or.inr (Or.inr ⟨hqn, cL2, cD2, rfl, by rw [if_neg (by omega), if_pos (by omega)]⟩))⟩ (fun h9 => absurd h9 (by decide)) (fun h9 => absurd h9 (by decide)) ⟨fun h9 => absurd h9 (by decide), fun h9 => absurd h9 (by decide), fun h9 => absurd h9 (by decide), fun _ => rfl, fun h9 => absurd h9 (by decide)⟩
                · rw [if_pos k2]
                  exact go 3 0 0 (q + 1) (x + 1) 5 hc4 hx1 (by omega) (by omega) ⟨hRn, Or.inr (Or.inr (Or.inr ⟨hqn, cL2, cD2, rfl, by rw [if_neg (by omega), if_neg (by omega)]⟩))⟩ (fun h9 => absurd h9 (by decide)) (fun h9 => absurd h9 (by decide)) ⟨fun h9 => absurd h9 (by decide), fun h9 => absurd h9 (by decide), fun h9 => absurd h9 (by decide), fun h9 => absurd h9 (by decide), fun _ => rfl⟩
            by_cases k9 : (fM12_byteAt J1 B1 L1 (x + 1)).2 = 0
            · rw [if_pos k9]; exact sg 0
            · rw [if_neg k9]; exact sg _
      · rw [m_byteE (I := J1) (A := B1) (L := L1) (z := x) (by omega), if_pos rfl, if_neg (show ¬ x.toInt < (J 2).toInt by omega)]
        exact fin hc4 hqn
end
section
/-- the words: their bytes, their numbers as the reference keeps them -/
def wb (i j : Nat) : Int := (((bytS.getD i []).getD j 0) &&& 255).toInt
def keyN : List Int := [275647447, 9451996, 40477, 6491892, 70517, 847604, 5146, 286880, 259565, 3379448, 9596021, 8740238, 282078293]
def kxL : List Nat := [6, 0, 1, 2, 3, 4, 5, 7, 8, 9, 10, 11, 12]
def kx (i : Nat) : Nat := kxL.getD i 0
def LK (L : Nat → Nat → Int64) : Prop := ∀ k, k < 13 → (L 6 k).toInt = keyN.getD k 0
theorem key_enc : ∀ i, i < 13 → enc (wb i) 0 (lenS.getD i 0) = keyN.getD (kx i) 0 := by decide
theorem key_ne : ∀ i, i < 13 → ∀ j, j < 13 → keyN.getD i 0 = keyN.getD j 0 → i = j := by decide
theorem kx_lt : ∀ i, i < 13 → kx i < 13 := by decide
theorem wb_L : ∀ i, i < 13 → ∀ j, j < lenS.getD i 0 → 97 ≤ wb i j ∧ wb i j ≤ 122 := by decide
theorem enc_inj {f g : Nat → Int} {s r : Nat} : ∀ (k l : Nat), (∀ j, s ≤ j → j < s + k → isL (f j)) → (∀ j, r ≤ j → j < r + l → isL (g j)) → enc f s k = enc g r l → k = l ∧ ∀ j, j < k → f (s + j) = g (r + j) := by
  intro k
  induction k with
  | zero =>
    intro l _ hg h
    cases l with
    | zero => exact ⟨rfl, fun j hj => by omega⟩
    | succ l =>
      have h1 := (enc_lt l (fun j a b => hg j a (by omega))).1
      have h2 : isL (g (r + l)) := hg (r + l) (by omega) (by omega)
      unfold isL at h2
      have h3 : (0 : Int) = 27 * enc g r l + (g (r + l) - 96) := h
      omega
  | succ k ih =>
    intro l hf hg h
    cases l with
    | zero =>
      have h1 := (enc_lt k (fun j a b => hf j a (by omega))).1
      have h2 : isL (f (s + k)) := hf (s + k) (by omega) (by omega)
      unfold isL at h2
      have h3 : 27 * enc f s k + (f (s + k) - 96) = (0 : Int) := h
      omega
    | succ l =>
      have h2 : isL (f (s + k)) := hf (s + k) (by omega) (by omega)
      have h4 : isL (g (r + l)) := hg (r + l) (by omega) (by omega)
      unfold isL at h2 h4
      have h3 : 27 * enc f s k + (f (s + k) - 96) = 27 * enc g r l + (g (r + l) - 96) := h
      have h5 : enc f s k = enc g r l ∧ f (s + k) = g (r + l) := by omega
      obtain ⟨e1, e2⟩ := ih l (fun j a b => hf j a (by omega)) (fun j a b => hg j a (by omega)) h5.1
      subst e1
      refine ⟨rfl, fun j hj => ?_⟩
      by_cases e : j = k
      · rw [e]; exact h5.2
      · exact e2 j (by omega)
theorem enc_eq {f g : Nat → Int} {s r : Nat} : ∀ (k : Nat), (∀ j, j < k → f (s + j) = g (r + j)) → enc f s k = enc g r k := by
  intro k
  induction k with
  | zero => intro _; rfl
  | succ k ih =>
    intro h
    show 27 * enc f s k + (f (s + k) - 96) = 27 * enc g r k + (g (r + k) - 96)
    rw [ih (fun j hj => h j (by omega)), h k (by omega)]
theorem x_wordL {I : Nat → Int32} {A : Nat → Nat → Int32} {n s i : Nat} (hi : i < 13) (hn : (I 0).toInt = (n : Int)) (hn2 : n ≤ 2000) (hs : (I 2).toInt = (s : Int)) (hl : s + lenS.getD i 0 ≤ n) : ∀ (m : Nat) (x : Int32) (k : Nat), x.toInt = (k : Int) → k ≤ lenS.getD i 0 → lenS.getD i 0 - k < m → (itr_i (0 : Int32) (bX10_isWord_23 i I A) m x = 1 ∧ ∀ j, k ≤ j → j < lenS.getD i 0 → bt A (s + j) = wb i j) ∨ (itr_i (0 : Int32) (bX10_isWord_23 i I A) m x = 0 ∧ ∃ j, k ≤ j ∧ j < lenS.getD i 0 ∧ bt A (s + j) ≠ wb i j) := by
  intro m
  induction m with
  | zero => intro x k _ _ h; omega
  | succ m ih =>
    intro x k hx hk hm
    show (bX10_isWord_23 i I A (itr_i (0 : Int32) (bX10_isWord_23 i I A) m) x = 1 ∧ _) ∨ (bX10_isWord_23 i I A (itr_i (0 : Int32) (bX10_isWord_23 i I A) m) x = 0 ∧ _)
    obtain ⟨G, hG⟩ : ∃ G, G = itr_i (0 : Int32) (bX10_isWord_23 i I A) m := ⟨_, rfl⟩
    rw [← hG] at ih ⊢
    have h6 := lenS_le i hi
    unfold bX10_isWord_23
    dsimp only [f_lt]
    by_cases h : (nI (lenS.getD i 0)).toInt ≤ x.toInt
    · rw [if_pos h]
      exact Or.inl ⟨rfl, fun j a b => by omega⟩
    · rw [if_neg h]
      have hz : (I 2 + x).toInt = ((s + k : Nat) : Int) := by rw [i32_add rfl hs hx (by omega) (by omega)]; omega
      rw [x_byte (I := I) (A := A) (z := I 2 + x) (by omega) (by omega), clN hz, clN hx]
      by_cases c : (A 0 (s + k)).toInt = (((bytS.getD i []).getD k 0) &&& 255).toInt
      · rw [if_pos c]
        rcases ih (x + 1) (k + 1) (by rw [i32_inc (by omega)]; omega) (by omega) (by omega) with h1 | ⟨h1, j, h2, h3, h4⟩
        · refine Or.inl ⟨h1.1, fun j a b => ?_⟩
          by_cases e : j = k
          · rw [e]; exact c
          · exact h1.2 j (by omega) b
        · exact Or.inr ⟨h1, j, by omega, h3, h4⟩
      · rw [if_neg c]
        exact Or.inr ⟨rfl, k, Nat.le_refl _, by omega, c⟩
/-- a word of the class's is the reference's kind -/
theorem x_word {I : Nat → Int32} {A : Nat → Nat → Int32} {B : Nat → Nat → Int32} {L : Nat → Nat → Int64} {n p s e t i : Nat} {c : Int} (hn : (I 0).toInt = (n : Int)) (hn2 : n ≤ 2000) (hp : p ≤ n) (hL : LK L) (hX : TX I A n p s e c) (hM : TM (bt A) n B L t p s e c) (hi : i < 13) : fX10_isWord i I A = if (B 2 t).toInt = 20 + (kx i : Int) then 1 else 0 := by
  obtain ⟨hT, h1, h2, h5, -⟩ := hX
  obtain ⟨-, -, -, hM1, hK⟩ := hM
  have hle := hT.le hp
  have hki := kx_lt i hi
  unfold fX10_isWord
  by_cases c1 : c = 1
  · rw [if_neg (by omega)]
    have hlt : isL (bt A s) ∧ Rn isL (bt A) n s e ∧ e - s ≤ 8 := by
      rcases hT.2 with ⟨a1, a2, a3⟩ | ⟨a1, a2, a3, a4⟩ | ⟨a1, a2, a3, a4⟩ | ⟨a1, a2, a3, a4, a5⟩
      · omega
      · refine ⟨a2, a3, ?_⟩
        by_cases h9 : 8 < e - s
        · rw [if_pos h9] at a4; omega
        · omega
      · by_cases h9 : 4 < e - s
        · rw [if_pos h9] at a4; omega
        · rw [if_neg h9] at a4; omega
      · by_cases h9 : bt A s = 59
        · rw [if_pos h9] at a5; omega
        · rw [if_neg h9] at a5
          by_cases h8 : bt A s = 45
          · rw [if_pos h8] at a5; omega
          · rw [if_neg h8] at a5; omega
    have hLt : ∀ j, s ≤ j → j < s + (e - s) → isL (bt A j) := fun j a b => (hlt.2.1.2.1 j a (by omega)).2
    obtain ⟨g1, g2⟩ := hM1 c1
    have hlen : (fX10_lengthAtHand I A).toInt = ((e - s : Nat) : Int) := by
      show (I 5 - I 2).toInt = _
      rw [i32_sub rfl h5 h2 (by omega) (by omega)]; omega
    dsimp only [f_lt]
    have h6 := lenS_le i hi
    -- the reference's kind says whether the numbers are alike
    have hkw : (B 2 t).toInt = 20 + (kx i : Int) ↔ enc (bt A) s (e - s) = enc (wb i) 0 (lenS.getD i 0) := by
      rw [key_enc i hi, ← hL (kx i) hki, ← g1]
      constructor
      · intro h9
        rcases g2 with ⟨a1, a2⟩ | ⟨k, a1, a2, a3⟩
        · omega
        · have : k = kx i := by omega
          rw [← this, a2]
      · intro h9
        have h8 : L 5 t = L 6 (kx i) := Int64.toInt_inj.mp h9
        rcases g2 with ⟨a1, a2⟩ | ⟨k, a1, a2, a3⟩
        · exact absurd h8.symm (a2 (kx i) hki)
        · have h7 : (L 6 k).toInt = (L 6 (kx i)).toInt := by rw [a2, h8]
          rw [hL k a1, hL (kx i) hki] at h7
          have := key_ne k a1 (kx i) hki h7
          omega
    have hwL : ∀ j, 0 ≤ j → j < 0 + lenS.getD i 0 → isL (wb i j) := fun j _ b => wb_L i hi j (by omega)
    by_cases c2 : (fX10_lengthAtHand I A).toInt = (nI (lenS.getD i 0)).toInt
    · rw [if_pos c2]
      have c3 : e - s = lenS.getD i 0 := by omega
      rcases x_wordL hi hn hn2 h2 (by omega) FU 0 0 rfl (by omega) (by have := FU_eq; omega) with ⟨a1, a2⟩ | ⟨a1, j, a2, a3, a4⟩
      · rw [a1, if_pos (hkw.mpr (by rw [c3]; exact enc_eq _ (fun j hj => by rw [a2 j (by omega) hj, Nat.zero_add])))]
      · rw [a1, if_neg (fun h9 => a4 (by
          have h8 := (enc_inj _ _ hLt hwL (hkw.mp h9)).2 j (by omega)
          rw [h8, Nat.zero_add]))]
    · rw [if_neg c2, if_neg (fun h9 => c2 (by
        have h8 := (enc_inj _ _ hLt hwL (hkw.mp h9)).1
        omega))]
  · rw [if_pos (by omega)]
    have h9 : ¬ (B 2 t).toInt = 20 + (kx i : Int) := by
      obtain ⟨k0, k2, k3, k4, k5⟩ := hK
      have hc : c = 0 ∨ c = 1 ∨ c = 2 ∨ c = 3 ∨ c = 4 ∨ c = 5 := by
        rcases hT.2 with ⟨a1, a2, a3⟩ | ⟨a1, a2, a3, a4⟩ | ⟨a1, a2, a3, a4⟩ | ⟨a1, a2, a3, a4, a5⟩
        · omega
        · by_cases h9 : 8 < e - s
          · rw [if_pos h9] at a4; omega
          · rw [if_neg h9] at a4; omega
        · by_cases h9 : 4 < e - s
          · rw [if_pos h9] at a4; omega
          · rw [if_neg h9] at a4; omega
        · by_cases h9 : bt A s = 59
          · rw [if_pos h9] at a5; omega
          · rw [if_neg h9] at a5
            by_cases h8 : bt A s = 45
            · rw [if_pos h8] at a5; omega
            · rw [if_neg h8] at a5; omega
      rcases hc with e9 | e9 | e9 | e9 | e9 | e9
      · have := k0 e9; omega
      · exact absurd e9 c1
      · have := k2 e9; omega
      · have := k3 e9; omega
      · have := k4 e9; omega
      · have := k5 e9; omega
    rw [if_neg h9]
end
section
/-- what the reading of one text rests on -/
def ENV (n c : Nat) (pos : Nat → Nat) (A0 B0 : Nat → Nat → Int32) (L0 : Nat → Nat → Int64) : Prop :=
  n ≤ 2000 ∧ (∀ j, j < n → 0 ≤ (A0 0 j).toInt) ∧ LK L0 ∧ (∀ u, u ≤ c → pos u ≤ n) ∧ (∀ u, u < c → ∃ (s : Nat) (cl : Int), TM (bt A0) n B0 L0 u (pos u) s (pos (u + 1)) cl) ∧ (c = 401 ∨ ∃ u : Nat, c = u + 1 ∧ (B0 2 u).toInt = 0) ∧ c ≤ 401
/-- the class has TOKEN t at hand -/
def HAND (n c : Nat) (pos : Nat → Nat) (A0 : Nat → Nat → Int32) (I : Nat → Int32) (A : Nat → Nat → Int32) (t : Nat) : Prop :=
  A 0 = A0 0 ∧ (I 0).toInt = (n : Int) ∧ (I 4).toInt = (t : Int) + 1 ∧ t < c ∧ t ≤ 400 ∧ ∃ (s e : Nat) (cl : Int), TX I A n (pos t) s e cl
theorem bt_eq {A A0 : Nat → Nat → Int32} (h : A 0 = A0 0) : bt A = bt A0 := by unfold bt; rw [h]
theorem Tk.kinds {f : Nat → Int} {n p s e : Nat} {c : Int} (hT : Tk f n p c s e) : c = 0 ∨ c = 1 ∨ c = 2 ∨ c = 3 ∨ c = 4 ∨ c = 5 := by
  rcases hT.2 with ⟨a1, a2, a3⟩ | ⟨a1, a2, a3, a4⟩ | ⟨a1, a2, a3, a4⟩ | ⟨a1, a2, a3, a4, a5⟩
  · omega
  · by_cases h9 : 8 < e - s
    · rw [if_pos h9] at a4; omega
    · rw [if_neg h9] at a4; omega
  · by_cases h9 : 4 < e - s
    · rw [if_pos h9] at a4; omega
    · rw [if_neg h9] at a4; omega
  · by_cases h9 : f s = 59
    · rw [if_pos h9] at a5; omega
    · rw [if_neg h9] at a5
      by_cases h8 : f s = 45
      · rw [if_pos h8] at a5; omega
      · rw [if_neg h8] at a5; omega
theorem Tk.lets {f : Nat → Int} {n p s e : Nat} (hT : Tk f n p 1 s e) : Rn isL f n s e ∧ e - s ≤ 8 := by
  rcases hT.2 with ⟨a1, a2, a3⟩ | ⟨a1, a2, a3, a4⟩ | ⟨a1, a2, a3, a4⟩ | ⟨a1, a2, a3, a4, a5⟩
  · omega
  · refine ⟨a3, ?_⟩
    by_cases h9 : 8 < e - s
    · rw [if_pos h9] at a4; omega
    · omega
  · by_cases h9 : 4 < e - s
    · rw [if_pos h9] at a4; omega
    · rw [if_neg h9] at a4; omega
  · by_cases h9 : f s = 59
    · rw [if_pos h9] at a5; omega
    · rw [if_neg h9] at a5
      by_cases h8 : f s = 45
      · rw [if_pos h8] at a5; omega
      · rw [if_neg h8] at a5; omega
theorem Tk.digs {f : Nat → Int} {n p s e : Nat} (hT : Tk f n p 2 s e) : Rn isD f n s e ∧ e - s ≤ 4 := by
  rcases hT.2 with ⟨a1, a2, a3⟩ | ⟨a1, a2, a3, a4⟩ | ⟨a1, a2, a3, a4⟩ | ⟨a1, a2, a3, a4, a5⟩
  · omega
  · by_cases h9 : 8 < e - s
    · rw [if_pos h9] at a4; omega
    · rw [if_neg h9] at a4; omega
  · refine ⟨a3, ?_⟩
    by_cases h9 : 4 < e - s
    · rw [if_pos h9] at a4; omega
    · omega
  · by_cases h9 : f s = 59
    · rw [if_pos h9] at a5; omega
    · rw [if_neg h9] at a5
      by_cases h8 : f s = 45
      · rw [if_pos h8] at a5; omega
      · rw [if_neg h8] at a5; omega
/-- the TOKEN at hand, by the reference's number of its kind -/
def HK (I : Nat → Int32) (A : Nat → Nat → Int32) (K : Int) : Prop :=
  (K = 0 ↔ (I 1).toInt = 0) ∧ (K = 2 ↔ (I 1).toInt = 2) ∧ (K = 4 ↔ (I 1).toInt = 3) ∧ (K = 9 ↔ (I 1).toInt = 4) ∧ ((K = 1 ∨ (20 ≤ K ∧ K ≤ 32)) ↔ (I 1).toInt = 1) ∧ (∀ i, i < 13 → fX10_isWord i I A = if K = 20 + (kx i : Int) then 1 else 0) ∧ (0 ≤ K ∧ K ≤ 32 ∧ (4 < K → K < 20 → K = 9))
theorem hand_tm {n c t : Nat} {pos : Nat → Nat} {A0 B0 : Nat → Nat → Int32} {L0 : Nat → Nat → Int64} {I : Nat → Int32} {A : Nat → Nat → Int32} (hE : ENV n c pos A0 B0 L0) (hH : HAND n c pos A0 I A t) : ∃ (s e : Nat) (cl : Int), TX I A n (pos t) s e cl ∧ TM (bt A0) n B0 L0 t (pos t) s e cl ∧ e = pos (t + 1) ∧ s ≤ n ∧ e ≤ n ∧ s ≤ e ∧ (cl ≠ 0 → s < e) := by
  obtain ⟨h1, h2, h3, h4, h5, s, e, cl, h6⟩ := hH
  obtain ⟨g1, g2, g3, g4, g5, g6, g7⟩ := hE
  obtain ⟨s2, cl2, h7⟩ := g5 t h4
  have h8 := h6.1
  rw [bt_eq h1] at h8
  obtain ⟨e1, e2, e3⟩ := h8.uniq h7.1
  subst e1; subst e2; subst e3
  have h9 := h8.le (g4 t (by omega))
  exact ⟨s, pos (t + 1), cl, h6, h7, rfl, h9.1, h9.2.1, h9.2.2.2.1, fun h0 => h9.2.2.2.2.1 (by have := h9.2.2.2.2.2; omega)⟩
theorem hand_K {n c t : Nat} {pos : Nat → Nat} {A0 B0 : Nat → Nat → Int32} {L0 : Nat → Nat → Int64} {I : Nat → Int32} {A : Nat → Nat → Int32} (hE : ENV n c pos A0 B0 L0) (hH : HAND n c pos A0 I A t) : HK I A (B0 2 t).toInt ∧ B0 3 t = I 2 ∧ ((B0 2 t).toInt = 2 → B0 4 t = I 3 ∧ 0 ≤ (I 3).toInt ∧ (I 3).toInt ≤ 9999) ∧ 0 ≤ (I 2).toInt ∧ (I 2).toInt ≤ 2000 ∧ (I 5).toInt = (pos (t + 1) : Int) ∧ pos (t + 1) ≤ n := by
  obtain ⟨s, e, cl, hX, hM, he, hs, hen, hse, hlt⟩ := hand_tm hE hH
  obtain ⟨h1, h2, h3, h4, h5, -⟩ := hH
  obtain ⟨g1, g2, g3, g4, g5, g6, g7⟩ := hE
  have hw : ∀ i, i < 13 → fX10_isWord i I A = if (B0 2 t).toInt = 20 + (kx i : Int) then 1 else 0 := fun i hi => x_word h2 g1 (g4 t (by omega)) g3 hX (by rw [bt_eq h1]; exact hM) hi
  obtain ⟨hT, x1, x2, x5, x3⟩ := hX
  obtain ⟨mT, m3, m4, m5, mk⟩ := hM
  have hcl := hT.kinds
  refine ⟨?_, Int32.toInt_inj.mp (by omega), ?_, by omega, by omega, by omega, by omega⟩
  · have hk : (cl = 1 → (B0 2 t).toInt = 1 ∨ (20 ≤ (B0 2 t).toInt ∧ (B0 2 t).toInt ≤ 32)) := fun h9 => by
      rcases (m5 h9).2 with h8 | ⟨k, k1, k2, k3⟩
      · exact Or.inl h8.1
      · exact Or.inr (by omega)
    obtain ⟨k0, k2, k3, k4, k5⟩ := mk
    refine ⟨?_, ?_, ?_, ?_, ?_, hw, ?_⟩ <;> (rcases hcl with e9 | e9 | e9 | e9 | e9 | e9 <;> first | (have := k0 e9; omega) | (have := hk e9; omega) | (have := k2 e9; omega) | (have := k3 e9; omega) | (have := k4 e9; omega) | (have := k5 e9; omega))
  · intro h9
    obtain ⟨k0, k2, k3, k4, k5⟩ := mk
    have hc2 : cl = 2 := by
      rcases hcl with e9 | e9 | e9 | e9 | e9 | e9
      · have := k0 e9; omega
      · rcases (m5 e9).2 with h8 | ⟨k, k1, k2, k3⟩
        · have := h8.1; omega
        · omega
      · exact e9
      · have := k3 e9; omega
      · have := k4 e9; omega
      · have := k5 e9; omega
    have hv := x3 hc2
    have hv2 := m4 hc2
    rw [bt_eq h1] at hv
    subst hc2
    have hd := mT.digs
    have hdl := dec_lt (f := bt A0) (s := s) (e - s) (fun j a b => (hd.1.2.1 j a (by omega)).2) hd.2
    have h10 : dec (bt A0) s (e - s) < 10000 := by
      have : e - s = 0 ∨ e - s = 1 ∨ e - s = 2 ∨ e - s = 3 ∨ e - s = 4 := by have := hd.2; omega
      rcases this with e9 | e9 | e9 | e9 | e9 <;> rw [e9] at hdl ⊢ <;> omega
    exact ⟨Int32.toInt_inj.mp (by omega), by omega, by omega⟩
/-- a name at hand -/
theorem hand_N {n c t : Nat} {pos : Nat → Nat} {A0 B0 : Nat → Nat → Int32} {L0 : Nat → Nat → Int64} {I : Nat → Int32} {A : Nat → Nat → Int32} (hE : ENV n c pos A0 B0 L0) (hH : HAND n c pos A0 I A t) (hK : (B0 2 t).toInt = 1) : ∃ s k : Nat, (I 2).toInt = (s : Int) ∧ (I 5 - I 2).toInt = (k : Int) ∧ k ≤ 8 ∧ s + k ≤ n ∧ (∀ j, s ≤ j → j < s + k → isL (bt A0 j)) ∧ (L0 5 t).toInt = enc (bt A0) s k := by
  have h0 := (hand_K hE hH).1.2.2.2.2.1.mp (Or.inl hK)
  obtain ⟨s, e, cl, hX, hM, he, hs, hen, hse, hlt⟩ := hand_tm hE hH
  obtain ⟨h1, h2, h3, h4, h5, -⟩ := hH
  obtain ⟨g1, g2, g3, g4, g5, g6, g7⟩ := hE
  obtain ⟨hT, x1, x2, x5, x3⟩ := hX
  obtain ⟨mT, m3, m4, m5, mk⟩ := hM
  have hc1 : cl = 1 := by omega
  subst hc1
  have hd := mT.lets
  exact ⟨s, e - s, x2, by rw [i32_sub rfl x5 x2 (by omega) (by omega)]; omega, hd.2, by omega, fun j a b => (hd.1.2.1 j a (by omega)).2, (m5 rfl).1⟩
theorem hand_next {n c t : Nat} {pos : Nat → Nat} {A0 B0 : Nat → Nat → Int32} {L0 : Nat → Nat → Int64} {I I1 : Nat → Int32} {A A1 : Nat → Nat → Int32} (hE : ENV n c pos A0 B0 L0) (hH : HAND n c pos A0 I A t) (hK : (B0 2 t).toInt ≠ 0) (ht : t ≠ 400) (hA : A1 0 = A 0) (h0 : I1 0 = I 0) (h4 : I1 4 = I 4) (h5 : I1 5 = I 5) : ∃ I2 : Nat → Int32, fX10_toNextToken I1 A1 = (0, I2, A1) ∧ Md [1, 2, 3, 4, 5] I1 I2 ∧ I2 4 = I 4 + 1 ∧ HAND n c pos A0 I2 A1 (t + 1) ∧ (I 2).toInt < (I2 2).toInt := by
  have hk := hand_K hE hH
  obtain ⟨s, e, cl, hX, hM, he, hs, hen, hse, hlt⟩ := hand_tm hE hH
  obtain ⟨a1, a2, a3, a4, a5, -⟩ := hH
  obtain ⟨g1, g2, g3, g4, g5, g6, g7⟩ := hE
  have hA0 : A1 0 = A0 0 := hA.trans a1
  obtain ⟨I2, s2, e2, cl2, b1, b2, b3, b4⟩ := x_next (I := I1) (A := A1) (n := n) (p := pos (t + 1)) (by rw [h0]; exact a2) g1 (fun j hj => by rw [hA0]; exact g2 j hj) (by rw [h5]; exact hk.2.2.2.2.2.1) hk.2.2.2.2.2.2
  have hle := b4.1.le hk.2.2.2.2.2.2
  have hcl : cl ≠ 0 := fun h9 => hK (hM.2.2.2.2.1 h9)
  have hlt2 := hlt hcl
  refine ⟨I2, b1, b2, by rw [b3, h4], ⟨hA0, by rw [b2 0 rfl, h0]; exact a2, ?_, ?_, Nat.lt_of_le_of_ne a5 ht, s2, e2, cl2, b4⟩, ?_⟩
  · rw [b3, h4, i32_inc (by omega)]; omega
  · rcases g6 with h9 | ⟨u, h9, h8⟩
    · omega
    · have : t ≠ u := fun h7 => hK (by rw [h7]; exact h8)
      omega
  · have := b4.2.2.1
    have := hX.2.2.1
    omega
end
section
theorem hw0 {I : Nat → Int32} {A : Nat → Nat → Int32} {K : Int} (h : HK I A K) : fX10_isWord 0 I A = if K = 26 then 1 else 0 := h.2.2.2.2.2.1 0 (by decide)
theorem hw1 {I : Nat → Int32} {A : Nat → Nat → Int32} {K : Int} (h : HK I A K) : fX10_isWord 1 I A = if K = 20 then 1 else 0 := h.2.2.2.2.2.1 1 (by decide)
theorem hw2 {I : Nat → Int32} {A : Nat → Nat → Int32} {K : Int} (h : HK I A K) : fX10_isWord 2 I A = if K = 21 then 1 else 0 := h.2.2.2.2.2.1 2 (by decide)
theorem hw3 {I : Nat → Int32} {A : Nat → Nat → Int32} {K : Int} (h : HK I A K) : fX10_isWord 3 I A = if K = 22 then 1 else 0 := h.2.2.2.2.2.1 3 (by decide)
theorem hw4 {I : Nat → Int32} {A : Nat → Nat → Int32} {K : Int} (h : HK I A K) : fX10_isWord 4 I A = if K = 23 then 1 else 0 := h.2.2.2.2.2.1 4 (by decide)
theorem hw5 {I : Nat → Int32} {A : Nat → Nat → Int32} {K : Int} (h : HK I A K) : fX10_isWord 5 I A = if K = 24 then 1 else 0 := h.2.2.2.2.2.1 5 (by decide)
theorem hw6 {I : Nat → Int32} {A : Nat → Nat → Int32} {K : Int} (h : HK I A K) : fX10_isWord 6 I A = if K = 25 then 1 else 0 := h.2.2.2.2.2.1 6 (by decide)
theorem hw7 {I : Nat → Int32} {A : Nat → Nat → Int32} {K : Int} (h : HK I A K) : fX10_isWord 7 I A = if K = 27 then 1 else 0 := h.2.2.2.2.2.1 7 (by decide)
theorem hw8 {I : Nat → Int32} {A : Nat → Nat → Int32} {K : Int} (h : HK I A K) : fX10_isWord 8 I A = if K = 28 then 1 else 0 := h.2.2.2.2.2.1 8 (by decide)
theorem hw9 {I : Nat → Int32} {A : Nat → Nat → Int32} {K : Int} (h : HK I A K) : fX10_isWord 9 I A = if K = 29 then 1 else 0 := h.2.2.2.2.2.1 9 (by decide)
theorem hw10 {I : Nat → Int32} {A : Nat → Nat → Int32} {K : Int} (h : HK I A K) : fX10_isWord 10 I A = if K = 30 then 1 else 0 := h.2.2.2.2.2.1 10 (by decide)
theorem hw11 {I : Nat → Int32} {A : Nat → Nat → Int32} {K : Int} (h : HK I A K) : fX10_isWord 11 I A = if K = 31 then 1 else 0 := h.2.2.2.2.2.1 11 (by decide)
theorem hw12 {I : Nat → Int32} {A : Nat → Nat → Int32} {K : Int} (h : HK I A K) : fX10_isWord 12 I A = if K = 32 then 1 else 0 := h.2.2.2.2.2.1 12 (by decide)
def tellX (K : Int) : Int32 := if K = 20 then 4 else if K = 21 then 5 else if K = 22 then 0 else if K = 23 then 1 else if K = 24 then 2 else if K = 25 then 3 else (-1)
theorem x_tell {I : Nat → Int32} {A : Nat → Nat → Int32} {K : Int} (h : HK I A K) : fX5_tellAtHand I A = tellX K := by
  unfold fX5_tellAtHand tellX
  rw [hw1 h, hw2 h, hw3 h, hw4 h, hw5 h, hw6 h]
  by_cases h0 : K = 20
  · simp [h0]
  by_cases h1 : K = 21
  · simp [h1]
  by_cases h2 : K = 22
  · simp [h2]
  by_cases h3 : K = 23
  · simp [h3]
  by_cases h4 : K = 24
  · simp [h4]
  by_cases h5 : K = 25
  · simp [h5]
  simp [h0, h1, h2, h3, h4, h5]
def levX (K : Int) : Int32 := if K = 27 then 0 else if K = 28 then 1 else if K = 29 then 2 else if K = 30 then 3 else (-1)
theorem x_lev {I : Nat → Int32} {A : Nat → Nat → Int32} {K : Int} (h : HK I A K) : fX5_levelAtHand I A = levX K := by
  unfold fX5_levelAtHand levX
  rw [hw7 h, hw8 h, hw9 h, hw10 h]
  by_cases h0 : K = 27
  · simp [h0]
  by_cases h1 : K = 28
  · simp [h1]
  by_cases h2 : K = 29
  · simp [h2]
  by_cases h3 : K = 30
  · simp [h3]
  simp [h0, h1, h2, h3]
def cosX (K : Int) : Int32 := if K = 31 then 0 else if K = 32 then 1 else (-1)
theorem x_cos {I : Nat → Int32} {A : Nat → Nat → Int32} {K : Int} (h : HK I A K) : fX5_costAtHand I A = cosX K := by
  unfold fX5_costAtHand cosX
  rw [hw11 h, hw12 h]
  by_cases h0 : K = 31
  · simp [h0]
  by_cases h1 : K = 32
  · simp [h1]
  simp [h0, h1]
theorem x_isName {I : Nat → Int32} {A : Nat → Nat → Int32} {K : Int} (h : HK I A K) : fX5_isNameAtHand I A = if K = 1 then 1 else 0 := by
  unfold fX5_isNameAtHand
  dsimp only [f_lt]
  rw [x_tell h, x_lev h, x_cos h, hw0 h]
  obtain ⟨k0, k2, k3, k4, k1, -, k5, k6, k7⟩ := h
  by_cases c1 : K = 1
  · subst c1
    have h1 : (I 1).toInt = 1 := k1.mp (Or.inl rfl)
    simp [tellX, levX, cosX, h1]
  · rw [if_neg c1]
    by_cases c2 : (I 1).toInt = 1
    · have h2 := k1.mpr c2
      have h3 : K = 20 ∨ K = 21 ∨ K = 22 ∨ K = 23 ∨ K = 24 ∨ K = 25 ∨ K = 26 ∨ K = 27 ∨ K = 28 ∨ K = 29 ∨ K = 30 ∨ K = 31 ∨ K = 32 := by omega
      rcases h3 with e | e | e | e | e | e | e | e | e | e | e | e | e <;> subst e <;> simp [tellX, levX, cosX]
    · simp [c2]
theorem x_row {I : Nat → Int32} {A : Nat → Nat → Int32} {K : Int} (h : HK I A K) : fX5_mayStandInRow I A = if K = 2 ∨ ((I 8).toInt = 0 ∧ (K = 9 ∨ K = 4)) then 1 else 0 := by
  unfold fX5_mayStandInRow
  obtain ⟨k0, k2, k3, k4, k1, -⟩ := h
  by_cases c1 : (I 1).toInt = 2
  · rw [if_neg (fun h9 => h9 c1), if_pos (Or.inl (k2.mpr c1))]
  · rw [if_pos c1]
    by_cases c8 : (I 8).toInt = 0
    · rw [if_neg (fun h9 => h9 c8)]
      by_cases c4 : (I 1).toInt = 4
      · rw [if_pos c4, if_pos (Or.inr ⟨c8, Or.inl (k4.mpr c4)⟩)]
      · rw [if_neg c4]
        by_cases c3 : (I 1).toInt = 3
        · rw [if_neg (fun h9 => h9 c3), if_pos (Or.inr ⟨c8, Or.inr (k3.mpr c3)⟩)]
        · rw [if_pos c3, if_neg (by omega)]
    · rw [if_pos c8, if_neg (by omega)]
theorem x_choice {I : Nat → Int32} {A : Nat → Nat → Int32} {K : Int} (h : HK I A K) : fX5_choiceAtHand I A = if (I 7).toInt = 1 then levX K else cosX K := by
  unfold fX5_choiceAtHand
  dsimp only [f_lt]
  rw [x_lev h, x_cos h]
  by_cases c : (I 7).toInt = 1
  · rw [if_neg (fun h9 => h9 c), if_pos c]
  · rw [if_pos c, if_neg c]
    unfold cosX
    by_cases h1 : K = 31
    · simp [h1]
    · by_cases h2 : K = 32
      · simp [h2]
      · simp [h1, h2]
/-- from this state on the class's reading answers R -/
def Ev (I : Nat → Int32) (A : Nat → Nat → Int32) (R : Int32 × (Nat → Int32) × (Nat → Nat → Int32)) : Prop := ∀ (m : Nat) (x : Int32), x.toInt + 1 = (I 4).toInt → x.toInt ≤ 400 → 403 - x.toInt < (m : Int) → itr_iIA dfX bX5_readText_6 m x I A = R
def SX : List Nat := [1, 2, 3, 4, 5, 6, 7, 8, 9, 10, 11, 12, 13, 14, 16]
def SXA : List Nat := [1, 2, 3, 4, 5, 6]
def Red (I : Nat → Int32) (A : Nat → Nat → Int32) (I' : Nat → Int32) (A' : Nat → Nat → Int32) : Prop := (∀ R, Ev I' A' R → Ev I A R) ∧ Md SX I I' ∧ Md SXA A A'
theorem Red.rf {I : Nat → Int32} {A : Nat → Nat → Int32} : Red I A I A := ⟨fun _ h => h, Md.rf, Md.rf⟩
theorem Red.tr {I I1 I2 : Nat → Int32} {A A1 A2 : Nat → Nat → Int32} (h : Red I A I1 A1) (h2 : Red I1 A1 I2 A2) : Red I A I2 A2 := ⟨fun R hR => h.1 R (h2.1 R hR), Md.tr h.2.1 h2.2.1 rfl, Md.tr h.2.2 h2.2.2 rfl⟩
def stopI (I : Nat → Int32) (k : Int32) : Nat → Int32 := upd (upd (upd (upd I 10 1) 11 k) 12 (I 2)) 13 (I 9)
theorem x_stop {I : Nat → Int32} {A : Nat → Nat → Int32} {k : Int32} : fX5_stop I A k = (0, stopI I k, A) := rfl
theorem ev_stopped {I : Nat → Int32} {A : Nat → Nat → Int32} {k : Int32} (m : Nat) (x : Int32) (hm : 0 < m) : itr_iIA dfX bX5_readText_6 m x (stopI I k) A = (k, stopI I k, A) := by
  cases m with
  | zero => omega
  | succ m =>
    show bX5_readText_6 (itr_iIA dfX bX5_readText_6 m) x (stopI I k) A = _
    obtain ⟨G, hG⟩ : ∃ G, G = itr_iIA dfX bX5_readText_6 m := ⟨_, rfl⟩
    rw [← hG]
    unfold bX5_readText_6
    have h10 : stopI I k 10 = 1 := rfl
    have h11 : stopI I k 11 = k := rfl
    rw [h10, h11]
    by_cases h : 400 < x.toInt
    · rw [if_pos h, if_pos (by decide)]
    · rw [if_neg h, if_pos (by decide), if_pos (by decide)]
theorem ev_step {I : Nat → Int32} {A : Nat → Nat → Int32} {R : Int32 × (Nat → Int32) × (Nat → Nat → Int32)} (h : ∀ (m : Nat) (x : Int32) (G : Int32 → (Nat → Int32) → (Nat → Nat → Int32) → (Int32 × (Nat → Int32) × (Nat → Nat → Int32))), G = itr_iIA dfX bX5_readText_6 m → x.toInt + 1 = (I 4).toInt → x.toInt ≤ 400 → 402 - x.toInt < (m : Int) → bX5_readText_6 G x I A = R) : Ev I A R := by
  intro m x h1 h2 h3
  cases m with
  | zero => omega
  | succ m => exact h m x _ rfl h1 h2 (by omega)
theorem ev_syntax {I : Nat → Int32} {A : Nat → Nat → Int32} (h10 : (I 10).toInt = 0) (h1 : (I 1).toInt ≠ 0) (hm : fX5_mayStand I A = 0) : Ev I A (1, stopI I 1, A) := by
  refine ev_step (fun m x G hG e1 e2 e3 => ?_)
  unfold bX5_readText_6
  rw [if_neg (by omega), if_neg (fun h9 => h9 h10), if_neg h1, if_pos hm, x_stop]
  show G (x + Int32.ofInt 1) (stopI I 1) A = _
  rw [hG]
  exact ev_stopped m _ (by omega)
theorem ev_room {I : Nat → Int32} {A : Nat → Nat → Int32} (h10 : (I 10).toInt = 0) (h1 : (I 1).toInt ≠ 0) (hm : fX5_mayStand I A = 1) (hr : fX5_hasRoom I A = 0) : Ev I A (2, stopI I 2, A) := by
  refine ev_step (fun m x G hG e1 e2 e3 => ?_)
  unfold bX5_readText_6
  rw [if_neg (by omega), if_neg (fun h9 => h9 h10), if_neg h1, if_neg (by rw [hm]; decide), if_pos hr, x_stop]
  show G (x + Int32.ofInt 1) (stopI I 2) A = _
  rw [hG]
  exact ev_stopped m _ (by omega)
theorem ev_end {I : Nat → Int32} {A : Nat → Nat → Int32} (h10 : (I 10).toInt = 0) (h1 : (I 1).toInt = 0) (h6 : (I 6).toInt = 0) : Ev I A (I 11, I, A) := by
  refine ev_step (fun m x G hG e1 e2 e3 => ?_)
  unfold bX5_readText_6
  rw [if_neg (by omega), if_neg (fun h9 => h9 h10), if_pos h1, if_pos h6]
theorem ev_endS {I : Nat → Int32} {A : Nat → Nat → Int32} (h10 : (I 10).toInt = 0) (h1 : (I 1).toInt = 0) (h6 : (I 6).toInt ≠ 0) : Ev I A (1, stopI I 1, A) := by
  refine ev_step (fun m x G hG e1 e2 e3 => ?_)
  unfold bX5_readText_6
  rw [if_neg (by omega), if_neg (fun h9 => h9 h10), if_pos h1, if_neg h6, x_stop]
  rfl
theorem ev_go {I I1 I2 : Nat → Int32} {A A1 A2 : Nat → Nat → Int32} (h10 : (I 10).toInt = 0) (h1 : (I 1).toInt ≠ 0) (hm : fX5_mayStand I A = 1) (hr : fX5_hasRoom I A = 1) (ha : fX5_accept I A = (0, I1, A1)) (ht : fX10_toNextToken I1 A1 = (0, I2, A2)) (h4 : I2 4 = I 4 + 1) (h4b : (I 4).toInt ≤ 400) (hM : Md SX I I2) (hMA : Md SXA A A2) : Red I A I2 A2 := by
  refine ⟨fun R hR => ?_, hM, hMA⟩
  refine ev_step (fun m x G hG e1 e2 e3 => ?_)
  unfold bX5_readText_6
  rw [if_neg (by omega), if_neg (fun h9 => h9 h10), if_neg h1, if_neg (by rw [hm]; decide), if_neg (by rw [hr]; decide), ha]
  show f_bdX (fX10_toNextToken I1 A1) (fun _ I3 A3 => G (x + Int32.ofInt 1) I3 A3) = R
  rw [ht]
  show G (x + Int32.ofInt 1) I2 A2 = R
  rw [hG]
  have hx : (x + Int32.ofInt 1).toInt = x.toInt + 1 := i32_inc (by omega)
  exact hR m (x + Int32.ofInt 1) (by rw [h4, hx, i32_inc (by omega)]; omega) (by omega) (by omega)
/-- the class's reading ends with this FAULT -/
def XF (I : Nat → Int32) (A : Nat → Nat → Int32) (k pl ca : Int32) : Prop := ∃ (I' : Nat → Int32) (A' : Nat → Nat → Int32), Ev I A (k, I', A') ∧ I' 12 = pl ∧ I' 13 = ca ∧ Md SX I I' ∧ Md SXA A A'
theorem XF.red {I I1 : Nat → Int32} {A A1 : Nat → Nat → Int32} {k pl ca : Int32} (h : Red I A I1 A1) (h2 : XF I1 A1 k pl ca) : XF I A k pl ca := by
  obtain ⟨I', A', a, b, c, d, e⟩ := h2
  exact ⟨I', A', h.1 _ a, b, c, Md.tr h.2.1 d rfl, Md.tr h.2.2 e rfl⟩
theorem stopI_md {I : Nat → Int32} {k : Int32} : Md SX I (stopI I k) := Md.up (Md.up (Md.up (Md.up Md.rf rfl) rfl) rfl) rfl
theorem xf_syntax {I : Nat → Int32} {A : Nat → Nat → Int32} (h10 : (I 10).toInt = 0) (h : (I 1).toInt = 0 ∧ (I 6).toInt ≠ 0 ∨ (I 1).toInt ≠ 0 ∧ fX5_mayStand I A = 0) : XF I A 1 (I 2) (I 9) := by
  rcases h with h | h
  · exact ⟨_, _, ev_endS h10 h.1 h.2, rfl, rfl, stopI_md, Md.rf⟩
  · exact ⟨_, _, ev_syntax h10 h.1 h.2, rfl, rfl, stopI_md, Md.rf⟩
theorem xf_room {I : Nat → Int32} {A : Nat → Nat → Int32} (h10 : (I 10).toInt = 0) (h1 : (I 1).toInt ≠ 0) (hm : fX5_mayStand I A = 1) (hr : fX5_hasRoom I A = 0) : XF I A 2 (I 2) (I 9) := ⟨_, _, ev_room h10 h1 hm hr, rfl, rfl, stopI_md, Md.rf⟩
end
section
/-- what the class does with a TOKEN, state by state -/
def markI (I : Nat → Int32) (k : Int32) : Nat → Int32 := if (I 11).toInt ≠ 0 then I else upd (upd (upd I 11 k) 12 (I 2)) 13 (I 9)
theorem x_mark {I : Nat → Int32} {A : Nat → Nat → Int32} {k : Int32} : fX5_mark I A k = (0, markI I k, A) := by
  unfold fX5_mark markI
  by_cases h : (I 11).toInt ≠ 0
  · rw [if_pos h, if_pos h]
  · rw [if_neg h, if_neg h]; rfl
theorem markI_o {I : Nat → Int32} {k : Int32} {j : Nat} (h : j ≠ 11) (h2 : j ≠ 12) (h3 : j ≠ 13) : markI I k j = I j := by
  unfold markI
  by_cases h9 : (I 11).toInt ≠ 0
  · rw [if_pos h9]
  · rw [if_neg h9, upd_ne h3, upd_ne h2, upd_ne h]
theorem markI_md {I : Nat → Int32} {k : Int32} : Md [11, 12, 13] I (markI I k) := by
  unfold markI
  by_cases h9 : (I 11).toInt ≠ 0
  · rw [if_pos h9]; exact Md.rf
  · rw [if_neg h9]; exact Md.up (Md.up (Md.up Md.rf rfl) rfl) rfl
theorem a_tell {I : Nat → Int32} {A : Nat → Nat → Int32} {K : Int} {y : Int32} (h : HK I A K) (h6 : (I 6).toInt = 0) (hy : tellX K = y) (h0 : 0 ≤ y.toInt) : fX5_mayStand I A = 1 ∧ ((I 4).toInt ≤ 400 → fX5_hasRoom I A = if y.toInt = 5 ∧ 5 ≤ (I 16).toInt then 0 else 1) ∧ fX5_accept I A = f_bdX (fX5_beginTell I A) (fun _ I2 A2 => (0, I2, A2)) := by
  have e : fX5_tellAtHand I A = y := by rw [x_tell h, hy]
  refine ⟨?_, fun h4 => ?_, ?_⟩
  · unfold fX5_mayStand
    rw [if_pos h6, e]
    show (if y.toInt < 0 then (0 : Int32) else 1) = 1
    rw [if_neg (by omega)]
  · unfold fX5_hasRoom
    rw [if_pos h4, if_pos h6, e]
    show (if y.toInt ≠ 5 then (1 : Int32) else if 5 ≤ (I 16).toInt then 0 else 1) = _
    by_cases c : y.toInt = 5
    · rw [if_neg (fun h9 => h9 c)]
      by_cases c2 : 5 ≤ (I 16).toInt
      · rw [if_pos c2, if_pos ⟨c, c2⟩]
      · rw [if_neg c2, if_neg (fun h9 => c2 h9.2)]
    · rw [if_pos c, if_neg (fun h9 => c h9.1)]
  · unfold fX5_accept
    rw [if_pos h6]
theorem a_tell_no {I : Nat → Int32} {A : Nat → Nat → Int32} {K : Int} (h : HK I A K) (h6 : (I 6).toInt = 0) (hK : ¬ (20 ≤ K ∧ K ≤ 25)) : fX5_mayStand I A = 0 := by
  unfold fX5_mayStand
  rw [if_pos h6, x_tell h]
  have e : tellX K = -1 := by
    unfold tellX
    rw [if_neg (by omega), if_neg (by omega), if_neg (by omega), if_neg (by omega), if_neg (by omega), if_neg (by omega)]
  rw [e]; rfl
theorem a_begin {I : Nat → Int32} {A : Nat → Nat → Int32} {K : Int} {y : Int32} (h : HK I A K) (hy : tellX K = y) : fX5_beginTell I A = (if y.toInt = 0 then (0, (upd (upd I 7 y) 6 4), A) else if y.toInt = 1 then (0, (upd (upd I 7 y) 6 5), A) else if y.toInt = 2 then (0, (upd (upd I 7 y) 6 5), A) else if y.toInt = 3 then (0, (upd (upd I 7 y) 6 4), A) else if y.toInt = 4 then (0, (upd (upd (upd I 7 y) 6 1) 9 0), A) else if y.toInt = 5 then (0, (upd (upd (upd I 7 y) 6 2) 9 0), A) else (0, (upd (upd I 7 y) 6 5), A)) := by
  unfold fX5_beginTell
  rw [x_tell h, hy]; rfl
/-- in a row: what may stand, what has room -/
theorem a_row {I : Nat → Int32} {A : Nat → Nat → Int32} {K : Int} (h : HK I A K) (h6 : (I 6).toInt = 1 ∨ (I 6).toInt = 3) : (fX5_mayStand I A = if (K = 2 ∨ ((I 8).toInt = 0 ∧ (K = 9 ∨ K = 4))) ∨ ((I 6).toInt = 1 ∧ (I 8).toInt = 0 ∧ K = 26) then 1 else 0) ∧ ((I 4).toInt ≤ 400 → fX5_hasRoom I A = if K = 4 ∨ ((I 6).toInt = 1 ∧ (I 14).toInt < 160) ∨ ((I 6).toInt = 3 ∧ (I 9).toInt < 16) then 1 else 0) ∧ fX5_accept I A = f_bdX (fX5_acceptInRow I A) (fun _ I2 A2 => (0, I2, A2)) := by
  have hr := x_row h
  have k3 := h.2.2.1
  refine ⟨?_, fun h4 => ?_, ?_⟩
  · unfold fX5_mayStand
    rcases h6 with h6 | h6
    · rw [if_neg (by omega), if_pos h6, hr, hw0 h]
      by_cases c : K = 2 ∨ ((I 8).toInt = 0 ∧ (K = 9 ∨ K = 4))
      · rw [if_pos c, if_pos (Or.inl c)]; rfl
      · rw [if_neg c, if_pos rfl]
        by_cases c8 : (I 8).toInt = 0
        · rw [if_neg (fun h9 => h9 c8)]
          by_cases c26 : K = 26
          · rw [if_pos c26, if_pos (Or.inr ⟨h6, c8, c26⟩)]; rfl
          · rw [if_neg c26, if_pos rfl, if_neg (by omega)]
        · rw [if_pos c8, if_neg (by omega)]
    · rw [if_neg (by omega), if_neg (by omega), if_neg (by omega), if_pos h6, hr]
      by_cases c : K = 2 ∨ ((I 8).toInt = 0 ∧ (K = 9 ∨ K = 4))
      · rw [if_pos c, if_pos (Or.inl c)]; rfl
      · rw [if_neg c, if_pos rfl, if_neg (by omega)]
  · unfold fX5_hasRoom
    rcases h6 with h6 | h6
    · rw [if_pos h4, if_neg (by omega), if_pos h6]
      by_cases c : (I 1).toInt = 3
      · rw [if_pos c, if_pos (Or.inl (k3.mpr c))]
      · rw [if_neg c]
        by_cases c2 : 160 ≤ (I 14).toInt
        · rw [if_pos c2, if_neg (by omega)]
        · rw [if_neg c2, if_pos (by omega)]
    · rw [if_pos h4, if_neg (by omega), if_neg (by omega), if_neg (by omega), if_pos h6]
      by_cases c : (I 1).toInt = 3
      · rw [if_pos c, if_pos (Or.inl (k3.mpr c))]
      · rw [if_neg c]
        by_cases c2 : 16 ≤ (I 9).toInt
        · rw [if_pos c2, if_neg (by omega)]
        · rw [if_neg c2, if_pos (by omega)]
  · unfold fX5_accept
    rcases h6 with h6 | h6
    · rw [if_neg (by omega), if_pos h6]
    · rw [if_neg (by omega), if_neg (by omega), if_neg (by omega), if_pos h6]
/-- a value kept in a row -/
def kpI (I : Nat → Int32) : Nat → Int32 := if (I 6).toInt = 1 then upd (upd (upd I 14 (I 14 + 1)) 9 (I 9 + 1)) 8 0 else upd (upd I 9 (I 9 + 1)) 8 0
def kpA (I : Nat → Int32) (A : Nat → Nat → Int32) (v : Int32) : Nat → Nat → Int32 := if (I 6).toInt = 1 then up3 A 1 (I 14).toNatClampNeg v else up3 (up3 A 3 ((I 16 - 1) * 16 + A 4 (I 16 - 1).toNatClampNeg).toNatClampNeg v) 4 (I 16 - 1).toNatClampNeg (A 4 (I 16 - 1).toNatClampNeg + 1)
theorem x_keep {I : Nat → Int32} {A : Nat → Nat → Int32} {v : Int32} (h1 : (I 6).toInt = 1 → 0 ≤ (I 14).toInt ∧ (I 14).toInt < 160) (h3 : (I 6).toInt ≠ 1 → 1 ≤ (I 16).toInt ∧ (I 16).toInt ≤ 5 ∧ (A 4 (I 16 - 1).toNatClampNeg).toInt < 16) : fX5_keepInRow I A v = (0, kpI I, kpA I A v) := by
  unfold fX5_keepInRow kpI kpA
  by_cases c : (I 6).toInt = 1
  · rw [if_neg (fun h9 => h9 c), if_pos c, if_pos c]
    have h9 := h1 c
    have e : fX8_append I A v = (0, upd I 14 (I 14 + 1), up3 A 1 (I 14).toNatClampNeg v) := by
      unfold fX8_append
      rw [if_neg (by omega), if_neg (by omega)]; rfl
    rw [e]; rfl
  · rw [if_pos c, if_neg c, if_neg c]
    have h9 := h3 c
    have e0 : (I 16 - 1).toInt = (I 16).toInt - 1 := i32_sub rfl rfl rfl (by omega) (by omega)
    have e1 : fX4_has I A (I 16 - 1) = 1 := by
      unfold fX4_has
      first
        | (rw [if_neg (by omega), if_neg (by omega), if_neg (by omega)])
        | (rw [if_neg (by omega), if_neg (by omega)])
        | (rw [if_neg (by omega), if_pos (by omega)])
    have e : fX4_append I A v = (0, I, up3 (up3 A 3 ((I 16 - 1) * 16 + A 4 (I 16 - 1).toNatClampNeg).toNatClampNeg v) 4 (I 16 - 1).toNatClampNeg (A 4 (I 16 - 1).toNatClampNeg + 1)) := by
      unfold fX4_append
      dsimp only [f_lt]
      rw [e1, if_neg (by decide), if_neg (by omega)]
    rw [e]; rfl
end
section
theorem x_semi {I : Nat → Int32} {A : Nat → Nat → Int32} (h1 : (I 1).toInt = 3) : fX5_acceptInRow I A = if (I 6).toInt = 3 ∧ (I 9).toInt < 2 then (0, upd (upd (markI I 6) 6 0) 9 (-2), A) else (0, upd (upd I 6 0) 9 (-2), A) := by
  unfold fX5_acceptInRow
  rw [if_neg (fun h9 => h9 h1)]
  by_cases c : (I 6).toInt = 3
  · rw [if_neg (fun h9 => h9 c)]
    by_cases c2 : 2 ≤ (I 9).toInt
    · rw [if_pos c2, if_neg (by omega)]
    · rw [if_neg c2, if_pos (by omega), x_mark]; rfl
  · rw [if_pos c, if_neg (by omega)]
theorem x_minus {I : Nat → Int32} {A : Nat → Nat → Int32} (h1 : (I 1).toInt = 4) : fX5_acceptInRow I A = (0, upd I 8 1, A) := by
  unfold fX5_acceptInRow
  rw [if_pos (by omega), if_neg (fun h9 => h9 h1)]
theorem x_gap {I : Nat → Int32} {A : Nat → Nat → Int32} (h1 : (I 1).toInt = 1) (h6 : (I 6).toInt = 1) (h : 0 ≤ (I 14).toInt ∧ (I 14).toInt < 160) : fX5_acceptInRow I A = (0, kpI I, kpA I A (-1000)) := by
  unfold fX5_acceptInRow
  rw [if_pos (by omega), if_pos (by omega), if_pos (by omega), x_keep (fun _ => h) (fun h9 => absurd h6 h9)]; rfl
def nvI (I : Nat → Int32) : Int32 := if (I 8).toInt = 0 then I 3 else -(I 3)
def mkI (I : Nat → Int32) : Nat → Int32 := if (I 3).toInt ≤ 999 then I else markI I 5
theorem mkI_o {I : Nat → Int32} {j : Nat} (h : j ≠ 11) (h2 : j ≠ 12) (h3 : j ≠ 13) : mkI I j = I j := by
  unfold mkI
  by_cases h9 : (I 3).toInt ≤ 999
  · rw [if_pos h9]
  · rw [if_neg h9]; exact markI_o h h2 h3
theorem x_int {I : Nat → Int32} {A : Nat → Nat → Int32} (h1 : (I 1).toInt = 2) (h3 : (I 6).toInt = 1 → 0 ≤ (I 14).toInt ∧ (I 14).toInt < 160) (h4 : (I 6).toInt ≠ 1 → 1 ≤ (I 16).toInt ∧ (I 16).toInt ≤ 5 ∧ (A 4 (I 16 - 1).toNatClampNeg).toInt < 16) : fX5_acceptInRow I A = (0, kpI (mkI I), kpA (mkI I) A (nvI I)) := by
  have e6 : mkI I 6 = I 6 := mkI_o (by decide) (by decide) (by decide)
  have e14 : mkI I 14 = I 14 := mkI_o (by decide) (by decide) (by decide)
  have e16 : mkI I 16 = I 16 := mkI_o (by decide) (by decide) (by decide)
  have e8 : mkI I 8 = I 8 := mkI_o (by decide) (by decide) (by decide)
  rw [← x_keep (I := mkI I) (A := A) (v := nvI I) (by rw [e6, e14]; exact h3) (by rw [e6, e16]; exact h4)]
  unfold fX5_acceptInRow mkI nvI
  rw [if_pos (by omega), if_pos (by omega), if_neg (fun h9 => h9 h1)]
  by_cases c : (I 3).toInt ≤ 999
  · rw [if_pos c, if_pos c]
    by_cases c8 : (I 8).toInt = 0
    · rw [if_pos c8, if_pos c8]
      rw [x_keep h3 h4]; rfl
    · rw [if_neg c8, if_neg c8]
      dsimp only [f_lt]
      rw [x_keep h3 h4]; rfl
  · rw [if_neg c, if_neg c, x_mark]
    have g6 : markI I 5 6 = I 6 := markI_o (by decide) (by decide) (by decide)
    have g14 : markI I 5 14 = I 14 := markI_o (by decide) (by decide) (by decide)
    have g16 : markI I 5 16 = I 16 := markI_o (by decide) (by decide) (by decide)
    show (if (I 8).toInt = 0 then f_bdX (fX5_keepInRow (markI I 5) A (I 3)) (fun _ I2 A2 => (0, I2, A2)) else f_lt (-(I 3)) fun y => f_bdX (fX5_keepInRow (markI I 5) A y) (fun _ I2 A2 => (0, I2, A2))) = _
    by_cases c8 : (I 8).toInt = 0
    · rw [if_pos c8, if_pos c8]
      rw [x_keep (I := markI I 5) (by rw [g6, g14]; exact h3) (by rw [g6, g16]; exact h4)]; rfl
    · rw [if_neg c8, if_neg c8]
      dsimp only [f_lt]
      rw [x_keep (I := markI I 5) (by rw [g6, g14]; exact h3) (by rw [g6, g16]; exact h4)]; rfl
/-! the reference's small methods -/
theorem m_is0 {J : Nat → Int32} {B : Nat → Nat → Int32} {L : Nat → Nat → Int64} {z : Int32} {t : Nat} (h6 : (J 6).toInt = 0) (h4 : (J 4).toInt = (t : Int)) : fM12_is J B L z = if (B 2 t).toInt = z.toInt then 1 else 0 := by
  unfold fM12_is
  rw [if_neg (fun h9 => h9 h6), clN h4]
  by_cases c : (B 2 t).toInt = z.toInt
  · rw [if_neg (fun h9 => h9 c), if_pos c]
  · rw [if_pos c, if_neg c]
theorem m_isF {J : Nat → Int32} {B : Nat → Nat → Int32} {L : Nat → Nat → Int64} {z : Int32} (h6 : (J 6).toInt ≠ 0) : fM12_is J B L z = 0 := by
  unfold fM12_is
  rw [if_pos h6]
def failJ (J : Nat → Int32) (B : Nat → Nat → Int32) (t : Nat) (k : Int32) : Nat → Int32 := upd (upd (upd J 6 k) 7 (B 3 t)) 12 (J 11)
theorem m_fail0 {J : Nat → Int32} {B : Nat → Nat → Int32} {L : Nat → Nat → Int64} {k : Int32} {t : Nat} (h6 : (J 6).toInt = 0) (h4 : (J 4).toInt = (t : Int)) : fM12_fail J B L k = (0, failJ J B t k, B, L) := by
  unfold fM12_fail failJ
  rw [if_pos (by omega), clN h4]
theorem m_failF {J : Nat → Int32} {B : Nat → Nat → Int32} {L : Nat → Nat → Int64} {k : Int32} (h6 : 0 < (J 6).toInt) : fM12_fail J B L k = (0, J, B, L) := by
  unfold fM12_fail
  rw [if_neg (by omega)]
theorem m_goes {J : Nat → Int32} {B : Nat → Nat → Int32} {L : Nat → Nat → Int64} {t : Nat} (h6 : (J 6).toInt = 0) (h4 : (J 4).toInt = (t : Int)) : fM12_goesOn J B L = if t = 400 then (0, failJ J B t 2, B, L) else (0, upd J 4 (J 4 + 1), B, L) := by
  unfold fM12_goesOn
  by_cases c : t = 400
  · rw [if_neg (by omega), if_pos c, m_fail0 h6 h4]; rfl
  · rw [if_pos (by omega), if_neg c]; rfl
theorem m_must0 {J : Nat → Int32} {B : Nat → Nat → Int32} {L : Nat → Nat → Int64} {z : Int32} {t : Nat} (h6 : (J 6).toInt = 0) (h4 : (J 4).toInt = (t : Int)) : fM12_must J B L z = if (B 2 t).toInt = z.toInt then (if t = 400 then (0, failJ J B t 2, B, L) else (0, upd J 4 (J 4 + 1), B, L)) else (0, failJ J B t 1, B, L) := by
  unfold fM12_must
  rw [m_is0 h6 h4, m_goes h6 h4, m_fail0 h6 h4]
  by_cases c : (B 2 t).toInt = z.toInt
  · rw [if_pos c, if_pos c, if_neg (by decide)]
    by_cases c2 : t = 400
    · rw [if_pos c2]; rfl
    · rw [if_neg c2]; rfl
  · rw [if_neg c, if_neg c, if_pos rfl]; rfl
theorem m_mustF {J : Nat → Int32} {B : Nat → Nat → Int32} {L : Nat → Nat → Int64} {z : Int32} (h6 : 0 < (J 6).toInt) : fM12_must J B L z = (0, J, B, L) := by
  unfold fM12_must
  rw [m_isF (by omega), if_pos rfl, m_failF h6]; rfl
/-- marks: the class's fault that waits is the reference's worst one -/
def WRK (I J : Nat → Int32) (p : Int) : Prop := J 8 = I 11 ∧ 0 ≤ (I 11).toInt ∧ ((I 11).toInt = 0 → I 12 = -1 ∧ I 13 = -1) ∧ ((I 11).toInt ≠ 0 → J 9 = I 12 ∧ J 13 = I 13 ∧ (I 12).toInt < p)
theorem m_wrong {I J : Nat → Int32} {B : Nat → Nat → Int32} {L : Nat → Nat → Int64} {k z : Int32} {p : Int} (hW : WRK I J p) (hp : p ≤ (I 2).toInt + 1) (hk : (I 11).toInt ≠ 0 → (I 12).toInt = (I 2).toInt → (I 11).toInt ≤ k.toInt) (h6 : (J 6).toInt = 0) (h11 : J 11 = I 9) (hB : B 3 z.toNatClampNeg = I 2) (hk0 : 0 < k.toInt) : ∃ J1 : Nat → Int32, fM12_wrong J B L k z = (0, J1, B, L) ∧ Md [8, 9, 13] J J1 ∧ WRK (markI I k) J1 ((I 2).toInt + 1) := by
  obtain ⟨w1, w2, w3, w4⟩ := hW
  unfold fM12_wrong markI
  rw [if_neg (by omega), hB, w1]
  by_cases c : (I 11).toInt = 0
  · rw [if_pos c, if_neg (fun h9 => h9 c)]
    refine ⟨_, rfl, Md.up (Md.up (Md.up Md.rf rfl) rfl) rfl, rfl, ?_, fun h9 => ?_, fun _ => ⟨rfl, h11, ?_⟩⟩
    · show 0 ≤ k.toInt; omega
    · have h8 : k.toInt = 0 := h9
      omega
    · show (I 2).toInt < (I 2).toInt + 1; omega
  · obtain ⟨a1, a2, a3⟩ := w4 c
    rw [if_neg c, if_pos c]
    have hJ : WRK I J ((I 2).toInt + 1) := ⟨w1, w2, w3, fun h9 => ⟨a1, a2, by omega⟩⟩
    rw [a1]
    by_cases c2 : (I 12).toInt < (I 2).toInt
    · rw [if_pos c2]
      exact ⟨J, rfl, Md.rf, hJ⟩
    · have h9 := hk c (by omega)
      rw [if_neg c2, if_neg (by omega), if_neg (by omega)]
      exact ⟨J, rfl, Md.rf, hJ⟩
end
section
def MJ : List Nat := [4, 6, 7, 8, 9, 11, 12, 13, 17]
def MB : List Nat := [8, 9, 10, 11, 12, 13, 14, 15, 16]
/-- the side that goes on keeps its QUERIES -/
def FRM (σ : Nat) (B0 B : Nat → Nat → Int32) : Prop := B 10 (1 - σ) = B0 10 (1 - σ) ∧ (∀ q, q < 5 → B 11 (5 * (1 - σ) + q) = B0 11 (5 * (1 - σ) + q)) ∧ (∀ i, i < 80 → B 12 (80 * (1 - σ) + i) = B0 12 (80 * (1 - σ) + i))
def BASE (n c : Nat) (pos : Nat → Nat) (A0 B0 : Nat → Nat → Int32) (L0 : Nat → Nat → Int64) (J0 : Nat → Int32) (σ : Nat) (I : Nat → Int32) (A : Nat → Nat → Int32) (J : Nat → Int32) (B : Nat → Nat → Int32) (L : Nat → Nat → Int64) (t : Nat) : Prop :=
  HAND n c pos A0 I A t ∧ Md MJ J0 J ∧ Md MB B0 B ∧ Md [7] L0 L ∧ FRM σ B0 B ∧ (J 4).toInt = (t : Int) ∧ (J 6).toInt = 0 ∧ (I 10).toInt = 0 ∧ (J0 16).toInt = (σ : Int) ∧ σ ≤ 1
def CV (k v w : Int32) : Prop := (v = -1000 ∧ w = 100000) ∨ (w = v ∧ (k.toInt = 0 → -999 ≤ v.toInt ∧ v.toInt ≤ 999))
def SOK (A : Nat → Nat → Int32) : Prop := (0 ≤ (A 2 0).toInt ∧ (A 2 0).toInt ≤ 15) ∧ (0 ≤ (A 2 1).toInt ∧ (A 2 1).toInt ≤ 3) ∧ (0 ≤ (A 2 2).toInt ∧ (A 2 2).toInt ≤ 1) ∧ (1 ≤ (A 2 3).toInt ∧ (A 2 3).toInt ≤ 99)
def DRF (σ : Nat) (I : Nat → Int32) (A B : Nat → Nat → Int32) : Prop := B 8 σ = I 14 ∧ 0 ≤ (I 14).toInt ∧ (I 14).toInt ≤ 160 ∧ (∀ j : Nat, (j : Int) < (I 14).toInt → CV (I 11) (A 1 j) (B 9 (160 * σ + j))) ∧ (B 13 σ = A 2 0 ∧ B 14 σ = A 2 1 ∧ B 15 σ = A 2 2 ∧ B 16 σ = A 2 3) ∧ ((I 11).toInt = 0 → SOK A)
def QRY (σ q : Nat) (I : Nat → Int32) (A B : Nat → Nat → Int32) : Prop := A 4 q = B 11 (5 * σ + q) ∧ 0 ≤ (A 4 q).toInt ∧ (A 4 q).toInt ≤ 16 ∧ (∀ i : Nat, (i : Int) < (A 4 q).toInt → A 3 (16 * q + i) = B 12 (80 * σ + (16 * q + i)) ∧ ((I 11).toInt = 0 → -999 ≤ (A 3 (16 * q + i)).toInt ∧ (A 3 (16 * q + i)).toInt ≤ 999))
def NAM (n q : Nat) (A0 A : Nat → Nat → Int32) (w : Int64) : Prop := ∃ s k : Nat, (A 5 q).toInt = (s : Int) ∧ (A 6 q).toInt = (k : Int) ∧ k ≤ 8 ∧ s + k ≤ n ∧ (∀ j, s ≤ j → j < s + k → isL (bt A0 j)) ∧ w.toInt = enc (bt A0) s k
def QRS (n : Nat) (A0 : Nat → Nat → Int32) (σ nq : Nat) (I : Nat → Int32) (A : Nat → Nat → Int32) (J : Nat → Int32) (B : Nat → Nat → Int32) (L : Nat → Nat → Int64) : Prop := (B 10 σ).toInt = (nq : Int) ∧ (J 17).toInt = (nq : Int) ∧ nq ≤ 5 ∧ ∀ q, q < nq → QRY σ q I A B ∧ ((I 11).toInt = 0 → 2 ≤ (A 4 q).toInt) ∧ NAM n q A0 A (L 7 q)
def FLT (I : Nat → Int32) (A : Nat → Nat → Int32) (J' : Nat → Int32) : Prop := 0 < (J' 6).toInt ∧ XF I A (J' 6) (J' 7) (J' 12)
theorem FLT.red {I I1 J' : Nat → Int32} {A A1 : Nat → Nat → Int32} (h : Red I A I1 A1) (h2 : FLT I1 A1 J') : FLT I A J' := ⟨h2.1, XF.red h h2.2⟩
theorem failJ_md {J : Nat → Int32} {B : Nat → Nat → Int32} {t : Nat} {k : Int32} : Md MJ J (failJ J B t k) := Md.up (Md.up (Md.up Md.rf rfl) rfl) rfl
theorem flt_fail {I J : Nat → Int32} {A B : Nat → Nat → Int32} {t : Nat} {k : Int32} (hk : 0 < k.toInt) (hB : B 3 t = I 2) (h11 : J 11 = I 9) (h : XF I A k (I 2) (I 9)) : FLT I A (failJ J B t k) := by
  refine ⟨hk, ?_⟩
  show XF I A k (B 3 t) (J 11)
  rw [hB, h11]; exact h
/-- a TOKEN that may stand: both go on, or it is the 401st -/
theorem sim_go {n c t : Nat} {pos : Nat → Nat} {A0 B0 : Nat → Nat → Int32} {L0 : Nat → Nat → Int64} {I I1 J : Nat → Int32} {A A1 B : Nat → Nat → Int32} {L : Nat → Nat → Int64} (hE : ENV n c pos A0 B0 L0) (hH : HAND n c pos A0 I A t) (h10 : (I 10).toInt = 0) (hK : (B0 2 t).toInt ≠ 0) (h4 : (J 4).toInt = (t : Int)) (h6 : (J 6).toInt = 0) (h11 : J 11 = I 9) (hB : B 3 = B0 3) (hm : fX5_mayStand I A = 1) (hr : (I 4).toInt ≤ 400 → fX5_hasRoom I A = 1) (ha : fX5_accept I A = (0, I1, A1)) (e0 : I1 0 = I 0) (e4 : I1 4 = I 4) (e5 : I1 5 = I 5) (eA : A1 0 = A 0) (M1 : Md SX I I1) (M2 : Md SXA A A1) : ∃ J' : Nat → Int32, fM12_goesOn J B L = (0, J', B, L) ∧ ((FLT I A J' ∧ Md MJ J J') ∨ (t ≠ 400 ∧ J' = upd J 4 (J 4 + 1) ∧ (J' 4).toInt = ((t + 1 : Nat) : Int) ∧ ∃ I2 : Nat → Int32, Red I A I2 A1 ∧ Md [1, 2, 3, 4, 5] I1 I2 ∧ HAND n c pos A0 I2 A1 (t + 1) ∧ (I 2).toInt < (I2 2).toInt)) := by
  have hk := hand_K hE hH
  have hB3 : B 3 t = I 2 := by rw [hB]; exact hk.2.1
  have h1 : (I 1).toInt ≠ 0 := fun h9 => hK (hk.1.1.mpr h9)
  rw [m_goes h6 h4]
  have h44 := hH.2.2.1
  by_cases c4 : t = 400
  · rw [if_pos c4]
    refine ⟨_, rfl, Or.inl ⟨flt_fail (by decide) hB3 h11 (xf_room h10 h1 hm ?_), failJ_md⟩⟩
    unfold fX5_hasRoom
    rw [if_neg (by omega)]
  · rw [if_neg c4]
    obtain ⟨I2, b1, b2, b3, b4, b5⟩ := hand_next hE hH hK c4 eA e0 e4 e5
    have h5 := hH.2.2.2.2.1
    refine ⟨_, rfl, Or.inr ⟨c4, rfl, ?_, I2, ev_go h10 h1 hm (hr (by omega)) ha b1 b3 (by omega) (Md.tr M1 b2 rfl) M2, b2, b4, b5⟩⟩
    rw [show upd J 4 (J 4 + 1) 4 = J 4 + 1 from upd_at (α := Nat), i32_inc (by omega)]; omega
theorem kpA_congr {I I2 : Nat → Int32} {A : Nat → Nat → Int32} {v : Int32} (h6 : I2 6 = I 6) (h14 : I2 14 = I 14) (h16 : I2 16 = I 16) : kpA I2 A v = kpA I A v := by
  unfold kpA
  rw [h6, h14, h16]
theorem kpA_md {I : Nat → Int32} {A : Nat → Nat → Int32} {v : Int32} : Md [1, 3, 4] A (kpA I A v) := by
  unfold kpA
  by_cases c : (I 6).toInt = 1
  · rw [if_pos c]; exact Md.up3 Md.rf rfl
  · rw [if_neg c]; exact Md.up3 (Md.up3 Md.rf rfl) rfl
theorem kpI_md {I : Nat → Int32} : Md [8, 9, 14] I (kpI I) := by
  unfold kpI
  by_cases c : (I 6).toInt = 1
  · rw [if_pos c]; exact Md.up (Md.up (Md.up Md.rf rfl) rfl) rfl
  · rw [if_neg c]; exact Md.up (Md.up Md.rf rfl) rfl
theorem kpI_at {I : Nat → Int32} : kpI I 8 = 0 ∧ kpI I 9 = I 9 + 1 ∧ kpI I 14 = if (I 6).toInt = 1 then I 14 + 1 else I 14 := by
  unfold kpI
  by_cases c : (I 6).toInt = 1
  · rw [if_pos c, if_pos c]; exact ⟨rfl, rfl, rfl⟩
  · rw [if_neg c, if_neg c]; exact ⟨rfl, rfl, rfl⟩
theorem mkI_md {I : Nat → Int32} : Md [11, 12, 13] I (mkI I) := by
  unfold mkI
  by_cases c : (I 3).toInt ≤ 999
  · rw [if_pos c]; exact Md.rf
  · rw [if_neg c]; exact markI_md
theorem WRK.mv {I J I2 J2 : Nat → Int32} {p p2 : Int} (h : WRK I J p) (h11 : I2 11 = I 11) (h12 : I2 12 = I 12) (h13 : I2 13 = I 13) (j8 : J2 8 = J 8) (j9 : J2 9 = J 9) (j13 : J2 13 = J 13) (hp : p ≤ p2) : WRK I2 J2 p2 := by
  obtain ⟨a, b, c, d⟩ := h
  unfold WRK
  rw [h11, h12, h13, j8, j9, j13]
  exact ⟨a, b, c, fun h9 => ⟨(d h9).1, (d h9).2.1, by have := (d h9).2.2; omega⟩⟩
/-- behind a reading: the class has kept it, the reference has it in its hand -/
def PR (n c : Nat) (pos : Nat → Nat) (A0 : Nat → Nat → Int32) (I : Nat → Int32) (A1 : Nat → Nat → Int32) (J : Nat → Int32) (y : Int32) (I2 J2 : Nat → Int32) (t2 : Nat) : Prop :=
  HAND n c pos A0 I2 A1 t2 ∧ (J2 4).toInt = (t2 : Int) ∧ (J2 6).toInt = 0 ∧ Md [4, 8, 9, 13] J J2 ∧ WRK I2 J2 (I2 2).toInt ∧ (I2 10).toInt = 0 ∧ I2 6 = I 6 ∧ (I2 8).toInt = 0 ∧ I2 9 = I 9 + 1 ∧ (I2 14 = if (I 6).toInt = 1 then I 14 + 1 else I 14) ∧ I2 16 = I 16 ∧ ((I2 11).toInt = 0 → (I 11).toInt = 0 ∧ -999 ≤ y.toInt ∧ y.toInt ≤ 999)
def RW1 (I : Nat → Int32) (A : Nat → Nat → Int32) : Prop := ((I 6).toInt = 1 ∧ 0 ≤ (I 14).toInt ∧ (I 14).toInt < 160) ∨ ((I 6).toInt = 3 ∧ (I 9).toInt < 16 ∧ 1 ≤ (I 16).toInt ∧ (I 16).toInt ≤ 5 ∧ (A 4 (I 16 - 1).toNatClampNeg).toInt < 16)
theorem sim_int {n c t : Nat} {pos : Nat → Nat} {A0 B0 : Nat → Nat → Int32} {L0 : Nat → Nat → Int64} {I J : Nat → Int32} {A B : Nat → Nat → Int32} {L : Nat → Nat → Int64} (hE : ENV n c pos A0 B0 L0) (hH : HAND n c pos A0 I A t) (h10 : (I 10).toInt = 0) (hK : (B0 2 t).toInt = 2) (h4 : (J 4).toInt = (t : Int)) (h6 : (J 6).toInt = 0) (h11 : J 11 = I 9) (hB : Md MB B0 B) (hW : WRK I J (I 2).toInt) (hr : RW1 I A) : ∃ J' : Nat → Int32, fM12_bounded J B L 0 999 = (I 3, J', B, L) ∧ ((FLT I A J' ∧ Md MJ J J') ∨ ∃ I2 : Nat → Int32, Red I A I2 (kpA I A (nvI I)) ∧ PR n c pos A0 I (kpA I A (nvI I)) J (nvI I) I2 J' (t + 1)) := by
  have hk := hand_K hE hH
  have hB2 : B 2 = B0 2 := hB 2 rfl
  have hB3 : B 3 = B0 3 := hB 3 rfl
  have hB4 : B 4 = B0 4 := hB 4 rfl
  obtain ⟨v1, v2, v3⟩ := hk.2.2.1 hK
  have h1 : (I 1).toInt = 2 := hk.1.2.1.mp hK
  have hi6 : (I 6).toInt = 1 ∨ (I 6).toInt = 3 := by rcases hr with h | h; exact Or.inl h.1; exact Or.inr h.1
  have hrow := a_row hk.1 hi6
  have hm : fX5_mayStand I A = 1 := by rw [hrow.1, if_pos (Or.inl (Or.inl hK))]
  have hrm : (I 4).toInt ≤ 400 → fX5_hasRoom I A = 1 := fun h9 => by
    rw [hrow.2.1 h9, if_pos]
    rcases hr with h | h
    · exact Or.inr (Or.inl ⟨h.1, h.2.2⟩)
    · exact Or.inr (Or.inr ⟨h.1, h.2.1⟩)
  have ha : fX5_accept I A = (0, kpI (mkI I), kpA I A (nvI I)) := by
    rw [hrow.2.2, x_int h1 (fun h9 => by rcases hr with h | h; exact h.2; omega) (fun h9 => by rcases hr with h | h; omega; exact h.2.2), kpA_congr (I := I) (I2 := mkI I) (mkI_o (by decide) (by decide) (by decide)) (mkI_o (by decide) (by decide) (by decide)) (mkI_o (by decide) (by decide) (by decide))]
    rfl
  have M0 : Md [8, 9, 11, 12, 13, 14] I (kpI (mkI I)) := Md.tr (Md.tr Md.rf mkI_md rfl) kpI_md rfl
  have eA : kpA I A (nvI I) 0 = A 0 := kpA_md 0 rfl
  have hM : ∀ J1 : Nat → Int32, Md [8, 9, 13] J J1 → WRK (mkI I) J1 ((I 2).toInt + 1) → ∃ J' : Nat → Int32, fM12_goesOn J1 B L = (0, J', B, L) ∧ ((FLT I A J' ∧ Md MJ J J') ∨ ∃ I2 : Nat → Int32, Red I A I2 (kpA I A (nvI I)) ∧ PR n c pos A0 I (kpA I A (nvI I)) J (nvI I) I2 J' (t + 1)) := by
    intro J1 g1 g2
    obtain ⟨J', b1, b2⟩ := sim_go (J := J1) (L := L) hE hH h10 (by omega) (by rw [g1 4 rfl]; exact h4) (by rw [g1 6 rfl]; exact h6) (by rw [g1 11 rfl]; exact h11) hB3 hm hrm ha (M0 0 rfl) (M0 4 rfl) (M0 5 rfl) eA (Md.tr Md.rf M0 rfl) (Md.tr Md.rf kpA_md rfl)
    refine ⟨J', b1, ?_⟩
    rcases b2 with b2 | ⟨c4, rfl, b3, I2, b4, b5, b6, b7⟩
    · exact Or.inl ⟨b2.1, Md.tr (Md.tr Md.rf g1 rfl) b2.2 rfl⟩
    · refine Or.inr ⟨I2, b4, b6, b3, ?_, ?_, ?_, ?_, ?_, ?_, ?_, ?_, ?_, ?_⟩
      · show (J1 6).toInt = 0
        rw [g1 6 rfl]; exact h6
      · exact Md.up (Md.tr Md.rf g1 rfl) rfl
      · have e11 : I2 11 = mkI I 11 := (b5 11 rfl).trans (kpI_md 11 rfl)
        have e12 : I2 12 = mkI I 12 := (b5 12 rfl).trans (kpI_md 12 rfl)
        have e13 : I2 13 = mkI I 13 := (b5 13 rfl).trans (kpI_md 13 rfl)
        exact WRK.mv g2 e11 e12 e13 rfl rfl rfl (by omega)
      · rw [b5 10 rfl, M0 10 rfl]; exact h10
      · rw [b5 6 rfl, M0 6 rfl]
      · rw [b5 8 rfl, kpI_at.1]; rfl
      · rw [b5 9 rfl, kpI_at.2.1, mkI_o (by decide) (by decide) (by decide)]
      · rw [b5 14 rfl, kpI_at.2.2, mkI_o (j := 6) (by decide) (by decide) (by decide), mkI_o (j := 14) (by decide) (by decide) (by decide)]
      · rw [b5 16 rfl, M0 16 rfl]
      · rw [(b5 11 rfl).trans (kpI_md 11 rfl)]
        intro h9
        have h8 : (I 3).toInt ≤ 999 ∧ (I 11).toInt = 0 := by
          unfold mkI markI at h9
          by_cases c9 : (I 3).toInt ≤ 999
          · rw [if_pos c9] at h9; exact ⟨c9, h9⟩
          · rw [if_neg c9] at h9
            by_cases c8 : (I 11).toInt ≠ 0
            · rw [if_pos c8] at h9; exact absurd h9 c8
            · rw [if_neg c8] at h9
              exact absurd (show (5 : Int32).toInt = 0 from h9) (by decide)
        refine ⟨h8.2, ?_⟩
        unfold nvI
        by_cases c8 : (I 8).toInt = 0
        · rw [if_pos c8]; omega
        · rw [if_neg c8, show -(I 3) = 0 - I 3 from by rw [Int32.zero_sub], i32_sub (x := 0) (a := 0) rfl rfl rfl (by omega) (by omega)]; omega
  unfold fM12_bounded
  rw [if_neg (by omega), m_is0 h6 h4, hB2, if_pos (show (B0 2 t).toInt = (2 : Int32).toInt from hK), if_neg (by decide), clN h4, hB4, v1, if_neg (show ¬ (I 3).toInt < (0 : Int32).toInt from by have : (0 : Int32).toInt = 0 := rfl; omega)]
  by_cases c9 : (I 3).toInt ≤ 999
  · rw [if_pos (show (I 3).toInt ≤ (999 : Int32).toInt from c9)]
    obtain ⟨J', b1, b2⟩ := hM J Md.rf (by
      unfold mkI
      rw [if_pos c9]
      exact WRK.mv hW rfl rfl rfl rfl rfl rfl (by omega))
    rw [b1]
    exact ⟨J', rfl, b2⟩
  · rw [if_neg (show ¬ (I 3).toInt ≤ (999 : Int32).toInt from c9)]
    obtain ⟨J1, d1, d2, d3⟩ := m_wrong (B := B) (L := L) (k := 5) (z := J 4) hW (by omega) (fun h9 h8 => by have := (hW.2.2.2 h9).2.2; omega) h6 h11 (by rw [clN h4, hB3]; exact hk.2.1) (by decide)
    rw [d1]
    obtain ⟨J', b1, b2⟩ := hM J1 d2 (by unfold mkI; rw [if_neg c9]; exact d3)
    refine ⟨J', ?_, b2⟩
    show f_bdM (fM12_goesOn J1 B L) (fun _ I9 A9 L9 => (I 3, I9, A9, L9)) = _
    rw [b1]; rfl
end
