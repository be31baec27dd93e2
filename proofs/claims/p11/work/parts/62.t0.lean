theorem upd_at {α : Type} {f : Nat → Int32} {k : Nat} {v : Int32} : upd f k v k = v := by show (if k = k then v else f k) = v; rw [if_pos rfl]
theorem upd_ne {f : Nat → Int32} {k j : Nat} {v : Int32} (h : j ≠ k) : upd f k v j = f j := by show (if j = k then v else f j) = f j; rw [if_neg h]
theorem upd_upd {f : Nat → Int32} {k : Nat} {v w : Int32} : upd (upd f k v) k w = upd f k w := by
  funext j
  show (if j = k then w else (if j = k then v else f j)) = (if j = k then w else f j)
  by_cases h : j = k
  · rw [if_pos h, if_pos h]
  · rw [if_neg h, if_neg h, if_neg h]
theorem upd_comm {f : Nat → Int32} {k j : Nat} {v w : Int32} (h : k ≠ j) : upd (upd f k v) j w = upd (upd f j w) k v := by
  funext i
  show (if i = j then w else (if i = k then v else f i)) = (if i = k then v else (if i = j then w else f i))
  by_cases h1 : i = j
  · rw [if_pos h1, if_pos h1, if_neg (by omega)]
  · rw [if_neg h1, if_neg h1]
def isB (c : Int) : Prop := c = 9 ∨ c = 10 ∨ c = 13 ∨ c = 32
def isL (c : Int) : Prop := 97 ≤ c ∧ c ≤ 122
def isD (c : Int) : Prop := 48 ≤ c ∧ c ≤ 57
def Rn (P : Int → Prop) (f : Nat → Int) (n p q : Nat) : Prop := p ≤ q ∧ (∀ j, p ≤ j → j < q → j < n ∧ P (f j)) ∧ ¬ (q < n ∧ P (f q))
theorem Rn.uniq {P : Int → Prop} {f : Nat → Int} {n p q r : Nat} (h : Rn P f n p q) (h2 : Rn P f n p r) : q = r := by
  rcases Nat.lt_trichotomy q r with h3 | h3 | h3
  · exact absurd (h2.2.1 q h.1 h3) h.2.2
  · exact h3
  · exact absurd (h.2.1 r h2.1 h3) h2.2.2
theorem Rn.le {P : Int → Prop} {f : Nat → Int} {n p q : Nat} (h : Rn P f n p q) (hp : p ≤ n) : q ≤ n := by
  rcases Nat.lt_or_ge n q with h3 | h3
  · have := (h.2.1 n hp h3).1; omega
  · exact h3
theorem Rn.stop {P : Int → Prop} {f : Nat → Int} {n p : Nat} (h : ¬ (p < n ∧ P (f p))) : Rn P f n p p := ⟨Nat.le_refl _, fun j h1 h2 => by omega, h⟩
theorem Rn.step {P : Int → Prop} {f : Nat → Int} {n p q : Nat} (h0 : p < n ∧ P (f p)) (h : Rn P f n (p + 1) q) : Rn P f n p q := by
  refine ⟨by have := h.1; omega, fun j h1 h2 => ?_, h.2.2⟩
  by_cases e : j = p
  · rw [e]; exact h0
  · exact h.2.1 j (by omega) h2
/-- the class's bytes -/
def bt (A : Nat → Nat → Int32) : Nat → Int := fun j => (A 0 j).toInt
theorem x_byte {I : Nat → Int32} {A : Nat → Nat → Int32} {z : Int32} (h0 : 0 ≤ z.toInt) (h1 : z.toInt < (I 0).toInt) : fX10_byteAt I A z = A 0 z.toNatClampNeg := by
  unfold fX10_byteAt
  rw [if_neg (by omega), if_neg (by omega)]
theorem x_byteE {I : Nat → Int32} {A : Nat → Nat → Int32} {z : Int32} (h1 : (I 0).toInt ≤ z.toInt) : fX10_byteAt I A z = -1 := by
  unfold fX10_byteAt
  by_cases h : z.toInt < 0
  · rw [if_pos h]
  · rw [if_neg h, if_pos h1]
theorem x_isL {I : Nat → Int32} {A : Nat → Nat → Int32} {z : Int32} : fX10_isLetter I A z = if 97 ≤ z.toInt ∧ z.toInt ≤ 122 then 1 else 0 := by
  unfold fX10_isLetter
  by_cases h : z.toInt < 97
  · rw [if_pos h, if_neg (by omega)]
  · rw [if_neg h]
    by_cases h2 : 122 < z.toInt
    · rw [if_pos h2, if_neg (by omega)]
    · rw [if_neg h2, if_pos (by omega)]
theorem x_isD {I : Nat → Int32} {A : Nat → Nat → Int32} {z : Int32} : fX10_isDigit I A z = if 48 ≤ z.toInt ∧ z.toInt ≤ 57 then 1 else 0 := by
  unfold fX10_isDigit
  by_cases h : z.toInt < 48
  · rw [if_pos h, if_neg (by omega)]
  · rw [if_neg h]
    by_cases h2 : 57 < z.toInt
    · rw [if_pos h2, if_neg (by omega)]
    · rw [if_neg h2, if_pos (by omega)]
theorem i32_inc {x : Int32} (h : x.toInt < 2147483647) : (x + 1).toInt = x.toInt + 1 := i32_add (y := 1) (b := 1) rfl rfl (by decide) (by have := Int32.le_toInt x; omega) (by omega)
theorem clN {x : Int32} {k : Nat} (h : x.toInt = (k : Int)) : x.toNatClampNeg = k := cl_nat h
/-- blanks -/
theorem x_blanks {I : Nat → Int32} {A : Nat → Nat → Int32} {n : Nat} (hn : (I 0).toInt = (n : Int)) (hn2 : n ≤ 2000) : ∀ (m : Nat) (x : Int32) (p : Nat), x.toInt = (p : Int) → p ≤ n → n - p < m → ∃ q : Nat, (itr_i (0 : Int32) (bX10_behindBlanks_2 I A) m x).toInt = (q : Int) ∧ Rn isB (bt A) n p q := by
  intro m
  induction m with
  | zero => intro x p _ _ h; omega
  | succ m ih =>
    intro x p hx hp hm
    show ∃ q : Nat, (bX10_behindBlanks_2 I A (itr_i (0 : Int32) (bX10_behindBlanks_2 I A) m) x).toInt = (q : Int) ∧ Rn isB (bt A) n p q
    obtain ⟨K, hK⟩ : ∃ K, K = itr_i (0 : Int32) (bX10_behindBlanks_2 I A) m := ⟨_, rfl⟩
    rw [← hK] at ih ⊢
    dsimp only [bX10_behindBlanks_2, f_lt]
    by_cases h : (I 0).toInt ≤ x.toInt
    · rw [if_pos h]
      exact ⟨p, by omega, Rn.stop (by omega)⟩
    · rw [if_neg h]
      rw [x_byte (by omega) (by omega), clN hx]
      have hi : (x + 1).toInt = ((p + 1 : Nat) : Int) := by rw [i32_inc (by omega)]; omega
      have step : isB (bt A p) → ∃ q : Nat, (K (x + 1)).toInt = (q : Int) ∧ Rn isB (bt A) n p q := fun hb => by
        obtain ⟨q, h1, h2⟩ := ih (x + 1) (p + 1) hi (by omega) (by omega)
        exact ⟨q, h1, Rn.step ⟨by omega, hb⟩ h2⟩
      by_cases c1 : (A 0 p).toInt = 9
      · rw [if_pos c1]; exact step (Or.inl c1)
      · rw [if_neg c1]
        by_cases c2 : (A 0 p).toInt = 10
        · rw [if_pos c2]; exact step (Or.inr (Or.inl c2))
        · rw [if_neg c2]
          by_cases c3 : (A 0 p).toInt = 13
          · rw [if_pos c3]; exact step (Or.inr (Or.inr (Or.inl c3)))
          · rw [if_neg c3]
            by_cases c4 : (A 0 p).toInt = 32
            · rw [if_pos c4]; exact step (Or.inr (Or.inr (Or.inr c4)))
            · rw [if_neg c4]
              refine ⟨p, hx, Rn.stop (fun h9 => ?_)⟩
              rcases h9.2 with h9 | h9 | h9 | h9
              · exact c1 h9
              · exact c2 h9
              · exact c3 h9
              · exact c4 h9
/-- letters -/
theorem x_letters {I : Nat → Int32} {A : Nat → Nat → Int32} {n s : Nat} (hn : (I 0).toInt = (n : Int)) (hn2 : n ≤ 2000) (hs : (I 2).toInt = (s : Int)) : ∀ (m : Nat) (x : Int32) (p : Nat), x.toInt = (p : Int) → s ≤ p → p ≤ n → n - p < m → ∃ (q : Nat) (y : Int32), y.toInt = (q : Int) ∧ Rn isL (bt A) n p q ∧ itr_i dfX (bX10_takeLetters_5 I A) m x = (0, upd (upd I 5 y) 1 (if 8 < q - s then 5 else 1), A) := by
  intro m
  induction m with
  | zero => intro x p _ _ _ h; omega
  | succ m ih =>
    intro x p hx hsp hp hm
    show ∃ (q : Nat) (y : Int32), y.toInt = (q : Int) ∧ Rn isL (bt A) n p q ∧ bX10_takeLetters_5 I A (itr_i dfX (bX10_takeLetters_5 I A) m) x = (0, upd (upd I 5 y) 1 (if 8 < q - s then 5 else 1), A)
    have hd : (x - I 2).toInt = x.toInt - (I 2).toInt := i32_sub rfl rfl rfl (by omega) (by omega)
    have fin : ¬ (p < n ∧ isL (bt A p)) → ∃ (q : Nat) (y : Int32), y.toInt = (q : Int) ∧ Rn isL (bt A) n p q ∧ (if 8 < (x - I 2).toInt then ((0 : Int32), upd (upd I 5 x) 1 5, A) else (0, upd (upd I 5 x) 1 1, A)) = (0, upd (upd I 5 y) 1 (if 8 < q - s then 5 else 1), A) := fun hs2 => by
      refine ⟨p, x, hx, Rn.stop hs2, ?_⟩
      by_cases c : 8 < (x - I 2).toInt
      · rw [if_pos c, if_pos (by omega)]
      · rw [if_neg c, if_neg (by omega)]
    obtain ⟨K, hK⟩ : ∃ K, K = itr_i dfX (bX10_takeLetters_5 I A) m := ⟨_, rfl⟩
    rw [← hK] at ih ⊢
    dsimp only [bX10_takeLetters_5, f_lt]
    by_cases h : (I 0).toInt ≤ x.toInt
    · rw [if_pos h]
      exact fin (by omega)
    · rw [if_neg h, x_byte (by omega) (by omega), clN hx]
      rw [x_isL]
      by_cases c : 97 ≤ (A 0 p).toInt ∧ (A 0 p).toInt ≤ 122
      · rw [if_pos c, if_neg (by decide)]
        obtain ⟨q, y, h1, h2, h3⟩ := ih (x + 1) (p + 1) (by rw [i32_inc (by omega)]; omega) (by omega) (by omega) (by omega)
        exact ⟨q, y, h1, Rn.step ⟨by omega, c⟩ h2, h3⟩
      · rw [if_neg c, if_pos rfl]
        exact fin (fun h9 => c h9.2)
/-- digits -/
def dec (f : Nat → Int) (s : Nat) : Nat → Int
  | 0 => 0
  | k + 1 => 10 * dec f s k + (f (s + k) - 48)
theorem dec_lt {f : Nat → Int} {s : Nat} : ∀ k : Nat, (∀ j, s ≤ j → j < s + k → isD (f j)) → k ≤ 4 → 0 ≤ dec f s k ∧ dec f s k < 10 ^ k := by
  intro k
  induction k with
  | zero => intro _ _; exact ⟨Int.le_refl 0, (show (0 : Int) < 1 from by decide)⟩
  | succ k ih =>
    intro h hk
    have h1 := ih (fun j a b => h j a (by omega)) (by omega)
    have h2 : isD (f (s + k)) := h (s + k) (by omega) (by omega)
    unfold isD at h2
    show 0 ≤ 10 * dec f s k + (f (s + k) - 48) ∧ 10 * dec f s k + (f (s + k) - 48) < 10 ^ (k + 1)
    rw [Int.pow_succ]
    generalize (10 : Int) ^ k = t at h1
    omega
theorem x_digits {I : Nat → Int32} {A : Nat → Nat → Int32} {n s : Nat} (hn : (I 0).toInt = (n : Int)) (hn2 : n ≤ 2000) (hs : (I 2).toInt = (s : Int)) : ∀ (m : Nat) (x v : Int32) (p : Nat), x.toInt = (p : Int) → s ≤ p → p ≤ n → n - p < m → (∀ j, s ≤ j → j < p → isD (bt A j)) → (p - s ≤ 4 → v.toInt = dec (bt A) s (p - s)) → ∃ (q : Nat) (y w : Int32), y.toInt = (q : Int) ∧ Rn isD (bt A) n p q ∧ (q - s ≤ 4 → w.toInt = dec (bt A) s (q - s)) ∧ itr_iIA dfX (bX10_takeDigits_5 I) m x (upd I 3 v) A = (0, upd (upd (upd I 3 w) 5 y) 1 (if 4 < q - s then 5 else 2), A) := by
  intro m
  induction m with
  | zero => intro x v p _ _ _ h; omega
  | succ m ih =>
    intro x v p hx hsp hp hm hD hv
    show ∃ (q : Nat) (y w : Int32), y.toInt = (q : Int) ∧ Rn isD (bt A) n p q ∧ (q - s ≤ 4 → w.toInt = dec (bt A) s (q - s)) ∧ bX10_takeDigits_5 I (itr_iIA dfX (bX10_takeDigits_5 I) m) x (upd I 3 v) A = (0, upd (upd (upd I 3 w) 5 y) 1 (if 4 < q - s then 5 else 2), A)
    obtain ⟨K, hK⟩ : ∃ K, K = itr_iIA dfX (bX10_takeDigits_5 I) m := ⟨_, rfl⟩
    rw [← hK] at ih ⊢
    have hd : (x - I 2).toInt = x.toInt - (I 2).toInt := i32_sub rfl rfl rfl (by omega) (by omega)
    have fin : ¬ (p < n ∧ isD (bt A p)) → ∃ (q : Nat) (y w : Int32), y.toInt = (q : Int) ∧ Rn isD (bt A) n p q ∧ (q - s ≤ 4 → w.toInt = dec (bt A) s (q - s)) ∧ (if 4 < (x - I 2).toInt then ((0 : Int32), upd (upd (upd I 3 v) 5 x) 1 5, A) else (0, upd (upd (upd I 3 v) 5 x) 1 2, A)) = (0, upd (upd (upd I 3 w) 5 y) 1 (if 4 < q - s then 5 else 2), A) := fun hs2 => by
      refine ⟨p, x, v, hx, Rn.stop hs2, hv, ?_⟩
      by_cases c : 4 < (x - I 2).toInt
      · rw [if_pos c, if_pos (by omega)]
      · rw [if_neg c, if_neg (by omega)]
    dsimp only [bX10_takeDigits_5, f_lt]
    have e0 : upd I 3 v 0 = I 0 := upd_ne (by decide)
    by_cases h : (I 0).toInt ≤ x.toInt
    · rw [if_pos h]
      exact fin (by omega)
    · rw [if_neg h, x_byte (I := upd I 3 v) (by omega) (by rw [e0]; omega), clN hx, x_isD]
      by_cases c : 48 ≤ (A 0 p).toInt ∧ (A 0 p).toInt ≤ 57
      · rw [if_pos c, if_neg (by decide), upd_upd, show upd I 3 v 3 = v from upd_at (α := Nat)]
        have hb : ∀ j, s ≤ j → j < p + 1 → isD (bt A j) := fun j a b => by
          by_cases e : j = p
          · rw [e]; exact c
          · exact hD j a (by omega)
        obtain ⟨q, y, w, h1, h2, h3, h4⟩ := ih (x + 1) (v * 10 + A 0 p - 48) (p + 1) (by rw [i32_inc (by omega)]; omega) (by omega) (by omega) (by omega) hb (fun h9 => by
          have g1 := hv (by omega)
          have g2 := dec_lt (f := bt A) (s := s) (p - s) (fun j a b => hD j a (by omega)) (by omega)
          have g3 : dec (bt A) s (p - s) < 1000 := by
            have : p - s = 0 ∨ p - s = 1 ∨ p - s = 2 ∨ p - s = 3 := by omega
            rcases this with e | e | e | e <;> rw [e] at g2 ⊢ <;> omega
          have g4 : (v * 10).toInt = v.toInt * 10 := i32_mul rfl rfl rfl (by omega) (by omega)
          have g5 : (v * 10 + A 0 p).toInt = v.toInt * 10 + (A 0 p).toInt := i32_add rfl g4 rfl (by omega) (by omega)
          have g6 : (v * 10 + A 0 p - 48).toInt = v.toInt * 10 + (A 0 p).toInt - 48 := i32_sub rfl g5 rfl (by omega) (by omega)
          rw [g6, show p + 1 - s = (p - s) + 1 by omega]
          show v.toInt * 10 + (A 0 p).toInt - 48 = 10 * dec (bt A) s (p - s) + (bt A (s + (p - s)) - 48)
          rw [show s + (p - s) = p by omega]
          show v.toInt * 10 + (A 0 p).toInt - 48 = 10 * dec (bt A) s (p - s) + ((A 0 p).toInt - 48)
          omega)
        exact ⟨q, y, w, h1, Rn.step ⟨by omega, c⟩ h2, h3, h4⟩
      · rw [if_neg c, if_pos rfl]
        exact fin (fun h9 => c h9.2)
