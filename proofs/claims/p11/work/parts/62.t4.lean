/-- the words: their bytes, their numbers as the reference keeps them -/
def wb (i j : Nat) : Int := (((bytS.getD i []).getD j 0) &&& 255).toInt
def keyN : List Int := [275647447, 9451996, 40477, 6491892, 70517, 847604, 5146, 286880, 259565, 3379448, 9596021, 8740238, 282078293]
def kxL : List Nat := [6, 0, 1, 2, 3, 4, 5, 7, 8, 9, 10, 11, 12]
def kx (i : Nat) : Nat := kxL.getD i 0
def LK (L : Nat → Nat → Int64) : Prop := ∀ k, k < 13 → (L 6 k).toInt = keyN.getD k 0
theorem key_enc : ∀ i, i < 13 → enc (wb i) 0 (lenS.getD i 0) = keyN.getD (kx i) 0 := by decide
theorem key_ne : ∀ i, i < 13 → ∀ j, j < 13 → keyN.getD i 0 = keyN.getD j 0 → i = j := by decide
theorem kx_lt : ∀ i, i < 13 → kx i < 13 := by decide
theorem wb_L : ∀ i, i < 13 → ∀ j, j < lenS.getD i 0 → 97 ≤ wb i j ∧ wb i j ≤ 122 := by decide
theorem enc_inj {f g : Nat → Int} {s r : Nat} : ∀ (k l : Nat), (∀ j, s ≤ j → j < s + k → isL (f j)) → (∀ j, r ≤ j → j < r + l → isL (g j)) → enc f s k = enc g r l → k = l ∧ ∀ j, j < k → f (s + j) = g (r + j) := by
  intro k
  induction k with
  | zero =>
    intro l _ hg h
    cases l with
    | zero => exact ⟨rfl, fun j hj => by omega⟩
    | succ l =>
      have h1 := (enc_lt l (fun j a b => hg j a (by omega))).1
      have h2 : isL (g (r + l)) := hg (r + l) (by omega) (by omega)
      unfold isL at h2
      have h3 : (0 : Int) = 27 * enc g r l + (g (r + l) - 96) := h
      omega
  | succ k ih =>
    intro l hf hg h
    cases l with
    | zero =>
      have h1 := (enc_lt k (fun j a b => hf j a (by omega))).1
      have h2 : isL (f (s + k)) := hf (s + k) (by omega) (by omega)
      unfold isL at h2
      have h3 : 27 * enc f s k + (f (s + k) - 96) = (0 : Int) := h
      omega
    | succ l =>
      have h2 : isL (f (s + k)) := hf (s + k) (by omega) (by omega)
      have h4 : isL (g (r + l)) := hg (r + l) (by omega) (by omega)
      unfold isL at h2 h4
      have h3 : 27 * enc f s k + (f (s + k) - 96) = 27 * enc g r l + (g (r + l) - 96) := h
      have h5 : enc f s k = enc g r l ∧ f (s + k) = g (r + l) := by omega
      obtain ⟨e1, e2⟩ := ih l (fun j a b => hf j a (by omega)) (fun j a b => hg j a (by omega)) h5.1
      subst e1
      refine ⟨rfl, fun j hj => ?_⟩
      by_cases e : j = k
      · rw [e]; exact h5.2
      · exact e2 j (by omega)
theorem enc_eq {f g : Nat → Int} {s r : Nat} : ∀ (k : Nat), (∀ j, j < k → f (s + j) = g (r + j)) → enc f s k = enc g r k := by
  intro k
  induction k with
  | zero => intro _; rfl
  | succ k ih =>
    intro h
    show 27 * enc f s k + (f (s + k) - 96) = 27 * enc g r k + (g (r + k) - 96)
    rw [ih (fun j hj => h j (by omega)), h k (by omega)]
theorem x_wordL {I : Nat → Int32} {A : Nat → Nat → Int32} {n s i : Nat} (hi : i < 13) (hn : (I 0).toInt = (n : Int)) (hn2 : n ≤ 2000) (hs : (I 2).toInt = (s : Int)) (hl : s + lenS.getD i 0 ≤ n) : ∀ (m : Nat) (x : Int32) (k : Nat), x.toInt = (k : Int) → k ≤ lenS.getD i 0 → lenS.getD i 0 - k < m → (itr_i (0 : Int32) (bX10_isWord_23 i I A) m x = 1 ∧ ∀ j, k ≤ j → j < lenS.getD i 0 → bt A (s + j) = wb i j) ∨ (itr_i (0 : Int32) (bX10_isWord_23 i I A) m x = 0 ∧ ∃ j, k ≤ j ∧ j < lenS.getD i 0 ∧ bt A (s + j) ≠ wb i j) := by
  intro m
  induction m with
  | zero => intro x k _ _ h; omega
  | succ m ih =>
    intro x k hx hk hm
    show (bX10_isWord_23 i I A (itr_i (0 : Int32) (bX10_isWord_23 i I A) m) x = 1 ∧ _) ∨ (bX10_isWord_23 i I A (itr_i (0 : Int32) (bX10_isWord_23 i I A) m) x = 0 ∧ _)
    obtain ⟨G, hG⟩ : ∃ G, G = itr_i (0 : Int32) (bX10_isWord_23 i I A) m := ⟨_, rfl⟩
    rw [← hG] at ih ⊢
    have h6 := lenS_le i hi
    unfold bX10_isWord_23
    dsimp only [f_lt]
    by_cases h : (nI (lenS.getD i 0)).toInt ≤ x.toInt
    · rw [if_pos h]
      exact Or.inl ⟨rfl, fun j a b => by omega⟩
    · rw [if_neg h]
      have hz : (I 2 + x).toInt = ((s + k : Nat) : Int) := by rw [i32_add rfl hs hx (by omega) (by omega)]; omega
      rw [x_byte (I := I) (A := A) (z := I 2 + x) (by omega) (by omega), clN hz, clN hx]
      by_cases c : (A 0 (s + k)).toInt = (((bytS.getD i []).getD k 0) &&& 255).toInt
      · rw [if_pos c]
        rcases ih (x + 1) (k + 1) (by rw [i32_inc (by omega)]; omega) (by omega) (by omega) with h1 | ⟨h1, j, h2, h3, h4⟩
        · refine Or.inl ⟨h1.1, fun j a b => ?_⟩
          by_cases e : j = k
          · rw [e]; exact c
          · exact h1.2 j (by omega) b
        · exact Or.inr ⟨h1, j, by omega, h3, h4⟩
      · rw [if_neg c]
        exact Or.inr ⟨rfl, k, Nat.le_refl _, by omega, c⟩
/-- a word of the class's is the reference's kind -/
theorem x_word {I : Nat → Int32} {A : Nat → Nat → Int32} {B : Nat → Nat → Int32} {L : Nat → Nat → Int64} {n p s e t i : Nat} {c : Int} (hn : (I 0).toInt = (n : Int)) (hn2 : n ≤ 2000) (hp : p ≤ n) (hL : LK L) (hX : TX I A n p s e c) (hM : TM (bt A) n B L t p s e c) (hi : i < 13) : fX10_isWord i I A = if (B 2 t).toInt = 20 + (kx i : Int) then 1 else 0 := by
  obtain ⟨hT, h1, h2, h5, -⟩ := hX
  obtain ⟨-, -, -, hM1, hK⟩ := hM
  have hle := hT.le hp
  have hki := kx_lt i hi
  unfold fX10_isWord
  by_cases c1 : c = 1
  · rw [if_neg (by omega)]
    have hlt : isL (bt A s) ∧ Rn isL (bt A) n s e ∧ e - s ≤ 8 := by
      rcases hT.2 with ⟨a1, a2, a3⟩ | ⟨a1, a2, a3, a4⟩ | ⟨a1, a2, a3, a4⟩ | ⟨a1, a2, a3, a4, a5⟩
      · omega
      · refine ⟨a2, a3, ?_⟩
        by_cases h9 : 8 < e - s
        · rw [if_pos h9] at a4; omega
        · omega
      · by_cases h9 : 4 < e - s
        · rw [if_pos h9] at a4; omega
        · rw [if_neg h9] at a4; omega
      · by_cases h9 : bt A s = 59
        · rw [if_pos h9] at a5; omega
        · rw [if_neg h9] at a5
          by_cases h8 : bt A s = 45
          · rw [if_pos h8] at a5; omega
          · rw [if_neg h8] at a5; omega
    have hLt : ∀ j, s ≤ j → j < s + (e - s) → isL (bt A j) := fun j a b => (hlt.2.1.2.1 j a (by omega)).2
    obtain ⟨g1, g2⟩ := hM1 c1
    have hlen : (fX10_lengthAtHand I A).toInt = ((e - s : Nat) : Int) := by
      show (I 5 - I 2).toInt = _
      rw [i32_sub rfl h5 h2 (by omega) (by omega)]; omega
    dsimp only [f_lt]
    have h6 := lenS_le i hi
    -- the reference's kind says whether the numbers are alike
    have hkw : (B 2 t).toInt = 20 + (kx i : Int) ↔ enc (bt A) s (e - s) = enc (wb i) 0 (lenS.getD i 0) := by
      rw [key_enc i hi, ← hL (kx i) hki, ← g1]
      constructor
      · intro h9
        rcases g2 with ⟨a1, a2⟩ | ⟨k, a1, a2, a3⟩
        · omega
        · have : k = kx i := by omega
          rw [← this, a2]
      · intro h9
        have h8 : L 5 t = L 6 (kx i) := Int64.toInt_inj.mp h9
        rcases g2 with ⟨a1, a2⟩ | ⟨k, a1, a2, a3⟩
        · exact absurd h8.symm (a2 (kx i) hki)
        · have h7 : (L 6 k).toInt = (L 6 (kx i)).toInt := by rw [a2, h8]
          rw [hL k a1, hL (kx i) hki] at h7
          have := key_ne k a1 (kx i) hki h7
          omega
    have hwL : ∀ j, 0 ≤ j → j < 0 + lenS.getD i 0 → isL (wb i j) := fun j _ b => wb_L i hi j (by omega)
    by_cases c2 : (fX10_lengthAtHand I A).toInt = (nI (lenS.getD i 0)).toInt
    · rw [if_pos c2]
      have c3 : e - s = lenS.getD i 0 := by omega
      rcases x_wordL hi hn hn2 h2 (by omega) FU 0 0 rfl (by omega) (by have := FU_eq; omega) with ⟨a1, a2⟩ | ⟨a1, j, a2, a3, a4⟩
      · rw [a1, if_pos (hkw.mpr (by rw [c3]; exact enc_eq _ (fun j hj => by rw [a2 j (by omega) hj, Nat.zero_add])))]
      · rw [a1, if_neg (fun h9 => a4 (by
          have h8 := (enc_inj _ _ hLt hwL (hkw.mp h9)).2 j (by omega)
          rw [h8, Nat.zero_add]))]
    · rw [if_neg c2, if_neg (fun h9 => c2 (by
        have h8 := (enc_inj _ _ hLt hwL (hkw.mp h9)).1
        omega))]
  · rw [if_pos (by omega)]
    have h9 : ¬ (B 2 t).toInt = 20 + (kx i : Int) := by
      obtain ⟨k0, k2, k3, k4, k5⟩ := hK
      have hc : c = 0 ∨ c = 1 ∨ c = 2 ∨ c = 3 ∨ c = 4 ∨ c = 5 := by
        rcases hT.2 with ⟨a1, a2, a3⟩ | ⟨a1, a2, a3, a4⟩ | ⟨a1, a2, a3, a4⟩ | ⟨a1, a2, a3, a4, a5⟩
        · omega
        · by_cases h9 : 8 < e - s
          · rw [if_pos h9] at a4; omega
          · rw [if_neg h9] at a4; omega
        · by_cases h9 : 4 < e - s
          · rw [if_pos h9] at a4; omega
          · rw [if_neg h9] at a4; omega
        · by_cases h9 : bt A s = 59
          · rw [if_pos h9] at a5; omega
          · rw [if_neg h9] at a5
            by_cases h8 : bt A s = 45
            · rw [if_pos h8] at a5; omega
            · rw [if_neg h8] at a5; omega
      rcases hc with e9 | e9 | e9 | e9 | e9 | e9
      · have := k0 e9; omega
      · exact absurd e9 c1
      · have := k2 e9; omega
      · have := k3 e9; omega
      · have := k4 e9; omega
      · have := k5 e9; omega
    rw [if_neg h9]
