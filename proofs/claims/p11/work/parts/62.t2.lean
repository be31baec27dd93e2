theorem i64_add {x y z : Int64} {a b : Int} (e : z = x + y) (hx : x.toInt = a) (hy : y.toInt = b) (h1 : -9223372036854775808 ≤ a + b) (h2 : a + b < 9223372036854775808) : z.toInt = a + b := by
  rw [e, Int64.toInt_add, hx, hy]
  exact Int.bmod_eq_of_le (by omega) (by omega)
theorem i64_mul {x y z : Int64} {a b : Int} (e : z = x * y) (hx : x.toInt = a) (hy : y.toInt = b) (h1 : -9223372036854775808 ≤ a * b) (h2 : a * b < 9223372036854775808) : z.toInt = a * b := by
  rw [e, Int64.toInt_mul, hx, hy]
  exact Int.bmod_eq_of_le (by omega) (by omega)
theorem lcmp_0 {x y : Int64} : (lg_cmp x y).toInt = 0 ↔ x = y := by
  unfold lg_cmp
  by_cases h : x > y
  · rw [if_pos h]
    constructor
    · intro h9; exact absurd h9 (by decide)
    · intro h9
      rw [h9] at h
      exact absurd h (by show ¬ (y < y); rw [Int64.lt_iff_toInt_lt]; omega)
  · rw [if_neg h]
    by_cases h2 : x = y
    · rw [if_pos h2]; exact ⟨fun _ => h2, fun _ => rfl⟩
    · rw [if_neg h2]; exact ⟨fun h9 => absurd h9 (by decide), fun h9 => absurd h9 h2⟩
theorem Md.up3L {S : List Nat} {I J : Nat → Nat → Int64} {a j : Nat} {v : Int64} (h : Md S I J) (ha : S.contains a = true) : Md S I (up3L J a j v) := by
  intro k hk
  by_cases e : k = a
  · rw [e] at hk; rw [hk] at ha; cases ha
  · show (if k = a then vp_updL (J a) j v else J k) = I k
    rw [if_neg e]; exact h k hk
theorem up3L_at {A : Nat → Nat → Int64} {a i p : Nat} {v : Int64} (h : p = i) : up3L A a i v a p = v := by
  show (if a = a then vp_updL (A a) i v else A a) p = _
  rw [if_pos rfl]
  unfold vp_updL
  rw [if_pos h]
theorem up3L_ne {A : Nat → Nat → Int64} {a i p : Nat} {v : Int64} (h : p ≠ i) : up3L A a i v a p = A a p := by
  show (if a = a then vp_updL (A a) i v else A a) p = _
  rw [if_pos rfl]
  unfold vp_updL
  rw [if_neg h]
theorem up3_o {A : Nat → Nat → Int32} {a b i : Nat} {v : Int32} (h : b ≠ a) : up3 A a i v b = A b := by
  show (if b = a then upd (A a) i v else A b) = _
  rw [if_neg h]
theorem m_isL {I : Nat → Int32} {A : Nat → Nat → Int32} {L : Nat → Nat → Int64} {z : Int32} : fM12_isLetter I A L z = if 97 ≤ z.toInt ∧ z.toInt ≤ 122 then 1 else 0 := by
  unfold fM12_isLetter
  by_cases h : z.toInt < 97
  · rw [if_pos h, if_neg (by omega)]
  · rw [if_neg h]
    by_cases h2 : 122 < z.toInt
    · rw [if_pos h2, if_neg (by omega)]
    · rw [if_neg h2, if_pos (by omega)]
theorem m_isD {I : Nat → Int32} {A : Nat → Nat → Int32} {L : Nat → Nat → Int64} {z : Int32} : fM12_isDigit I A L z = if 48 ≤ z.toInt ∧ z.toInt ≤ 57 then 1 else 0 := by
  unfold fM12_isDigit
  by_cases h : z.toInt < 48
  · rw [if_pos h, if_neg (by omega)]
  · rw [if_neg h]
    by_cases h2 : 57 < z.toInt
    · rw [if_pos h2, if_neg (by omega)]
    · rw [if_neg h2, if_pos (by omega)]
theorem m_byte {I : Nat → Int32} {A : Nat → Nat → Int32} {L : Nat → Nat → Int64} {z : Int32} (h1 : z.toInt < (I 2).toInt) : fM12_byteAt I A L z = (A 1 z.toNatClampNeg &&& 255, 1) := by
  unfold fM12_byteAt
  rw [if_neg (by omega)]
  rfl
theorem m_byteE {I : Nat → Int32} {A : Nat → Nat → Int32} {L : Nat → Nat → Int64} {z : Int32} (h1 : (I 2).toInt ≤ z.toInt) : fM12_byteAt I A L z = (0, 0) := by
  unfold fM12_byteAt
  rw [if_pos h1]
/-- the reference's digits -/
theorem m_digits {J : Nat → Int32} {B : Nat → Nat → Int32} {L : Nat → Nat → Int64} {f : Nat → Int} {n s : Nat} (hn : (J 2).toInt = (n : Int)) (hn2 : n ≤ 2000) (hf : ∀ j, j < n → (B 1 j &&& 255).toInt = f j) {x : Int32} (hx : x.toInt = (s : Int)) (kk : Int32 → (Nat → Int32) → (Nat → Nat → Int32) → (Nat → Nat → Int64) → (Int32 × (Nat → Int32) × (Nat → Nat → Int32) × (Nat → Nat → Int64))) :
    ∀ (m : Nat) (v c : Int32) (k : Nat), c.toInt = (k : Int) → s + k ≤ n → n - (s + k) < m → (∀ j, s ≤ j → j < s + k → isD (f j)) → v.toInt = dec f s (min k 4) → ∃ (q : Nat) (w y : Int32), Rn isD f n (s + k) q ∧ w.toInt = dec f s (min (q - s) 4) ∧ y.toInt = (q : Int) ∧ itr_ii dfM (bM12_cut_208 x J B L kk) m v c = f_bdM (fM12_token J B L (if 4 < q - s then 3 else 2) x w 0) (fun _ I A L => kk y I A L) := by
  intro m
  induction m with
  | zero => intro v c k _ _ h; omega
  | succ m ih =>
    intro v c k hc hk hm hD hv
    show ∃ (q : Nat) (w y : Int32), Rn isD f n (s + k) q ∧ w.toInt = dec f s (min (q - s) 4) ∧ y.toInt = (q : Int) ∧ bM12_cut_208 x J B L kk (itr_ii dfM (bM12_cut_208 x J B L kk) m) v c = f_bdM (fM12_token J B L (if 4 < q - s then 3 else 2) x w 0) (fun _ I A L => kk y I A L)
    obtain ⟨K, hK⟩ : ∃ K, K = itr_ii dfM (bM12_cut_208 x J B L kk) m := ⟨_, rfl⟩
    rw [← hK] at ih ⊢
    have hxc : (x + c).toInt = ((s + k : Nat) : Int) := by rw [i32_add rfl hx hc (by omega) (by omega)]; omega
    have fin : ¬ (s + k < n ∧ isD (f (s + k))) → ∃ (q : Nat) (w y : Int32), Rn isD f n (s + k) q ∧ w.toInt = dec f s (min (q - s) 4) ∧ y.toInt = (q : Int) ∧ (if c.toInt ≤ 4 then f_bdM (fM12_token J B L 2 x v 0) (fun _ I A L => kk (x + c) I A L) else f_bdM (fM12_token J B L 3 x v 0) (fun _ I A L => kk (x + c) I A L)) = f_bdM (fM12_token J B L (if 4 < q - s then 3 else 2) x w 0) (fun _ I A L => kk y I A L) := fun hs2 => by
      refine ⟨s + k, v, x + c, Rn.stop hs2, by rw [show s + k - s = k by omega]; exact hv, hxc, ?_⟩
      by_cases c9 : c.toInt ≤ 4
      · rw [if_pos c9, if_neg (by omega)]
      · rw [if_neg c9, if_pos (by omega)]
    unfold bM12_cut_208
    dsimp only [f_lt]
    by_cases h : n ≤ s + k
    · rw [m_byteE (I := J) (A := B) (L := L) (z := x + c) (by omega), if_pos rfl, m_isD, if_pos (by decide)]
      exact fin (by omega)
    · rw [m_byte (I := J) (A := B) (L := L) (z := x + c) (by omega), if_neg (show ¬ ((1 : Nat) = 0) by decide), clN hxc, m_isD]
      have hb := hf (s + k) (by omega)
      dsimp only
      by_cases cD : 48 ≤ (B 1 (s + k) &&& 255).toInt ∧ (B 1 (s + k) &&& 255).toInt ≤ 57
      · rw [if_pos cD, if_neg (by decide)]
        rw [hb] at cD
        have hb2 : ∀ j, s ≤ j → j < s + (k + 1) → isD (f j) := fun j a b => by
          by_cases e : j = s + k
          · rw [e]; exact cD
          · exact hD j a (by omega)
        have hc1 : (c + 1).toInt = ((k + 1 : Nat) : Int) := by rw [i32_inc (by omega)]; omega
        by_cases c4 : 4 ≤ c.toInt
        · rw [if_pos c4]
          obtain ⟨q, w, y, h1, h2, h3, h4⟩ := ih v (c + 1) (k + 1) hc1 (by omega) (by omega) hb2 (by rw [hv, show min k 4 = 4 by omega, show min (k + 1) 4 = 4 by omega])
          exact ⟨q, w, y, Rn.step ⟨by omega, cD⟩ h1, h2, h3, h4⟩
        · rw [if_neg c4, if_neg (show ¬ ((1 : Nat) = 0) by decide)]
          have g2 := dec_lt (f := f) (s := s) k (fun j a b => hD j a b) (by omega)
          have g3 : dec f s k < 1000 := by
            have : k = 0 ∨ k = 1 ∨ k = 2 ∨ k = 3 := by omega
            rcases this with e | e | e | e <;> rw [e] at g2 ⊢ <;> omega
          rw [show min k 4 = k by omega] at hv
          have g4 : (10 * v).toInt = 10 * v.toInt := i32_mul rfl rfl rfl (by omega) (by omega)
          have g5 : (10 * v + (B 1 (s + k) &&& 255)).toInt = 10 * v.toInt + f (s + k) := i32_add rfl g4 hb (by omega) (by omega)
          have g6 : (10 * v + (B 1 (s + k) &&& 255) - 48).toInt = 10 * v.toInt + f (s + k) - 48 := i32_sub rfl g5 rfl (by omega) (by omega)
          obtain ⟨q, w, y, h1, h2, h3, h4⟩ := ih (10 * v + (B 1 (s + k) &&& 255) - 48) (c + 1) (k + 1) hc1 (by omega) (by omega) hb2 (by
            rw [g6, show min (k + 1) 4 = k + 1 by omega]
            show 10 * v.toInt + f (s + k) - 48 = 10 * dec f s k + (f (s + k) - 48)
            omega)
          exact ⟨q, w, y, Rn.step ⟨by omega, cD⟩ h1, h2, h3, h4⟩
      · rw [if_neg cD, if_pos rfl]
        rw [hb] at cD
        exact fin (fun h9 => cD h9.2)
/-- names by 27 -/
def enc (f : Nat → Int) (s : Nat) : Nat → Int
  | 0 => 0
  | k + 1 => 27 * enc f s k + (f (s + k) - 96)
theorem enc_lt {f : Nat → Int} {s : Nat} : ∀ k : Nat, (∀ j, s ≤ j → j < s + k → isL (f j)) → 0 ≤ enc f s k ∧ enc f s k < 27 ^ k := by
  intro k
  induction k with
  | zero => intro _; exact ⟨Int.le_refl 0, (show (0 : Int) < 1 from by decide)⟩
  | succ k ih =>
    intro h
    have h1 := ih (fun j a b => h j a (by omega))
    have h2 : isL (f (s + k)) := h (s + k) (by omega) (by omega)
    unfold isL at h2
    show 0 ≤ 27 * enc f s k + (f (s + k) - 96) ∧ 27 * enc f s k + (f (s + k) - 96) < 27 ^ (k + 1)
    rw [Int.pow_succ]
    generalize (27 : Int) ^ k = t at h1
    omega
/-- which word a name is -/
def KW (L : Nat → Nat → Int64) (nm : Int64) (K : Int32) : Prop := (K.toInt = 1 ∧ ∀ k, k < 13 → L 6 k ≠ nm) ∨ (∃ k : Nat, k < 13 ∧ L 6 k = nm ∧ K.toInt = 20 + (k : Int))
theorem m_keys {J : Nat → Int32} {B : Nat → Nat → Int32} {L : Nat → Nat → Int64} {x c : Int32} {nm : Int64} (kk : Int32 → (Nat → Int32) → (Nat → Nat → Int32) → (Nat → Nat → Int64) → (Int32 × (Nat → Int32) × (Nat → Nat → Int32) × (Nat → Nat → Int64))) :
    ∀ (m : Nat) (z K : Int32) (k : Nat), z.toInt = (k : Int) → k ≤ 13 → 13 - k < m → ((K.toInt = 1 ∧ ∀ j, j < k → L 6 j ≠ nm) ∨ (∃ j : Nat, j < 13 ∧ L 6 j = nm ∧ K.toInt = 20 + (j : Int))) → ∃ K2 : Int32, KW L nm K2 ∧ itr_ii dfM (bM12_cut_146 J B L x nm c kk) m z K = f_bdM (fM12_token J B L K2 x 0 nm) (fun _ I A L => kk (x + c) I A L) := by
  intro m
  induction m with
  | zero => intro z K k _ _ h; omega
  | succ m ih =>
    intro z K k hz hk hm hK
    show ∃ K2 : Int32, KW L nm K2 ∧ bM12_cut_146 J B L x nm c kk (itr_ii dfM (bM12_cut_146 J B L x nm c kk) m) z K = f_bdM (fM12_token J B L K2 x 0 nm) (fun _ I A L => kk (x + c) I A L)
    obtain ⟨G, hG⟩ : ∃ G, G = itr_ii dfM (bM12_cut_146 J B L x nm c kk) m := ⟨_, rfl⟩
    rw [← hG] at ih ⊢
    unfold bM12_cut_146
    dsimp only [f_lt]
    by_cases h : 13 ≤ z.toInt
    · rw [if_pos h]
      refine ⟨K, ?_, rfl⟩
      rcases hK with h1 | h1
      · exact Or.inl ⟨h1.1, fun j hj => h1.2 j (by omega)⟩
      · exact Or.inr h1
    · rw [if_neg h, clN hz]
      have hz1 : (z + 1).toInt = ((k + 1 : Nat) : Int) := by rw [i32_inc (by omega)]; omega
      by_cases h2 : L 6 k = nm
      · rw [if_neg (fun h9 => h9 (lcmp_0.mpr h2))]
        exact ih (z + 1) (20 + z) (k + 1) hz1 (by omega) (by omega) (Or.inr ⟨k, by omega, h2, by rw [i32_add (a := 20) rfl rfl hz (by omega) (by omega)]⟩)
      · rw [if_pos (fun h9 => h2 (lcmp_0.mp h9))]
        refine ih (z + 1) K (k + 1) hz1 (by omega) (by omega) ?_
        rcases hK with h1 | h1
        · refine Or.inl ⟨h1.1, fun j hj => ?_⟩
          by_cases e : j = k
          · rw [e]; exact h2
          · exact h1.2 j (by omega)
        · exact Or.inr h1
theorem m_keysx {J : Nat → Int32} {B : Nat → Nat → Int32} {L : Nat → Nat → Int64} {x c : Int32} {nm : Int64} (kk : Int32 → (Nat → Int32) → (Nat → Nat → Int32) → (Nat → Nat → Int64) → (Int32 × (Nat → Int32) × (Nat → Nat → Int32) × (Nat → Nat → Int64))) : bM12_cut_146x J B L x nm c kk = bM12_cut_146 J B L x nm c kk := rfl
/-- the reference's letters -/
theorem m_letters {J : Nat → Int32} {B : Nat → Nat → Int32} {L : Nat → Nat → Int64} {f : Nat → Int} {n s : Nat} (hn : (J 2).toInt = (n : Int)) (hn2 : n ≤ 2000) (hf : ∀ j, j < n → (B 1 j &&& 255).toInt = f j) {x : Int32} (hx : x.toInt = (s : Int)) (kk : Int32 → (Nat → Int32) → (Nat → Nat → Int32) → (Nat → Nat → Int64) → (Int32 × (Nat → Int32) × (Nat → Nat → Int32) × (Nat → Nat → Int64))) :
    ∀ (m : Nat) (v : Int64) (c : Int32) (k : Nat), c.toInt = (k : Int) → s + k ≤ n → n - (s + k) < m → (∀ j, s ≤ j → j < s + k → isL (f j)) → v.toInt = enc f s (min k 8) → ∃ (q : Nat) (w : Int64) (K y : Int32), Rn isL f n (s + k) q ∧ w.toInt = enc f s (min (q - s) 8) ∧ y.toInt = (q : Int) ∧ (8 < q - s → K.toInt = 3) ∧ (¬ 8 < q - s → KW L w K) ∧ itr_li dfM (bM12_cut_85 x J B L kk) m v c = f_bdM (fM12_token J B L K x 0 w) (fun _ I A L => kk y I A L) := by
  intro m
  induction m with
  | zero => intro v c k _ _ h; omega
  | succ m ih =>
    intro v c k hc hk hm hD hv
    show ∃ (q : Nat) (w : Int64) (K y : Int32), Rn isL f n (s + k) q ∧ w.toInt = enc f s (min (q - s) 8) ∧ y.toInt = (q : Int) ∧ (8 < q - s → K.toInt = 3) ∧ (¬ 8 < q - s → KW L w K) ∧ bM12_cut_85 x J B L kk (itr_li dfM (bM12_cut_85 x J B L kk) m) v c = f_bdM (fM12_token J B L K x 0 w) (fun _ I A L => kk y I A L)
    obtain ⟨G, hG⟩ : ∃ G, G = itr_li dfM (bM12_cut_85 x J B L kk) m := ⟨_, rfl⟩
    rw [← hG] at ih ⊢
    have hxc : (x + c).toInt = ((s + k : Nat) : Int) := by rw [i32_add rfl hx hc (by omega) (by omega)]; omega
    have fin : ¬ (s + k < n ∧ isL (f (s + k))) → ∃ (q : Nat) (w : Int64) (K y : Int32), Rn isL f n (s + k) q ∧ w.toInt = enc f s (min (q - s) 8) ∧ y.toInt = (q : Int) ∧ (8 < q - s → K.toInt = 3) ∧ (¬ 8 < q - s → KW L w K) ∧ (if c.toInt ≤ 8 then itr_ii dfM (bM12_cut_146 J B L x v c kk) FU 0 1 else f_bdM (fM12_token J B L 3 x 0 v) (fun _ I A L => kk (x + c) I A L)) = f_bdM (fM12_token J B L K x 0 w) (fun _ I A L => kk y I A L) := fun hs2 => by
      by_cases c9 : c.toInt ≤ 8
      · rw [if_pos c9]
        obtain ⟨K2, h1, h2⟩ := m_keys (J := J) (B := B) (L := L) (x := x) (c := c) (nm := v) kk FU 0 1 0 rfl (by omega) (by have := FU_eq; omega) (Or.inl ⟨rfl, fun j hj => by omega⟩)
        exact ⟨s + k, v, K2, x + c, Rn.stop hs2, by rw [show s + k - s = k by omega]; exact hv, hxc, fun h9 => by omega, fun _ => h1, h2⟩
      · rw [if_neg c9]
        exact ⟨s + k, v, 3, x + c, Rn.stop hs2, by rw [show s + k - s = k by omega]; exact hv, hxc, fun _ => rfl, fun h9 => by omega, rfl⟩
    unfold bM12_cut_85
    dsimp only [f_lt]
    rw [m_keysx]
    by_cases h : n ≤ s + k
    · rw [m_byteE (I := J) (A := B) (L := L) (z := x + c) (by omega), if_pos rfl, m_isL, if_pos (by decide)]
      exact fin (by omega)
    · rw [m_byte (I := J) (A := B) (L := L) (z := x + c) (by omega), if_neg (show ¬ ((1 : Nat) = 0) by decide), clN hxc, m_isL]
      have hb := hf (s + k) (by omega)
      dsimp only
      by_cases cD : 97 ≤ (B 1 (s + k) &&& 255).toInt ∧ (B 1 (s + k) &&& 255).toInt ≤ 122
      · rw [if_pos cD, if_neg (by decide)]
        have hc1 : (c + 1).toInt = ((k + 1 : Nat) : Int) := by rw [i32_inc (by omega)]; omega
        have cD2 : 97 ≤ f (s + k) ∧ f (s + k) ≤ 122 := by rw [← hb]; exact cD
        have hb2 : ∀ j, s ≤ j → j < s + (k + 1) → isL (f j) := fun j a b => by
          by_cases e : j = s + k
          · rw [e]; exact cD2
          · exact hD j a (by omega)
        by_cases c4 : 8 ≤ c.toInt
        · rw [if_pos c4]
          obtain ⟨q, w, K, y, h1, h2⟩ := ih v (c + 1) (k + 1) hc1 (by omega) (by omega) hb2 (by rw [hv, show min k 8 = 8 by omega, show min (k + 1) 8 = 8 by omega])
          exact ⟨q, w, K, y, Rn.step ⟨by omega, cD2⟩ h1, h2⟩
        · rw [if_neg c4, if_neg (show ¬ ((1 : Nat) = 0) by decide)]
          have g2 := enc_lt (f := f) (s := s) k (fun j a b => hD j a b)
          have g3 : enc f s k < 10460353203 := by
            have : k = 0 ∨ k = 1 ∨ k = 2 ∨ k = 3 ∨ k = 4 ∨ k = 5 ∨ k = 6 ∨ k = 7 := by omega
            rcases this with e | e | e | e | e | e | e | e <;> rw [e] at g2 ⊢ <;> omega
          rw [show min k 8 = k by omega] at hv
          have g4 : (27 * v).toInt = 27 * v.toInt := i64_mul rfl rfl rfl (by omega) (by omega)
          have g5 : ((B 1 (s + k) &&& 255) - 97).toInt = f (s + k) - 97 := i32_sub rfl hb rfl (by omega) (by omega)
          have g6 : ((B 1 (s + k) &&& 255) - 97 + 1).toInt = f (s + k) - 97 + 1 := i32_add rfl g5 rfl (by omega) (by omega)
          have g7 : (27 * v + ((B 1 (s + k) &&& 255) - 97 + 1).toInt64).toInt = 27 * v.toInt + (f (s + k) - 97 + 1) := i64_add rfl g4 (by rw [Int32.toInt_toInt64]; exact g6) (by omega) (by omega)
          have e9 : fM12_appends J B L v (B 1 (s + k) &&& 255) = 27 * v + ((B 1 (s + k) &&& 255) - 97 + 1).toInt64 := by
            unfold fM12_appends
            rw [if_pos (by omega)]
            rfl
          rw [e9]
          obtain ⟨q, w, K, y, h1, h2⟩ := ih (27 * v + ((B 1 (s + k) &&& 255) - 97 + 1).toInt64) (c + 1) (k + 1) hc1 (by omega) (by omega) hb2 (by
            rw [g7, show min (k + 1) 8 = k + 1 by omega]
            show 27 * v.toInt + (f (s + k) - 97 + 1) = 27 * enc f s k + (f (s + k) - 96)
            omega)
          exact ⟨q, w, K, y, Rn.step ⟨by omega, cD2⟩ h1, h2⟩
      · rw [if_neg cD, if_pos rfl]
        rw [hb] at cD
        exact fin (fun h9 => cD h9.2)
