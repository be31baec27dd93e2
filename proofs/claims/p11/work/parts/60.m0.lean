def Fc (p : Prop) : Prop := p
theorem fc {p : Prop} (h : p) : Fc p := h
theorem up3_at {A : Nat → Nat → Int32} {a i p : Nat} {v : Int32} (h : p = i) : up3 A a i v a p = v := by
  show (if a = a then upd (A a) i v else A a) p = _
  rw [if_pos rfl]
  show (if p = i then v else A a p) = _
  rw [if_pos h]
def GHf (a n : Int32) (f : Nat → Int32) (h : Nat) : Prop := 1 ≤ a.toInt ∧ ∀ q : Nat, (q : Int) < n.toInt → 1 ≤ (f (5 * h + q)).toInt
def RW (f : Nat → Int32) (b : Nat) : Prop := (0 ≤ (f b).toInt ∧ (f b).toInt ≤ 160) ∧ 1 ≤ (f (b + 164)).toInt
/-- from b on k places of f, the others of g -/
def cpo (f g : Nat → Int32) (b k : Nat) : Nat → Int32 := fun p => if p < b then g p else if p < b + k then f (p - b) else g p
theorem cpo_st {A : Nat → Nat → Int32} {a b k z : Nat} {f g : Nat → Int32} {v : Int32} (hz : z = b + k) (hv : v = f k) : up3 (up2 A a (cpo f g b k)) a z v = up2 A a (cpo f g b (k + 1)) := by
  funext c p
  by_cases hc : c = a
  · subst hc
    show (if c = c then upd (up2 A c (cpo f g b k) c) z v else up2 A c (cpo f g b k) c) p = (if c = c then cpo f g b (k + 1) else A c) p
    rw [if_pos rfl, if_pos rfl]
    show (if p = z then v else up2 A c (cpo f g b k) c p) = cpo f g b (k + 1) p
    have e2 : up2 A c (cpo f g b k) c = cpo f g b k := by
      show (if c = c then cpo f g b k else A c) = _
      rw [if_pos rfl]
    rw [e2]
    unfold cpo
    by_cases hp : p = z
    · rw [if_pos hp, if_neg (by omega), if_pos (by omega), hv, show p - b = k by omega]
    · rw [if_neg hp]
      by_cases h1 : p < b
      · rw [if_pos h1, if_pos h1]
      · rw [if_neg h1, if_neg h1]
        by_cases h2 : p < b + k
        · rw [if_pos h2, if_pos (by omega)]
        · rw [if_neg h2, if_neg (by omega)]
  · show (if c = a then upd (up2 A a (cpo f g b k) a) z v else up2 A a (cpo f g b k) c) p = (if c = a then cpo f g b (k + 1) else A c) p
    rw [if_neg hc, if_neg hc]
    show (if c = a then cpo f g b k else A c) p = A c p
    rw [if_neg hc]
theorem cpo_0 {A : Nat → Nat → Int32} {a b : Nat} {f : Nat → Int32} : up2 A a (cpo f (A a) b 0) = A := by
  funext c p
  show (if c = a then cpo f (A a) b 0 else A c) p = A c p
  by_cases hc : c = a
  · rw [if_pos hc, hc]
    unfold cpo
    by_cases h1 : p < b
    · rw [if_pos h1]
    · rw [if_neg h1, if_neg (by omega)]
  · rw [if_neg hc]
theorem nI_of_toInt {y : Int32} {k : Nat} (hk : k < 2147483648) (h : y.toInt = (k : Int)) : y = nI k := Int32.toInt_inj.mp (by rw [h, nI_toInt hk])
theorem cl_nat {y : Int32} {k : Nat} (h : y.toInt = (k : Int)) : y.toNatClampNeg = k := by
  have := cl_int (y := y) (by omega)
  omega
theorem ghf_upd {a n v : Int32} {f : Nat → Int32} {h p : Nat} (hg : GHf a n f h) (hp : ∀ q : Nat, (q : Int) < n.toInt → 5 * h + q ≠ p) : GHf a n (upd f p v) h := by
  refine ⟨hg.1, fun q hq => ?_⟩
  show 1 ≤ (if 5 * h + q = p then v else f (5 * h + q)).toInt
  rw [if_neg (hp q hq)]
  exact hg.2 q hq
theorem ghf_add {a n n2 : Int32} {f : Nat → Int32} {h p : Nat} (hg : GHf a n f h) (hn : n2.toInt = n.toInt + 1) (hp : (p : Int) = 5 * h + n.toInt) (hv : 1 ≤ (f p).toInt) : GHf a n2 f h := by
  refine ⟨hg.1, fun q hq => ?_⟩
  by_cases e : (q : Int) < n.toInt
  · exact hg.2 q e
  · have e2 : 5 * h + q = p := by omega
    rw [e2]; exact hv
theorem ghf_0 {a n : Int32} {f : Nat → Int32} {h : Nat} (ha : 1 ≤ a.toInt) (hn : n.toInt = 0) : GHf a n f h := ⟨ha, fun q hq => by omega⟩
theorem ghf_a {a a2 n : Int32} {f : Nat → Int32} {h : Nat} (hg : GHf a n f h) (ha : 1 ≤ a2.toInt) : GHf a2 n f h := ⟨ha, hg.2⟩
theorem hr_out {f : Nat → Int32} {n v : Int32} {z : Nat} (h : ∀ j : Nat, (j : Int) < n.toInt → RW f (165 * j)) (hz : 165 * n.toInt ≤ (z : Int)) : ∀ j : Nat, (j : Int) < n.toInt → RW (upd f z v) (165 * j) := by
  intro j hj
  have h1 := h j hj
  unfold RW at h1 ⊢
  have e1 : upd f z v (165 * j) = f (165 * j) := by show (if _ = z then v else _) = _; rw [if_neg (by omega)]
  have e2 : upd f z v (165 * j + 164) = f (165 * j + 164) := by show (if _ = z then v else _) = _; rw [if_neg (by omega)]
  rw [e1, e2]; exact h1
theorem hr_shift {f : Nat → Int32} {n : Int32} {k k2 : Nat} (h : ∀ j : Nat, (j : Int) < n.toInt → RW f (165 * j)) (hk : k2 = k + 165) (hn : (k : Int) + 165 < 165 * n.toInt) : ∀ j : Nat, (j : Int) < n.toInt → RW (upd f k (f k2)) (165 * j) := by
  subst hk
  intro j hj
  have h1 := h j hj
  unfold RW at h1 ⊢
  refine ⟨?_, ?_⟩
  · show 0 ≤ (if 165 * j = k then f (k + 165) else f (165 * j)).toInt ∧ (if 165 * j = k then f (k + 165) else f (165 * j)).toInt ≤ 160
    by_cases e : 165 * j = k
    · rw [if_pos e]
      have h2 := (h (j + 1) (by omega)).1
      rw [show 165 * (j + 1) = k + 165 by omega] at h2; exact h2
    · rw [if_neg e]; exact h1.1
  · show 1 ≤ (if 165 * j + 164 = k then f (k + 165) else f (165 * j + 164)).toInt
    by_cases e : 165 * j + 164 = k
    · rw [if_pos e]
      have h2 := (h (j + 1) (by omega)).2
      rw [show 165 * (j + 1) + 164 = k + 165 by omega] at h2; exact h2
    · rw [if_neg e]; exact h1.2
theorem hr_cpo {f g : Nat → Int32} {n n2 : Int32} {b : Nat} (h : ∀ j : Nat, (j : Int) < n.toInt → RW f (165 * j)) (hb : (b : Int) = 165 * n.toInt) (hn : n2.toInt = n.toInt + 1) (hg : RW g 0) : ∀ j : Nat, (j : Int) < n2.toInt → RW (cpo g f b 165) (165 * j) := by
  intro j hj
  unfold RW at hg ⊢
  by_cases e : (j : Int) < n.toInt
  · have h1 := h j e
    unfold RW at h1
    have e1 : cpo g f b 165 (165 * j) = f (165 * j) := by unfold cpo; rw [if_pos (by omega)]
    have e2 : cpo g f b 165 (165 * j + 164) = f (165 * j + 164) := by unfold cpo; rw [if_pos (by omega)]
    rw [e1, e2]; exact h1
  · have e0 : 165 * j = b := by omega
    have e1 : cpo g f b 165 (165 * j) = g 0 := by unfold cpo; rw [if_neg (by omega), if_pos (by omega), show 165 * j - b = 0 by omega]
    have e2 : cpo g f b 165 (165 * j + 164) = g (0 + 164) := by unfold cpo; rw [if_neg (by omega), if_pos (by omega), show 165 * j + 164 - b = 0 + 164 by omega]
    rw [e1, e2]; exact hg
theorem hh_cpo {f g t : Nat → Int32} {s : Nat} {v : Int32} (h : ∀ i : Nat, i < 3 → (t i).toInt ≠ 0 → RW f (165 * i)) (hg : RW g 0) : ∀ i : Nat, i < 3 → (upd t s v i).toInt ≠ 0 → RW (cpo g f (165 * s) 165) (165 * i) := by
  intro i hi ht
  unfold RW at hg ⊢
  by_cases e : i = s
  · have e1 : cpo g f (165 * s) 165 (165 * i) = g 0 := by unfold cpo; rw [if_neg (by omega), if_pos (by omega), show 165 * i - 165 * s = 0 by omega]
    have e2 : cpo g f (165 * s) 165 (165 * i + 164) = g (0 + 164) := by unfold cpo; rw [if_neg (by omega), if_pos (by omega), show 165 * i + 164 - 165 * s = 0 + 164 by omega]
    rw [e1, e2]; exact hg
  · have ht2 : (t i).toInt ≠ 0 := by
      have e3 : upd t s v i = t i := by show (if i = s then v else t i) = _; rw [if_neg e]
      rw [e3] at ht; exact ht
    have h1 := h i hi ht2
    unfold RW at h1
    have e1 : cpo g f (165 * s) 165 (165 * i) = f (165 * i) := by
      unfold cpo
      by_cases h3 : 165 * i < 165 * s
      · rw [if_pos h3]
      · rw [if_neg h3, if_neg (by omega)]
    have e2 : cpo g f (165 * s) 165 (165 * i + 164) = f (165 * i + 164) := by
      unfold cpo
      by_cases h3 : 165 * i + 164 < 165 * s
      · rw [if_pos h3]
      · rw [if_neg h3, if_neg (by omega)]
    rw [e1, e2]; exact h1
theorem hh_off {f t : Nat → Int32} {s : Nat} {v : Int32} (h : ∀ i : Nat, i < 3 → (t i).toInt ≠ 0 → RW f (165 * i)) (hv : v.toInt = 0) : ∀ i : Nat, i < 3 → (upd t s v i).toInt ≠ 0 → RW f (165 * i) := by
  intro i hi ht
  by_cases e : i = s
  · have e3 : upd t s v i = v := by show (if i = s then v else t i) = _; rw [if_pos e]
    rw [e3] at ht; exact absurd hv ht
  · have e3 : upd t s v i = t i := by show (if i = s then v else t i) = _; rw [if_neg e]
    rw [e3] at ht; exact h i hi ht
/-- pigeons -/
theorem pig : ∀ (N n : Nat) (f : Nat → Nat), (∀ i, i < n → f i < N) → (∀ i j, i < j → j < n → f i ≠ f j) → n ≤ N := by
  intro N
  induction N with
  | zero => intro n f h1 h2; rcases Nat.eq_zero_or_pos n with h | h
            · omega
            · exact absurd (h1 0 h) (Nat.not_lt_zero _)
  | succ N ih =>
    intro n f h1 h2
    by_cases hx : ∃ i, i < n ∧ f i = N
    · obtain ⟨i0, hi, he⟩ := hx
      have h3 := ih (n - 1) (fun i => if i < i0 then f i else f (i + 1)) (fun i hi2 => by
        show (if i < i0 then f i else f (i + 1)) < N
        by_cases h : i < i0
        · rw [if_pos h]
          have a1 := h1 i (by omega)
          have a2 := h2 i i0 h hi
          omega
        · rw [if_neg h]
          have a1 := h1 (i + 1) (by omega)
          have a2 := h2 i0 (i + 1) (by omega) (by omega)
          omega) (fun i j hij hj => by
        show (if i < i0 then f i else f (i + 1)) ≠ (if j < i0 then f j else f (j + 1))
        by_cases h : i < i0
        · rw [if_pos h]
          by_cases h' : j < i0
          · rw [if_pos h']; exact h2 i j hij (by omega)
          · rw [if_neg h']; exact h2 i (j + 1) (by omega) (by omega)
        · rw [if_neg h, if_neg (by omega)]; exact h2 (i + 1) (j + 1) (by omega) (by omega))
      omega
    · have h3 := ih n f (fun i hi => by
        have a1 := h1 i hi
        have a2 : f i ≠ N := fun e => hx ⟨i, hi, e⟩
        omega) h2
      omega
theorem pg_lt {f : Nat → Int32} {m b : Int32} (hm : 0 ≤ m.toInt ∧ m.toInt ≤ 160) (hf : ∀ j, 0 ≤ (f j).toInt ∧ (f j).toInt ≤ 159) (hD : ∀ i j : Nat, i < j → (j : Int) < m.toInt → (f i).toInt ≠ (f j).toInt) (hb : ∀ j : Nat, (j : Int) < m.toInt → (f j).toInt ≠ b.toInt) (h0 : 0 ≤ b.toInt) (h1 : b.toInt ≤ 159) : m.toInt ≤ 159 := by
  have h2 := pig 160 (m.toInt.toNat + 1) (fun i => if (i : Int) < m.toInt then (f i).toInt.toNat else b.toInt.toNat) (fun i hi => by
    show (if (i : Int) < m.toInt then (f i).toInt.toNat else b.toInt.toNat) < 160
    have := hf i
    by_cases h : (i : Int) < m.toInt
    · rw [if_pos h]; omega
    · rw [if_neg h]; omega) (fun i j hij hj => by
    show (if (i : Int) < m.toInt then (f i).toInt.toNat else b.toInt.toNat) ≠ (if (j : Int) < m.toInt then (f j).toInt.toNat else b.toInt.toNat)
    have a1 := hf i
    have a2 := hf j
    rw [if_pos (by omega)]
    by_cases h : (j : Int) < m.toInt
    · rw [if_pos h]
      have := hD i j hij h
      omega
    · rw [if_neg h]
      have := hb i (by omega)
      omega)
  omega
theorem di_st {f : Nat → Int32} {m m2 b : Int32} (hm : 0 ≤ m.toInt) (h2 : m2.toInt = m.toInt + 1) (hD : ∀ i j : Nat, i < j → (j : Int) < m.toInt → (f i).toInt ≠ (f j).toInt) (hb : ∀ j : Nat, (j : Int) < m.toInt → (f j).toInt ≠ b.toInt) : ∀ i j : Nat, i < j → (j : Int) < m2.toInt → (upd f m.toNatClampNeg b i).toInt ≠ (upd f m.toNatClampNeg b j).toInt := by
  intro i j hij hj
  have hc := cl_int (y := m) hm
  have e1 : upd f m.toNatClampNeg b i = f i := by show (if i = m.toNatClampNeg then b else f i) = _; rw [if_neg (by omega)]
  rw [e1]
  by_cases h : (j : Int) < m.toInt
  · have e2 : upd f m.toNatClampNeg b j = f j := by show (if j = m.toNatClampNeg then b else f j) = _; rw [if_neg (by omega)]
    rw [e2]; exact hD i j hij h
  · have e2 : upd f m.toNatClampNeg b j = b := by show (if j = m.toNatClampNeg then b else f j) = _; rw [if_pos (by omega)]
    rw [e2]; exact hb i (by omega)
def IvM (I : Nat → Int32) (A : Nat → Nat → Int32) : Prop := (0 ≤ (I 1).toInt ∧ (I 1).toInt ≤ 2000) ∧ (0 ≤ (I 2).toInt ∧ (I 2).toInt ≤ 2000) ∧ (0 ≤ (I 3).toInt ∧ (I 3).toInt ≤ 401) ∧ (0 ≤ (I 4).toInt ∧ (I 4).toInt ≤ 400) ∧ (0 ≤ (I 6).toInt ∧ (I 6).toInt ≤ 9) ∧ (0 ≤ (I 8).toInt ∧ (I 8).toInt ≤ 9) ∧ (0 ≤ (I 15).toInt ∧ (I 15).toInt ≤ 1) ∧ (0 ≤ (I 16).toInt ∧ (I 16).toInt ≤ 1) ∧ (0 ≤ (I 17).toInt ∧ (I 17).toInt ≤ 5) ∧ (0 ≤ (I 18).toInt ∧ (I 18).toInt ≤ 16) ∧ (0 ≤ (I 22).toInt ∧ (I 22).toInt ≤ 40) ∧ (0 ≤ (I 23).toInt ∧ (I 23).toInt ≤ 40) ∧ (0 ≤ (I 24).toInt ∧ (I 24).toInt ≤ 160) ∧ (∀ j, 0 ≤ (A 11 j).toInt ∧ (A 11 j).toInt ≤ 16) ∧ (∀ j, 0 ≤ (A 26 j).toInt ∧ (A 26 j).toInt ≤ 159) ∧ (0 ≤ (A 8 0).toInt ∧ (A 8 0).toInt ≤ 160) ∧ (0 ≤ (A 8 1).toInt ∧ (A 8 1).toInt ≤ 160) ∧ (0 ≤ (A 10 0).toInt ∧ (A 10 0).toInt ≤ 5) ∧ (0 ≤ (A 10 1).toInt ∧ (A 10 1).toInt ≤ 5) ∧ (0 ≤ (A 17 0).toInt ∧ (A 17 0).toInt ≤ 160) ∧ (1 ≤ (A 17 164).toInt ∧ (A 17 164).toInt ≤ 2147483647) ∧ (((I 15).toInt = 0 → GHf (A 16 0) (A 10 0) (A 11) 0) ∧ ((I 15).toInt = 1 → GHf (A 16 1) (A 10 1) (A 11) 1)) ∧ ((I 6).toInt ≠ 0 ∨ (I 8).toInt ≠ 0 ∨ (((I 16).toInt = 0 → GHf (A 16 0) (A 10 0) (A 11) 0) ∧ ((I 16).toInt = 1 → GHf (A 16 1) (A 10 1) (A 11) 1))) ∧ (((I 16).toInt = 0 → (I 17).toInt = (A 10 0).toInt) ∧ ((I 16).toInt = 1 → (I 17).toInt = (A 10 1).toInt)) ∧ (∀ j : Nat, (j : Int) < (I 22).toInt → RW (A 22) (165 * j)) ∧ (∀ s : Nat, s < 3 → (A 27 s).toInt ≠ 0 → RW (A 28) (165 * s)) ∧ True
theorem IvM_f1 {I : Nat → Int32} {A : Nat → Nat → Int32} (h : IvM I A) : (0 ≤ (I 1).toInt ∧ (I 1).toInt ≤ 2000) := h.1
theorem IvM_f2 {I : Nat → Int32} {A : Nat → Nat → Int32} (h : IvM I A) : (0 ≤ (I 2).toInt ∧ (I 2).toInt ≤ 2000) := h.2.1
theorem IvM_f3 {I : Nat → Int32} {A : Nat → Nat → Int32} (h : IvM I A) : (0 ≤ (I 3).toInt ∧ (I 3).toInt ≤ 401) := h.2.2.1
theorem IvM_f4 {I : Nat → Int32} {A : Nat → Nat → Int32} (h : IvM I A) : (0 ≤ (I 4).toInt ∧ (I 4).toInt ≤ 400) := h.2.2.2.1
theorem IvM_f6 {I : Nat → Int32} {A : Nat → Nat → Int32} (h : IvM I A) : (0 ≤ (I 6).toInt ∧ (I 6).toInt ≤ 9) := h.2.2.2.2.1
theorem IvM_f8 {I : Nat → Int32} {A : Nat → Nat → Int32} (h : IvM I A) : (0 ≤ (I 8).toInt ∧ (I 8).toInt ≤ 9) := h.2.2.2.2.2.1
theorem IvM_f15 {I : Nat → Int32} {A : Nat → Nat → Int32} (h : IvM I A) : (0 ≤ (I 15).toInt ∧ (I 15).toInt ≤ 1) := h.2.2.2.2.2.2.1
theorem IvM_f16 {I : Nat → Int32} {A : Nat → Nat → Int32} (h : IvM I A) : (0 ≤ (I 16).toInt ∧ (I 16).toInt ≤ 1) := h.2.2.2.2.2.2.2.1
theorem IvM_f17 {I : Nat → Int32} {A : Nat → Nat → Int32} (h : IvM I A) : (0 ≤ (I 17).toInt ∧ (I 17).toInt ≤ 5) := h.2.2.2.2.2.2.2.2.1
theorem IvM_f18 {I : Nat → Int32} {A : Nat → Nat → Int32} (h : IvM I A) : (0 ≤ (I 18).toInt ∧ (I 18).toInt ≤ 16) := h.2.2.2.2.2.2.2.2.2.1
theorem IvM_f22 {I : Nat → Int32} {A : Nat → Nat → Int32} (h : IvM I A) : (0 ≤ (I 22).toInt ∧ (I 22).toInt ≤ 40) := h.2.2.2.2.2.2.2.2.2.2.1
theorem IvM_f23 {I : Nat → Int32} {A : Nat → Nat → Int32} (h : IvM I A) : (0 ≤ (I 23).toInt ∧ (I 23).toInt ≤ 40) := h.2.2.2.2.2.2.2.2.2.2.2.1
theorem IvM_f24 {I : Nat → Int32} {A : Nat → Nat → Int32} (h : IvM I A) : (0 ≤ (I 24).toInt ∧ (I 24).toInt ≤ 160) := h.2.2.2.2.2.2.2.2.2.2.2.2.1
theorem IvM_a11 {I : Nat → Int32} {A : Nat → Nat → Int32} (h : IvM I A) : (∀ j, 0 ≤ (A 11 j).toInt ∧ (A 11 j).toInt ≤ 16) := h.2.2.2.2.2.2.2.2.2.2.2.2.2.1
theorem IvM_a26 {I : Nat → Int32} {A : Nat → Nat → Int32} (h : IvM I A) : (∀ j, 0 ≤ (A 26 j).toInt ∧ (A 26 j).toInt ≤ 159) := h.2.2.2.2.2.2.2.2.2.2.2.2.2.2.1
theorem IvM_s8_0 {I : Nat → Int32} {A : Nat → Nat → Int32} (h : IvM I A) : (0 ≤ (A 8 0).toInt ∧ (A 8 0).toInt ≤ 160) := h.2.2.2.2.2.2.2.2.2.2.2.2.2.2.2.1
theorem IvM_s8_1 {I : Nat → Int32} {A : Nat → Nat → Int32} (h : IvM I A) : (0 ≤ (A 8 1).toInt ∧ (A 8 1).toInt ≤ 160) := h.2.2.2.2.2.2.2.2.2.2.2.2.2.2.2.2.1
theorem IvM_s10_0 {I : Nat → Int32} {A : Nat → Nat → Int32} (h : IvM I A) : (0 ≤ (A 10 0).toInt ∧ (A 10 0).toInt ≤ 5) := h.2.2.2.2.2.2.2.2.2.2.2.2.2.2.2.2.2.1
theorem IvM_s10_1 {I : Nat → Int32} {A : Nat → Nat → Int32} (h : IvM I A) : (0 ≤ (A 10 1).toInt ∧ (A 10 1).toInt ≤ 5) := h.2.2.2.2.2.2.2.2.2.2.2.2.2.2.2.2.2.2.1
theorem IvM_s17_0 {I : Nat → Int32} {A : Nat → Nat → Int32} (h : IvM I A) : (0 ≤ (A 17 0).toInt ∧ (A 17 0).toInt ≤ 160) := h.2.2.2.2.2.2.2.2.2.2.2.2.2.2.2.2.2.2.2.1
theorem IvM_s17_164 {I : Nat → Int32} {A : Nat → Nat → Int32} (h : IvM I A) : (1 ≤ (A 17 164).toInt ∧ (A 17 164).toInt ≤ 2147483647) := h.2.2.2.2.2.2.2.2.2.2.2.2.2.2.2.2.2.2.2.2.1
theorem IvM_lv {I : Nat → Int32} {A : Nat → Nat → Int32} (h : IvM I A) : (((I 15).toInt = 0 → GHf (A 16 0) (A 10 0) (A 11) 0) ∧ ((I 15).toInt = 1 → GHf (A 16 1) (A 10 1) (A 11) 1)) := h.2.2.2.2.2.2.2.2.2.2.2.2.2.2.2.2.2.2.2.2.2.1
theorem IvM_sd {I : Nat → Int32} {A : Nat → Nat → Int32} (h : IvM I A) : ((I 6).toInt ≠ 0 ∨ (I 8).toInt ≠ 0 ∨ (((I 16).toInt = 0 → GHf (A 16 0) (A 10 0) (A 11) 0) ∧ ((I 16).toInt = 1 → GHf (A 16 1) (A 10 1) (A 11) 1))) := h.2.2.2.2.2.2.2.2.2.2.2.2.2.2.2.2.2.2.2.2.2.2.1
theorem IvM_nq {I : Nat → Int32} {A : Nat → Nat → Int32} (h : IvM I A) : (((I 16).toInt = 0 → (I 17).toInt = (A 10 0).toInt) ∧ ((I 16).toInt = 1 → (I 17).toInt = (A 10 1).toInt)) := h.2.2.2.2.2.2.2.2.2.2.2.2.2.2.2.2.2.2.2.2.2.2.2.1
theorem IvM_hr {I : Nat → Int32} {A : Nat → Nat → Int32} (h : IvM I A) : (∀ j : Nat, (j : Int) < (I 22).toInt → RW (A 22) (165 * j)) := h.2.2.2.2.2.2.2.2.2.2.2.2.2.2.2.2.2.2.2.2.2.2.2.2.1
theorem IvM_hh {I : Nat → Int32} {A : Nat → Nat → Int32} (h : IvM I A) : (∀ s : Nat, s < 3 → (A 27 s).toInt ≠ 0 → RW (A 28) (165 * s)) := h.2.2.2.2.2.2.2.2.2.2.2.2.2.2.2.2.2.2.2.2.2.2.2.2.2.1
theorem lv_w {I : Nat → Int32} {A : Nat → Nat → Int32} {z : Int32} (h : IvM I A) (h0 : 0 ≤ z.toInt) (h1 : ((I 15).toInt = 0 ∧ z.toInt < (A 10 0).toInt) ∨ ((I 15).toInt = 1 ∧ z.toInt < (A 10 1).toInt)) : 1 ≤ (A 11 (5 * (I 15) + z).toNatClampNeg).toInt := by
  have hq := cl_int (y := z) h0
  have b0 := IvM_s10_0 h
  have b1 := IvM_s10_1 h
  rcases h1 with ⟨e, hz⟩ | ⟨e, hz⟩
  · have e2 : I 15 = 0 := Int32.toInt_inj.mp e
    have g := ((IvM_lv h).1 e).2 z.toNatClampNeg (by omega)
    have e3 : (5 * I 15 + z).toNatClampNeg = 5 * 0 + z.toNatClampNeg := by
      rw [e2]
      have e4 : ((5 : Int32) * 0 + z).toInt = 0 + z.toInt := i32_add rfl (by decide) rfl (by omega) (by omega)
      have e5 := cl_int (y := (5 : Int32) * 0 + z) (by omega)
      omega
    rw [e3]; exact g
  · have e2 : I 15 = 1 := Int32.toInt_inj.mp e
    have g := ((IvM_lv h).2 e).2 z.toNatClampNeg (by omega)
    have e3 : (5 * I 15 + z).toNatClampNeg = 5 * 1 + z.toNatClampNeg := by
      rw [e2]
      have e4 : ((5 : Int32) * 1 + z).toInt = 5 + z.toInt := i32_add rfl (by decide) rfl (by omega) (by omega)
      have e5 := cl_int (y := (5 : Int32) * 1 + z) (by omega)
      omega
    rw [e3]; exact g
