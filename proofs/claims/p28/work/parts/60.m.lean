section
def Fc (p : Prop) : Prop := p
theorem fc {p : Prop} (h : p) : Fc p := h
theorem up3_at {A : Nat → Nat → Int32} {a i p : Nat} {v : Int32} (h : p = i) : up3 A a i v a p = v := by
  show (if a = a then upd (A a) i v else A a) p = _
  rw [if_pos rfl]
  show (if p = i then v else A a p) = _
  rw [if_pos h]
def GHf (a n : Int32) (f : Nat → Int32) (h : Nat) : Prop := 1 ≤ a.toInt ∧ ∀ q : Nat, (q : Int) < n.toInt → 1 ≤ (f (5 * h + q)).toInt
def RW (f : Nat → Int32) (b : Nat) : Prop := (0 ≤ (f b).toInt ∧ (f b).toInt ≤ 160) ∧ 1 ≤ (f (b + 164)).toInt
/-- from b on k places of f, the others of g -/
def cpo (f g : Nat → Int32) (b k : Nat) : Nat → Int32 := fun p => if p < b then g p else if p < b + k then f (p - b) else g p
theorem cpo_st {A : Nat → Nat → Int32} {a b k z : Nat} {f g : Nat → Int32} {v : Int32} (hz : z = b + k) (hv : v = f k) : up3 (up2 A a (cpo f g b k)) a z v = up2 A a (cpo f g b (k + 1)) := by
  funext c p
  by_cases hc : c = a
  · subst hc
    show (if c = c then upd (up2 A c (cpo f g b k) c) z v else up2 A c (cpo f g b k) c) p = (if c = c then cpo f g b (k + 1) else A c) p
    rw [if_pos rfl, if_pos rfl]
    show (if p = z then v else up2 A c (cpo f g b k) c p) = cpo f g b (k + 1) p
    have e2 : up2 A c (cpo f g b k) c = cpo f g b k := by
      show (if c = c then cpo f g b k else A c) = _
      rw [if_pos rfl]
    rw [e2]
    unfold cpo
    by_cases hp : p = z
    · rw [if_pos hp, if_neg (by omega), if_pos (by omega), hv, show p - b = k by omega]
    · rw [if_neg hp]
      by_cases h1 : p < b
      · rw [if_pos h1, if_pos h1]
      · rw [if_neg h1, if_neg h1]
        by_cases h2 : p < b + k
        · rw [if_pos h2, if_pos (by omega)]
        · rw [if_neg h2, if_neg (by omega)]
  · show (if c = a then upd (up2 A a (cpo f g b k) a) z v else up2 A a (cpo f g b k) c) p = (if c = a then cpo f g b (k + 1) else A c) p
    rw [if_neg hc, if_neg hc]
    show (if c = a then cpo f g b k else A c) p = A c p
    rw [if_neg hc]
theorem cpo_0 {A : Nat → Nat → Int32} {a b : Nat} {f : Nat → Int32} : up2 A a (cpo f (A a) b 0) = A := by
  funext c p
  show (if c = a then cpo f (A a) b 0 else A c) p = A c p
  by_cases hc : c = a
  · rw [if_pos hc, hc]
    unfold cpo
    by_cases h1 : p < b
    · rw [if_pos h1]
    · rw [if_neg h1, if_neg (by omega)]
  · rw [if_neg hc]
theorem nI_of_toInt {y : Int32} {k : Nat} (hk : k < 2147483648) (h : y.toInt = (k : Int)) : y = nI k := Int32.toInt_inj.mp (by rw [h, nI_toInt hk])
theorem cl_nat {y : Int32} {k : Nat} (h : y.toInt = (k : Int)) : y.toNatClampNeg = k := by
  have := cl_int (y := y) (by omega)
  omega
theorem ghf_upd {a n v : Int32} {f : Nat → Int32} {h p : Nat} (hg : GHf a n f h) (hp : ∀ q : Nat, (q : Int) < n.toInt → 5 * h + q ≠ p) : GHf a n (upd f p v) h := by
  refine ⟨hg.1, fun q hq => ?_⟩
  show 1 ≤ (if 5 * h + q = p then v else f (5 * h + q)).toInt
  rw [if_neg (hp q hq)]
  exact hg.2 q hq
theorem ghf_add {a n n2 : Int32} {f : Nat → Int32} {h p : Nat} (hg : GHf a n f h) (hn : n2.toInt = n.toInt + 1) (hp : (p : Int) = 5 * h + n.toInt) (hv : 1 ≤ (f p).toInt) : GHf a n2 f h := by
  refine ⟨hg.1, fun q hq => ?_⟩
  by_cases e : (q : Int) < n.toInt
  · exact hg.2 q e
  · have e2 : 5 * h + q = p := by omega
    rw [e2]; exact hv
theorem ghf_0 {a n : Int32} {f : Nat → Int32} {h : Nat} (ha : 1 ≤ a.toInt) (hn : n.toInt = 0) : GHf a n f h := ⟨ha, fun q hq => by omega⟩
theorem ghf_a {a a2 n : Int32} {f : Nat → Int32} {h : Nat} (hg : GHf a n f h) (ha : 1 ≤ a2.toInt) : GHf a2 n f h := ⟨ha, hg.2⟩
theorem hr_out {f : Nat → Int32} {n v : Int32} {z : Nat} (h : ∀ j : Nat, (j : Int) < n.toInt → RW f (165 * j)) (hz : 165 * n.toInt ≤ (z : Int)) : ∀ j : Nat, (j : Int) < n.toInt → RW (upd f z v) (165 * j) := by
  intro j hj
  have h1 := h j hj
  unfold RW at h1 ⊢
  have e1 : upd f z v (165 * j) = f (165 * j) := by show (if _ = z then v else _) = _; rw [if_neg (by omega)]
  have e2 : upd f z v (165 * j + 164) = f (165 * j + 164) := by show (if _ = z then v else _) = _; rw [if_neg (by omega)]
  rw [e1, e2]; exact h1
theorem hr_shift {f : Nat → Int32} {n : Int32} {k k2 : Nat} (h : ∀ j : Nat, (j : Int) < n.toInt → RW f (165 * j)) (hk : k2 = k + 165) (hn : (k : Int) + 165 < 165 * n.toInt) : ∀ j : Nat, (j : Int) < n.toInt → RW (upd f k (f k2)) (165 * j) := by
  subst hk
  intro j hj
  have h1 := h j hj
  unfold RW at h1 ⊢
  refine ⟨?_, ?_⟩
  · show 0 ≤ (if 165 * j = k then f (k + 165) else f (165 * j)).toInt ∧ (if 165 * j = k then f (k + 165) else f (165 * j)).toInt ≤ 160
    by_cases e : 165 * j = k
    · rw [if_pos e]
      have h2 := (h (j + 1) (by omega)).1
      rw [show 165 * (j + 1) = k + 165 by omega] at h2; exact h2
    · rw [if_neg e]; exact h1.1
  · show 1 ≤ (if 165 * j + 164 = k then f (k + 165) else f (165 * j + 164)).toInt
    by_cases e : 165 * j + 164 = k
    · rw [if_pos e]
      have h2 := (h (j + 1) (by omega)).2
      rw [show 165 * (j + 1) + 164 = k + 165 by omega] at h2; exact h2
    · rw [if_neg e]; exact h1.2
theorem hr_cpo {f g : Nat → Int32} {n n2 : Int32} {b : Nat} (h : ∀ j : Nat, (j : Int) < n.toInt → RW f (165 * j)) (hb : (b : Int) = 165 * n.toInt) (hn : n2.toInt = n.toInt + 1) (hg : RW g 0) : ∀ j : Nat, (j : Int) < n2.toInt → RW (cpo g f b 165) (165 * j) := by
  intro j hj
  unfold RW at hg ⊢
  by_cases e : (j : Int) < n.toInt
  · have h1 := h j e
    unfold RW at h1
    have e1 : cpo g f b 165 (165 * j) = f (165 * j) := by unfold cpo; rw [if_pos (by omega)]
    have e2 : cpo g f b 165 (165 * j + 164) = f (165 * j + 164) := by unfold cpo; rw [if_pos (by omega)]
    rw [e1, e2]; exact h1
  · have e0 : 165 * j = b := by omega
    have e1 : cpo g f b 165 (165 * j) = g 0 := by unfold cpo; rw [if_neg (by omega), if_pos (by omega), show 165 * j - b = 0 by omega]
    have e2 : cpo g f b 165 (165 * j + 164) = g (0 + 164) := by unfold cpo; rw [if_neg (by omega), if_pos (by omega), show 165 * j + 164 - b = 0 + 164 by omega]
    rw [e1, e2]; exact hg
theorem hh_cpo {f g t : Nat → Int32} {s : Nat} {v : Int32} (h : ∀ i : Nat, i < 3 → (t i).toInt ≠ 0 → RW f (165 * i)) (hg : RW g 0) : ∀ i : Nat, i < 3 → (upd t s v i).toInt ≠ 0 → RW (cpo g f (165 * s) 165) (165 * i) := by
  intro i hi ht
  unfold RW at hg ⊢
  by_cases e : i = s
  · have e1 : cpo g f (165 * s) 165 (165 * i) = g 0 := by unfold cpo; rw [if_neg (by omega), if_pos (by omega), show 165 * i - 165 * s = 0 by omega]
    have e2 : cpo g f (165 * s) 165 (165 * i + 164) = g (0 + 164) := by unfold cpo; rw [if_neg (by omega), if_pos (by omega), show 165 * i + 164 - 165 * s = 0 + 164 by omega]
    rw [e1, e2]; exact hg
  · have ht2 : (t i).toInt ≠ 0 := by
      have e3 : upd t s v i = t i := by show (if i = s then v else t i) = _; rw [if_neg e]
      rw [e3] at ht; exact ht
    have h1 := h i hi ht2
    unfold RW at h1
    have e1 : cpo g f (165 * s) 165 (165 * i) = f (165 * i) := by
      unfold cpo
      by_cases h3 : 165 * i < 165 * s
      · rw [if_pos h3]
      · rw [if_neg h3, if_neg (by omega)]
    have e2 : cpo g f (165 * s) 165 (165 * i + 164) = f (165 * i + 164) := by
      unfold cpo
      by_cases h3 : 165 * i + 164 < 165 * s
      · rw [if_pos h3]
      · rw [if_neg h3, if_neg (by omega)]
    rw [e1, e2]; exact h1
theorem hh_off {f t : Nat → Int32} {s : Nat} {v : Int32} (h : ∀ i : Nat, i < 3 → (t i).toInt ≠ 0 → RW f (165 * i)) (hv : v.toInt = 0) : ∀ i : Nat, i < 3 → (upd t s v i).toInt ≠ 0 → RW f (165 * i) := by
  intro i hi ht
  by_cases e : i = s
  · have e3 : upd t s v i = v := by show (if i = s then v else t i) = _; rw [if_pos e]
    rw [e3] at ht; exact absurd hv ht
  · have e3 : upd t s v i = t i := by show (if i = s then v else t i) = _; rw [if_neg e]
    rw [e3] at ht; exact h i hi ht
/-- pigeons -/
theorem pig : ∀ (N n : Nat) (f : Nat → Nat), (∀ i, i < n → f i < N) → (∀ i j, i < j → j < n → f i ≠ f j) → n ≤ N := by
  intro N
  induction N with
  | zero => intro n f h1 h2; rcases Nat.eq_zero_or_pos n with h | h
            · omega
            · exact absurd (h1 0 h) (Nat.not_lt_zero _)
  | succ N ih =>
    intro n f h1 h2
    by_cases hx : ∃ i, i < n ∧ f i = N
    · obtain ⟨i0, hi, he⟩ := hx
      have h3 := ih (n - 1) (fun i => if i < i0 then f i else f (i + 1)) (fun i hi2 => by
        show (if i < i0 then f i else f (i + 1)) < N
        by_cases h : i < i0
        · rw [if_pos h]
          have a1 := h1 i (by omega)
          have a2 := h2 i i0 h hi
          omega
        · rw [if_neg h]
          have a1 := h1 (i + 1) (by omega)
          have a2 := h2 i0 (i + 1) (by omega) (by omega)
          omega) (fun i j hij hj => by
        show (if i < i0 then f i else f (i + 1)) ≠ (if j < i0 then f j else f (j + 1))
        by_cases h : i < i0
        · rw [if_pos h]
          by_cases h' : j < i0
          · rw [if_pos h']; exact h2 i j hij (by omega)
          · rw [if_neg h']; exact h2 i (j + 1) (by omega) (by omega)
        · rw [if_neg h, if_neg (by omega)]; exact h2 (i + 1) (j + 1) (by omega) (by omega))
      omega
    · have h3 := ih n f (fun i hi => by
        have a1 := h1 i hi
        have a2 : f i ≠ N := fun e => hx ⟨i, hi, e⟩
        omega) h2
      omega
theorem pg_lt {f : Nat → Int32} {m b : Int32} (hm : 0 ≤ m.toInt ∧ m.toInt ≤ 160) (hf : ∀ j, 0 ≤ (f j).toInt ∧ (f j).toInt ≤ 159) (hD : ∀ i j : Nat, i < j → (j : Int) < m.toInt → (f i).toInt ≠ (f j).toInt) (hb : ∀ j : Nat, (j : Int) < m.toInt → (f j).toInt ≠ b.toInt) (h0 : 0 ≤ b.toInt) (h1 : b.toInt ≤ 159) : m.toInt ≤ 159 := by
  have h2 := pig 160 (m.toInt.toNat + 1) (fun i => if (i : Int) < m.toInt then (f i).toInt.toNat else b.toInt.toNat) (fun i hi => by
    show (if (i : Int) < m.toInt then (f i).toInt.toNat else b.toInt.toNat) < 160
    have := hf i
    by_cases h : (i : Int) < m.toInt
    · rw [if_pos h]; omega
    · rw [if_neg h]; omega) (fun i j hij hj => by
    show (if (i : Int) < m.toInt then (f i).toInt.toNat else b.toInt.toNat) ≠ (if (j : Int) < m.toInt then (f j).toInt.toNat else b.toInt.toNat)
    have a1 := hf i
    have a2 := hf j
    rw [if_pos (by omega)]
    by_cases h : (j : Int) < m.toInt
    · rw [if_pos h]
      have := hD i j hij h
      omega
    · rw [if_neg h]
      have := hb i (by omega)
      omega)
  omega
theorem di_st {f : Nat → Int32} {m m2 b : Int32} (hm : 0 ≤ m.toInt) (h2 : m2.toInt = m.toInt + 1) (hD : ∀ i j : Nat, i < j → (j : Int) < m.toInt → (f i).toInt ≠ (f j).toInt) (hb : ∀ j : Nat, (j : Int) < m.toInt → (f j).toInt ≠ b.toInt) : ∀ i j : Nat, i < j → (j : Int) < m2.toInt → (upd f m.toNatClampNeg b i).toInt ≠ (upd f m.toNatClampNeg b j).toInt := by
  intro i j hij hj
  have hc := cl_int (y := m) hm
  have e1 : upd f m.toNatClampNeg b i = f i := by show (if i = m.toNatClampNeg then b else f i) = _; rw [if_neg (by omega)]
  rw [e1]
  by_cases h : (j : Int) < m.toInt
  · have e2 : upd f m.toNatClampNeg b j = f j := by show (if j = m.toNatClampNeg then b else f j) = _; rw [if_neg (by omega)]
    rw [e2]; exact hD i j hij h
  · have e2 : upd f m.toNatClampNeg b j = b := by show (if j = m.toNatClampNeg then b else f j) = _; rw [if_pos (by omega)]
    rw [e2]; exact hb i (by omega)
def IvM (I : Nat → Int32) (A : Nat → Nat → Int32) : Prop := (0 ≤ (I 1).toInt ∧ (I 1).toInt ≤ 2000) ∧ (0 ≤ (I 2).toInt ∧ (I 2).toInt ≤ 2000) ∧ (0 ≤ (I 3).toInt ∧ (I 3).toInt ≤ 401) ∧ (0 ≤ (I 4).toInt ∧ (I 4).toInt ≤ 400) ∧ (0 ≤ (I 6).toInt ∧ (I 6).toInt ≤ 9) ∧ (0 ≤ (I 8).toInt ∧ (I 8).toInt ≤ 9) ∧ (0 ≤ (I 15).toInt ∧ (I 15).toInt ≤ 1) ∧ (0 ≤ (I 16).toInt ∧ (I 16).toInt ≤ 1) ∧ (0 ≤ (I 17).toInt ∧ (I 17).toInt ≤ 5) ∧ (0 ≤ (I 18).toInt ∧ (I 18).toInt ≤ 16) ∧ (0 ≤ (I 22).toInt ∧ (I 22).toInt ≤ 40) ∧ (0 ≤ (I 23).toInt ∧ (I 23).toInt ≤ 40) ∧ (0 ≤ (I 24).toInt ∧ (I 24).toInt ≤ 160) ∧ (∀ j, 0 ≤ (A 11 j).toInt ∧ (A 11 j).toInt ≤ 16) ∧ (∀ j, 0 ≤ (A 26 j).toInt ∧ (A 26 j).toInt ≤ 159) ∧ (0 ≤ (A 8 0).toInt ∧ (A 8 0).toInt ≤ 160) ∧ (0 ≤ (A 8 1).toInt ∧ (A 8 1).toInt ≤ 160) ∧ (0 ≤ (A 10 0).toInt ∧ (A 10 0).toInt ≤ 5) ∧ (0 ≤ (A 10 1).toInt ∧ (A 10 1).toInt ≤ 5) ∧ (0 ≤ (A 17 0).toInt ∧ (A 17 0).toInt ≤ 160) ∧ (1 ≤ (A 17 164).toInt ∧ (A 17 164).toInt ≤ 2147483647) ∧ (((I 15).toInt = 0 → GHf (A 16 0) (A 10 0) (A 11) 0) ∧ ((I 15).toInt = 1 → GHf (A 16 1) (A 10 1) (A 11) 1)) ∧ ((I 6).toInt ≠ 0 ∨ (I 8).toInt ≠ 0 ∨ (((I 16).toInt = 0 → GHf (A 16 0) (A 10 0) (A 11) 0) ∧ ((I 16).toInt = 1 → GHf (A 16 1) (A 10 1) (A 11) 1))) ∧ (((I 16).toInt = 0 → (I 17).toInt = (A 10 0).toInt) ∧ ((I 16).toInt = 1 → (I 17).toInt = (A 10 1).toInt)) ∧ (∀ j : Nat, (j : Int) < (I 22).toInt → RW (A 22) (165 * j)) ∧ (∀ s : Nat, s < 3 → (A 27 s).toInt ≠ 0 → RW (A 28) (165 * s)) ∧ True
theorem IvM_f1 {I : Nat → Int32} {A : Nat → Nat → Int32} (h : IvM I A) : (0 ≤ (I 1).toInt ∧ (I 1).toInt ≤ 2000) := h.1
theorem IvM_f2 {I : Nat → Int32} {A : Nat → Nat → Int32} (h : IvM I A) : (0 ≤ (I 2).toInt ∧ (I 2).toInt ≤ 2000) := h.2.1
theorem IvM_f3 {I : Nat → Int32} {A : Nat → Nat → Int32} (h : IvM I A) : (0 ≤ (I 3).toInt ∧ (I 3).toInt ≤ 401) := h.2.2.1
theorem IvM_f4 {I : Nat → Int32} {A : Nat → Nat → Int32} (h : IvM I A) : (0 ≤ (I 4).toInt ∧ (I 4).toInt ≤ 400) := h.2.2.2.1
theorem IvM_f6 {I : Nat → Int32} {A : Nat → Nat → Int32} (h : IvM I A) : (0 ≤ (I 6).toInt ∧ (I 6).toInt ≤ 9) := h.2.2.2.2.1
theorem IvM_f8 {I : Nat → Int32} {A : Nat → Nat → Int32} (h : IvM I A) : (0 ≤ (I 8).toInt ∧ (I 8).toInt ≤ 9) := h.2.2.2.2.2.1
theorem IvM_f15 {I : Nat → Int32} {A : Nat → Nat → Int32} (h : IvM I A) : (0 ≤ (I 15).toInt ∧ (I 15).toInt ≤ 1) := h.2.2.2.2.2.2.1
theorem IvM_f16 {I : Nat → Int32} {A : Nat → Nat → Int32} (h : IvM I A) : (0 ≤ (I 16).toInt ∧ (I 16).toInt ≤ 1) := h.2.2.2.2.2.2.2.1
theorem IvM_f17 {I : Nat → Int32} {A : Nat → Nat → Int32} (h : IvM I A) : (0 ≤ (I 17).toInt ∧ (I 17).toInt ≤ 5) := h.2.2.2.2.2.2.2.2.1
theorem IvM_f18 {I : Nat → Int32} {A : Nat → Nat → Int32} (h : IvM I A) : (0 ≤ (I 18).toInt ∧ (I 18).toInt ≤ 16) := h.2.2.2.2.2.2.2.2.2.1
theorem IvM_f22 {I : Nat → Int32} {A : Nat → Nat → Int32} (h : IvM I A) : (0 ≤ (I 22).toInt ∧ (I 22).toInt ≤ 40) := h.2.2.2.2.2.2.2.2.2.2.1
theorem IvM_f23 {I : Nat → Int32} {A : Nat → Nat → Int32} (h : IvM I A) : (0 ≤ (I 23).toInt ∧ (I 23).toInt ≤ 40) := h.2.2.2.2.2.2.2.2.2.2.2.1
theorem IvM_f24 {I : Nat → Int32} {A : Nat → Nat → Int32} (h : IvM I A) : (0 ≤ (I 24).toInt ∧ (I 24).toInt ≤ 160) := h.2.2.2.2.2.2.2.2.2.2.2.2.1
theorem IvM_a11 {I : Nat → Int32} {A : Nat → Nat → Int32} (h : IvM I A) : (∀ j, 0 ≤ (A 11 j).toInt ∧ (A 11 j).toInt ≤ 16) := h.2.2.2.2.2.2.2.2.2.2.2.2.2.1
theorem IvM_a26 {I : Nat → Int32} {A : Nat → Nat → Int32} (h : IvM I A) : (∀ j, 0 ≤ (A 26 j).toInt ∧ (A 26 j).toInt ≤ 159) := h.2.2.2.2.2.2.2.2.2.2.2.2.2.2.1
theorem IvM_s8_0 {I : Nat → Int32} {A : Nat → Nat → Int32} (h : IvM I A) : (0 ≤ (A 8 0).toInt ∧ (A 8 0).toInt ≤ 160) := h.2.2.2.2.2.2.2.2.2.2.2.2.2.2.2.1
theorem IvM_s8_1 {I : Nat → Int32} {A : Nat → Nat → Int32} (h : IvM I A) : (0 ≤ (A 8 1).toInt ∧ (A 8 1).toInt ≤ 160) := h.2.2.2.2.2.2.2.2.2.2.2.2.2.2.2.2.1
theorem IvM_s10_0 {I : Nat → Int32} {A : Nat → Nat → Int32} (h : IvM I A) : (0 ≤ (A 10 0).toInt ∧ (A 10 0).toInt ≤ 5) := h.2.2.2.2.2.2.2.2.2.2.2.2.2.2.2.2.2.1
theorem IvM_s10_1 {I : Nat → Int32} {A : Nat → Nat → Int32} (h : IvM I A) : (0 ≤ (A 10 1).toInt ∧ (A 10 1).toInt ≤ 5) := h.2.2.2.2.2.2.2.2.2.2.2.2.2.2.2.2.2.2.1
theorem IvM_s17_0 {I : Nat → Int32} {A : Nat → Nat → Int32} (h : IvM I A) : (0 ≤ (A 17 0).toInt ∧ (A 17 0).toInt ≤ 160) := h.2.2.2.2.2.2.2.2.2.2.2.2.2.2.2.2.2.2.2.1
theorem IvM_s17_164 {I : Nat → Int32} {A : Nat → Nat → Int32} (h : IvM I A) : (1 ≤ (A 17 164).toInt ∧ (A 17 164).toInt ≤ 2147483647) := h.2.2.2.2.2.2.2.2.2.2.2.2.2.2.2.2.2.2.2.2.1
theorem IvM_lv {I : Nat → Int32} {A : Nat → Nat → Int32} (h : IvM I A) : (((I 15).toInt = 0 → GHf (A 16 0) (A 10 0) (A 11) 0) ∧ ((I 15).toInt = 1 → GHf (A 16 1) (A 10 1) (A 11) 1)) := h.2.2.2.2.2.2.2.2.2.2.2.2.2.2.2.2.2.2.2.2.2.1
theorem IvM_sd {I : Nat → Int32} {A : Nat → Nat → Int32} (h : IvM I A) : ((I 6).toInt ≠ 0 ∨ (I 8).toInt ≠ 0 ∨ (((I 16).toInt = 0 → GHf (A 16 0) (A 10 0) (A 11) 0) ∧ ((I 16).toInt = 1 → GHf (A 16 1) (A 10 1) (A 11) 1))) := h.2.2.2.2.2.2.2.2.2.2.2.2.2.2.2.2.2.2.2.2.2.2.1
theorem IvM_nq {I : Nat → Int32} {A : Nat → Nat → Int32} (h : IvM I A) : (((I 16).toInt = 0 → (I 17).toInt = (A 10 0).toInt) ∧ ((I 16).toInt = 1 → (I 17).toInt = (A 10 1).toInt)) := h.2.2.2.2.2.2.2.2.2.2.2.2.2.2.2.2.2.2.2.2.2.2.2.1
theorem IvM_hr {I : Nat → Int32} {A : Nat → Nat → Int32} (h : IvM I A) : (∀ j : Nat, (j : Int) < (I 22).toInt → RW (A 22) (165 * j)) := h.2.2.2.2.2.2.2.2.2.2.2.2.2.2.2.2.2.2.2.2.2.2.2.2.1
theorem IvM_hh {I : Nat → Int32} {A : Nat → Nat → Int32} (h : IvM I A) : (∀ s : Nat, s < 3 → (A 27 s).toInt ≠ 0 → RW (A 28) (165 * s)) := h.2.2.2.2.2.2.2.2.2.2.2.2.2.2.2.2.2.2.2.2.2.2.2.2.2.1
theorem lv_w {I : Nat → Int32} {A : Nat → Nat → Int32} {z : Int32} (h : IvM I A) (h0 : 0 ≤ z.toInt) (h1 : ((I 15).toInt = 0 ∧ z.toInt < (A 10 0).toInt) ∨ ((I 15).toInt = 1 ∧ z.toInt < (A 10 1).toInt)) : 1 ≤ (A 11 (5 * (I 15) + z).toNatClampNeg).toInt := by
  have hq := cl_int (y := z) h0
  have b0 := IvM_s10_0 h
  have b1 := IvM_s10_1 h
  rcases h1 with ⟨e, hz⟩ | ⟨e, hz⟩
  · have e2 : I 15 = 0 := Int32.toInt_inj.mp e
    have g := ((IvM_lv h).1 e).2 z.toNatClampNeg (by omega)
    have e3 : (5 * I 15 + z).toNatClampNeg = 5 * 0 + z.toNatClampNeg := by
      rw [e2]
      have e4 : ((5 : Int32) * 0 + z).toInt = 0 + z.toInt := i32_add rfl (by decide) rfl (by omega) (by omega)
      have e5 := cl_int (y := (5 : Int32) * 0 + z) (by omega)
      omega
    rw [e3]; exact g
  · have e2 : I 15 = 1 := Int32.toInt_inj.mp e
    have g := ((IvM_lv h).2 e).2 z.toNatClampNeg (by omega)
    have e3 : (5 * I 15 + z).toNatClampNeg = 5 * 1 + z.toNatClampNeg := by
      rw [e2]
      have e4 : ((5 : Int32) * 1 + z).toInt = 5 + z.toInt := i32_add rfl (by decide) rfl (by omega) (by omega)
      have e5 := cl_int (y := (5 : Int32) * 1 + z) (by omega)
      omega
    rw [e3]; exact g
end
section
noncomputable def bM12_lays_3 (z1 : Int32) : (Int32 → (Nat → Int32) → (Nat → Nat → Int32) → (Nat → Nat → Int64) → (Int32 × (Nat → Int32) × (Nat → Nat → Int32) × (Nat → Nat → Int64))) → Int32 → (Nat → Int32) → (Nat → Nat → Int32) → (Nat → Nat → Int64) → (Int32 × (Nat → Int32) × (Nat → Nat → Int32) × (Nat → Nat → Int64)) := fun kk10806 x10774 I10777 A10777 L10777 => if x10774.toInt < 0 then (0, I10777, A10777, L10777) else f_lt (z1 >>> (x10774 &&& 31)) fun y10811 => f_lt (y10811.toInt8.toInt32) fun y10812 => f_lt ((I10777 1) + (1 : Int32)) fun y10813 => f_lt (x10774 + Int32.ofInt (-8)) fun y10814 => kk10806 y10814 (upd I10777 1 y10813) (up3 A10777 0 ((I10777 1).toNatClampNeg) (vp_nar .byte y10812)) L10777
noncomputable def fM12_lays (I : Nat → Int32) (A : Nat → Nat → Int32) (L : Nat → Nat → Int64) (z1 : Int32) : Int32 × (Nat → Int32) × (Nat → Nat → Int32) × (Nat → Nat → Int64) := itr_iIAL dfM (bM12_lays_3 z1) FU 24 I A L
def wo_j114_X12_lays : List Cond := [Cond.fieldLink RX12 13 "WarpDeskModel" "tape" "[B", Cond.fieldLink RX12 124 "WarpDeskModel" "taped" "I"]
def wz_j114_X12_lays : List Cond := .code yX12_lays cX12_lays 3 none :: (wo_j114_X12_lays ++ (wsX120 ++ ([] : List Cond)))
theorem zg_j114_X12_lays : ∀ w ∈ wz_j114_X12_lays, goodWord w = true := zg_cons rfl (zg_app (by decide +kernel) (zg_app zgU_wsX120 zg_nil))
theorem zi_j114_X12_lays : ∀ w ∈ wz_j114_X12_lays, w ∈ lw_tbl := zi_cons zw_1552 (zi_app (zi_cons zw_1380 (zi_cons zw_1381 zi_nil)) (zi_app inX12 zi_nil))
set_option maxHeartbeats 4000000 in
set_option maxRecDepth 100000 in
theorem j114_X12_lays (l : Launch) (D : va_G) (zt : Nat × Nat × Nat × (Nat → Nat) × (Nat → Nat)) (r : Nat → Nat) (g : Nat → ClassId) (I : Nat → Int32) (A : Nat → Nat → Int32) (L : Nat → Nat → Int64) (z1 : Int32) (hIv : IvM I A) (hp0 : (I 1).toInt ≤ 1996) : GM l D zt (tyM g) yX12_lays wz_j114_X12_lays ({ frames := 0, cells := 0, slots := 0, locals := 0 } : Room) [.ref (r 0), .int z1] (wM r g I A L) (fun v _ w' => ∃ (I' : Nat → Int32) (A' : Nat → Nat → Int32) (L' : Nat → Nat → Int64), Md [1] I I' ∧ Md [0] A A' ∧ IvM I' A' ∧ ((I' 1).toInt = (I 1).toInt + 4) ∧ (L' = L) ∧ FE (fM12_lays I A L z1) (0, I', A', L') ∧ v = none ∧ w' = wM r g I' A' L') 0 0 := by
  refine GM.of (cc := cX12_lays) (maxL := 3) (ret := none) (own := RX12) (lv := [(0, .ref (r 0)), (1, .int z1)]) (by decide) rfl rfl (Nat.le_of_ble_eq_true rfl) rfl (fun κ sz hk hR hN => ?_)
  have hin12 : ∀ w ∈ u_ws RX12 TX12 55, w ∈ wz_j114_X12_lays := fun w h => (List.mem_cons_of_mem _ (List.mem_append_right _ (List.mem_append_left _ h)))
  have hF : FE (fM12_lays I A L z1) (fM12_lays I A L z1) := FE.rf
  refine g_bipush (v := 24) hk dX12_lays_0 (by decide) ?_
  refine g_istore_n (lv' := [(2, .int 24), (0, .ref (r 0)), (1, .int z1)]) hk dX12_lays_2 (by decide) rfl ?_
  have lp10803 : ∀ (n10804 : Nat) (x10774 : Int32) (I10777 : Nat → Int32) (A10777 : Nat → Nat → Int32) (L10777 : Nat → Nat → Int64), (Md [1] I I10777) → (Md [0] A A10777) → (IvM I10777 A10777) → (L10777 = L) → ((-8) ≤ x10774.toInt) → (x10774.toInt ≤ 24) → (8 * (I10777 1).toInt - 8 * (I 1).toInt = 24 - x10774.toInt) → (x10774.toInt + 1 - 0 < (n10804 : Int)) → (0 < n10804) → (FE (fM12_lays I A L z1) (itr_iIAL dfM (bM12_lays_3 z1) n10804 x10774 I10777 A10777 L10777)) → GW κ 3 0 0 (wM r g I10777 A10777 L10777) 3 [(2, .int x10774), (0, .ref (r 0)), (1, .int z1)] [] := by
    intro n10804
    induction n10804 with
    | zero =>
      intro x10774 I10777 A10777 L10777 hI10777 hA10777 hV10777 hL10777 h10800 h10801 h10802 m10805 m10805z hF
      exact absurd m10805z (Nat.lt_irrefl 0)
    | succ n10804 ih10807 =>
      intro x10774 I10777 A10777 L10777 hI10777 hA10777 hV10777 hL10777 h10800 h10801 h10802 m10805 m10805z hF
      have f10808 := IvM_f1 hV10777
      replace hF := FE.itr_iIAL hF
      refine g_iload_n hk dX12_lays_3 rfl ?_
      refine g_if_lt (tgt := 36) (a := x10774.toInt) hk dX12_lays_4 (by decide) rfl (fun c10809 => ?_) (fun c10809 => ?_)
      · skip
        replace hF := FE.pos hF c10809
        have f10810 := IvM_f1 hIv
        exact g_vret hk hR ⟨I10777, A10777, L10777, (show Md [1] I I10777 from (Md.tr Md.rf hI10777 rfl)), (show Md [0] A A10777 from (Md.tr Md.rf hA10777 rfl)), hV10777, (show ((I10777 1)).toInt = (I 1).toInt + 4 from by omega), (show L10777 = L from hL10777), hF, rfl, rfl⟩ dX12_lays_36
      · skip
        replace hF := FE.neg hF c10809
        refine g_aload_n hk dX12_lays_7 rfl ?_
        refine gM_r0_1 hk hin12 (List.mem_cons_of_mem _ (List.mem_append_left _ (List.mem_of_getElem? (i := 0) rfl))) dX12_lays_8 ?_
        refine g_aload_n hk dX12_lays_11 rfl ?_
        refine gM_i1 (v := (I10777 1)) hk hin12 (List.mem_cons_of_mem _ (List.mem_append_left _ (List.mem_of_getElem? (i := 1) rfl))) dX12_lays_12 rfl ?_
        refine g_iload_n hk dX12_lays_15 rfl ?_
        refine g_iload_n hk dX12_lays_16 rfl ?_
        refine g_ishr hk dX12_lays_17 ?_
        refine g_topi (fun y10811 ey10811 => ?_)
        replace hF := FE.lt hF ey10811
        refine g_i2b hk dX12_lays_18 rfl ?_
        refine g_topi (fun y10812 ey10812 => ?_)
        replace hF := FE.lt hF ey10812
        refine sM_0 (y := (vp_nar .byte y10812)) (j := (I10777 1).toNatClampNeg) hk (vp_in_iff.mpr ⟨by omega, by omega⟩) rfl rfl dX12_lays_19 ?_
        refine g_aload_n hk dX12_lays_20 rfl ?_
        refine g_dup hk dX12_lays_21 rfl ?_
        refine gM_i1 (v := (I10777 1)) hk hin12 (List.mem_cons_of_mem _ (List.mem_append_left _ (List.mem_of_getElem? (i := 1) rfl))) dX12_lays_22 rfl ?_
        refine g_iconst (v := 1) hk dX12_lays_25 (by decide) ?_
        refine g_iadd hk dX12_lays_26 ?_
        refine g_topi (fun y10813 ey10813 => ?_)
        replace hF := FE.lt hF ey10813
        have hy10813 : y10813.toInt = (I10777 1).toInt + 1 := i32_add ey10813 rfl rfl (by omega) (by omega)
        refine pM_i1 hk hin12 (List.mem_cons_of_mem _ (List.mem_append_left _ (List.mem_of_getElem? (i := 1) rfl))) dX12_lays_27 ?_
        obtain ⟨y10814, ey10814⟩ : ∃ y : Int32, y = x10774 + Int32.ofInt (-8) := ⟨_, rfl⟩
        replace hF := FE.lt hF ey10814
        have hy10814 : y10814.toInt = x10774.toInt + (-8) := i32_add ey10814 rfl (by decide) (by omega) (by omega)
        refine g_iinc (v := y10814) (lv' := [(2, .int y10814), (0, .ref (r 0)), (1, .int z1)]) hk 0 dX12_lays_30 rfl ey10814.symm (by decide) rfl ?_
        refine g_goto (tgt := 3) hk dX12_lays_33 (by decide) ?_
        exact g_lv (List.forall_mem_cons.mpr ⟨List.mem_of_getElem? (i := 0) rfl, (List.forall_mem_cons.mpr ⟨List.mem_of_getElem? (i := 1) rfl, (List.forall_mem_cons.mpr ⟨List.mem_of_getElem? (i := 2) rfl, (fun _ h => absurd h List.not_mem_nil)⟩)⟩)⟩) (ih10807 y10814 (upd I10777 1 y10813) (up3 A10777 0 ((I10777 1).toNatClampNeg) (vp_nar .byte y10812)) L10777 (show Md [1] I (upd I10777 1 y10813) from Md.tr hI10777 (show Md [1] I10777 (upd I10777 1 y10813) from (Md.up Md.rf rfl)) rfl) (show Md [0] A (up3 A10777 0 ((I10777 1).toNatClampNeg) (vp_nar .byte y10812)) from Md.tr hA10777 (show Md [0] A10777 (up3 A10777 0 ((I10777 1).toNatClampNeg) (vp_nar .byte y10812)) from (Md.up3 Md.rf rfl)) rfl) ⟨(show 0 ≤ y10813.toInt ∧ y10813.toInt ≤ 2000 from ⟨by omega, by omega⟩), (IvM_f2 (I := I10777) (A := A10777) hV10777), (IvM_f3 (I := I10777) (A := A10777) hV10777), (IvM_f4 (I := I10777) (A := A10777) hV10777), (IvM_f6 (I := I10777) (A := A10777) hV10777), (IvM_f8 (I := I10777) (A := A10777) hV10777), (IvM_f15 (I := I10777) (A := A10777) hV10777), (IvM_f16 (I := I10777) (A := A10777) hV10777), (IvM_f17 (I := I10777) (A := A10777) hV10777), (IvM_f18 (I := I10777) (A := A10777) hV10777), (IvM_f22 (I := I10777) (A := A10777) hV10777), (IvM_f23 (I := I10777) (A := A10777) hV10777), (IvM_f24 (I := I10777) (A := A10777) hV10777), (IvM_a11 (I := I10777) (A := A10777) hV10777), (IvM_a26 (I := I10777) (A := A10777) hV10777), (IvM_s8_0 (I := I10777) (A := A10777) hV10777), (IvM_s8_1 (I := I10777) (A := A10777) hV10777), (IvM_s10_0 (I := I10777) (A := A10777) hV10777), (IvM_s10_1 (I := I10777) (A := A10777) hV10777), (IvM_s17_0 (I := I10777) (A := A10777) hV10777), (IvM_s17_164 (I := I10777) (A := A10777) hV10777), (IvM_lv (I := I10777) (A := A10777) hV10777), (IvM_sd (I := I10777) (A := A10777) hV10777), (IvM_nq (I := I10777) (A := A10777) hV10777), (IvM_hr (I := I10777) (A := A10777) hV10777), (IvM_hh (I := I10777) (A := A10777) hV10777), trivial⟩ (show L10777 = L from hL10777) (by omega) (by omega) (by first | (rw [show ((upd I10777 1 y10813) 1) = y10813 from rfl] <;> omega) | omega) (by omega) (by omega) hF)
  have k10815 : (24 : Int32).toInt = 24 := rfl
  have b10817 := Int32.le_toInt (24 : Int32)
  have b10818 := Int32.toInt_lt (24 : Int32)
  have n10816a : (24 : Int32).toInt + 1 - 0 < (FU : Int) := by have := FU_eq; omega
  have n10816b : 0 < FU := by have := FU_eq; omega
  have f10819 := IvM_f1 hIv
  exact lp10803 FU 24 I A L Md.rf Md.rf hIv rfl (by omega) (by omega) (by omega) n10816a n10816b hF
noncomputable def fM12_feed (I : Nat → Int32) (A : Nat → Nat → Int32) (L : Nat → Nat → Int64) (z1 : Int32) (z2 : Int32) (z3 : Int32) (z4 : Int32) (z5 : Int32) : Int32 × (Nat → Int32) × (Nat → Nat → Int32) × (Nat → Nat → Int64) := f_lt ((I 1) + (20 : Int32)) fun y10772 => if y10772.toInt ≤ 2000 then f_bdM (fM12_lays I A L z1) fun _ I10821 A10821 L10821 => f_bdM (fM12_lays I10821 A10821 L10821 z2) fun _ I10825 A10825 L10825 => f_bdM (fM12_lays I10825 A10825 L10825 z3) fun _ I10829 A10829 L10829 => f_bdM (fM12_lays I10829 A10829 L10829 z4) fun _ I10833 A10833 L10833 => f_bdM (fM12_lays I10833 A10833 L10833 z5) fun _ I10837 A10837 L10837 => ((I10837 1), I10837, A10837, L10837) else ((-1), I, A, L)
def wo_j113_X12_feed : List Cond := [Cond.fieldLink RX12 124 "WarpDeskModel" "taped" "I", Cond.methodLink RX12 127 yX12_lays, Cond.instanceMethod yX12_lays, Cond.selects RX12 yX12_lays yX12_lays, Cond.initialized RX12]
def wz_j113_X12_feed : List Cond := .code yX12_feed cX12_feed 6 (some .int) :: (wo_j113_X12_feed ++ (wsX120 ++ (wz_j114_X12_lays ++ ([] : List Cond))))
theorem zg_j113_X12_feed : ∀ w ∈ wz_j113_X12_feed, goodWord w = true := zg_cons rfl (zg_app (by decide +kernel) (zg_app zgU_wsX120 (zg_app zg_j114_X12_lays zg_nil)))
theorem zi_j113_X12_feed : ∀ w ∈ wz_j113_X12_feed, w ∈ lw_tbl := zi_cons zw_1548 (zi_app (zi_cons zw_1381 (zi_cons zw_1549 (zi_cons zw_1551 (zi_cons zw_47 (zi_cons zw_115 zi_nil))))) (zi_app inX12 (zi_app zi_j114_X12_lays zi_nil)))
set_option maxHeartbeats 4000000 in
set_option maxRecDepth 100000 in
theorem j113_X12_feed (l : Launch) (D : va_G) (zt : Nat × Nat × Nat × (Nat → Nat) × (Nat → Nat)) (r : Nat → Nat) (g : Nat → ClassId) (I : Nat → Int32) (A : Nat → Nat → Int32) (L : Nat → Nat → Int64) (z1 : Int32) (z2 : Int32) (z3 : Int32) (z4 : Int32) (z5 : Int32) (hIv : IvM I A) : GM l D zt (tyM g) yX12_feed wz_j113_X12_feed ({ frames := 1, cells := 0, slots := 0, locals := 22 } : Room) [.ref (r 0), .int z1, .int z2, .int z3, .int z4, .int z5] (wM r g I A L) (fun v _ w' => ∃ (I' : Nat → Int32) (A' : Nat → Nat → Int32) (L' : Nat → Nat → Int64), Md [1] I I' ∧ Md [0] A A' ∧ IvM I' A' ∧ ∃ y0 : Int32, ((1980 < (I 1).toInt ∧ y0.toInt = -1 ∧ (I' 1).toInt = (I 1).toInt) ∨ ((I 1).toInt ≤ 1980 ∧ y0.toInt = (I 1).toInt + 20 ∧ (I' 1).toInt = (I 1).toInt + 20)) ∧ (L' = L) ∧ ((-1) ≤ y0.toInt) ∧ (y0.toInt ≤ 2000) ∧ FE (fM12_feed I A L z1 z2 z3 z4 z5) (y0, I', A', L') ∧ v = some (.int y0) ∧ w' = wM r g I' A' L') 0 0 := by
  refine GM.of (cc := cX12_feed) (maxL := 6) (ret := (some .int)) (own := RX12) (lv := [(0, .ref (r 0)), (1, .int z1), (2, .int z2), (3, .int z3), (4, .int z4), (5, .int z5)]) (by decide) rfl rfl (Nat.le_of_ble_eq_true rfl) rfl (fun κ sz hk hR hN => ?_)
  have hin12 : ∀ w ∈ u_ws RX12 TX12 55, w ∈ wz_j113_X12_feed := fun w h => (List.mem_cons_of_mem _ (List.mem_append_right _ (List.mem_append_left _ h)))
  have hF : FE (fM12_feed I A L z1 z2 z3 z4 z5) (fM12_feed I A L z1 z2 z3 z4 z5) := FE.rf
  refine g_aload_n hk dX12_feed_0 rfl ?_
  refine gM_i1 (v := (I 1)) hk hin12 (List.mem_cons_of_mem _ (List.mem_append_left _ (List.mem_of_getElem? (i := 0) rfl))) dX12_feed_1 rfl ?_
  have f10771 := IvM_f1 hIv
  refine g_bipush (v := 20) hk dX12_feed_4 (by decide) ?_
  refine g_iadd hk dX12_feed_6 ?_
  refine g_topi (fun y10772 ey10772 => ?_)
  replace hF := FE.lt hF ey10772
  have hy10772 : y10772.toInt = (I 1).toInt + 20 := i32_add ey10772 rfl rfl (by omega) (by omega)
  refine g_sipush (v := 2000) hk dX12_feed_7 (by decide) ?_
  refine g_icmp_le (tgt := 15) (a := y10772.toInt) (b := 2000) hk dX12_feed_10 (by decide) rfl rfl (fun c10773 => ?_) (fun c10773 => ?_)
  · skip
    replace hF := FE.pos hF c10773
    refine g_aload_n hk dX12_feed_15 rfl ?_
    refine g_iload_n hk dX12_feed_16 rfl ?_
    refine g_callV (n := 1) hk (j114_X12_lays l D zt r g I A L z1 hIv (by omega)) (SP.same _) (fun _ h => h) (gi_V (List.mem_cons_of_mem _ (List.mem_append_left _ (List.mem_of_getElem? (i := 1) rfl))) (List.mem_cons_of_mem _ (List.mem_append_left _ (List.mem_of_getElem? (i := 2) rfl))) (List.mem_cons_of_mem _ (List.mem_append_left _ (List.mem_of_getElem? (i := 3) rfl))) (List.mem_cons_of_mem _ (List.mem_append_left _ (List.mem_of_getElem? (i := 4) rfl))) (gi_sub (fun w h => (List.mem_cons_of_mem _ (List.mem_append_right _ (List.mem_append_right _ (List.mem_append_left _ h))))) zg_j114_X12_lays)) rfl rfl rfl (by decide +kernel) ⟨Nat.le_of_ble_eq_true rfl, Nat.le_of_ble_eq_true rfl⟩ 0 rfl rfl rfl rfl (Nat.le_of_ble_eq_true rfl) ⟨Nat.le_of_ble_eq_true rfl, Nat.le_of_ble_eq_true rfl⟩ dX12_feed_17 (fun v ty' w' hp hk' => ?_)
    obtain ⟨I10821, A10821, L10821, hI10821, hA10821, hV10821, r10822, hL10821, hC, rfl, rfl⟩ := hp
    replace hF := FE.bdM hF hC
    have f10823 := IvM_f1 hV10821
    have r10822 : (I10821 1).toInt = (I 1).toInt + 4 := r10822
    show GW κ 6 0 0 (wM r g I10821 A10821 L10821) 20 [(0, .ref (r 0)), (1, .int z1), (2, .int z2), (3, .int z3), (4, .int z4), (5, .int z5)] []
    refine g_aload_n hk dX12_feed_20 rfl ?_
    refine g_iload_n hk dX12_feed_21 rfl ?_
    refine g_callV (n := 1) hk (j114_X12_lays l D zt r g I10821 A10821 L10821 z2 hV10821 (by omega)) (SP.same _) (fun _ h => h) (gi_V (List.mem_cons_of_mem _ (List.mem_append_left _ (List.mem_of_getElem? (i := 1) rfl))) (List.mem_cons_of_mem _ (List.mem_append_left _ (List.mem_of_getElem? (i := 2) rfl))) (List.mem_cons_of_mem _ (List.mem_append_left _ (List.mem_of_getElem? (i := 3) rfl))) (List.mem_cons_of_mem _ (List.mem_append_left _ (List.mem_of_getElem? (i := 4) rfl))) (gi_sub (fun w h => (List.mem_cons_of_mem _ (List.mem_append_right _ (List.mem_append_right _ (List.mem_append_left _ h))))) zg_j114_X12_lays)) rfl rfl rfl (by decide +kernel) ⟨Nat.le_of_ble_eq_true rfl, Nat.le_of_ble_eq_true rfl⟩ 0 rfl rfl rfl rfl (Nat.le_of_ble_eq_true rfl) ⟨Nat.le_of_ble_eq_true rfl, Nat.le_of_ble_eq_true rfl⟩ dX12_feed_22 (fun v ty' w' hp hk' => ?_)
    obtain ⟨I10825, A10825, L10825, hI10825, hA10825, hV10825, r10826, hL10825, hC, rfl, rfl⟩ := hp
    replace hF := FE.bdM hF hC
    have f10827 := IvM_f1 hV10825
    have r10826 : (I10825 1).toInt = (I10821 1).toInt + 4 := r10826
    show GW κ 6 0 0 (wM r g I10825 A10825 L10825) 25 [(0, .ref (r 0)), (1, .int z1), (2, .int z2), (3, .int z3), (4, .int z4), (5, .int z5)] []
    refine g_aload_n hk dX12_feed_25 rfl ?_
    refine g_iload_n hk dX12_feed_26 rfl ?_
    refine g_callV (n := 1) hk (j114_X12_lays l D zt r g I10825 A10825 L10825 z3 hV10825 (by omega)) (SP.same _) (fun _ h => h) (gi_V (List.mem_cons_of_mem _ (List.mem_append_left _ (List.mem_of_getElem? (i := 1) rfl))) (List.mem_cons_of_mem _ (List.mem_append_left _ (List.mem_of_getElem? (i := 2) rfl))) (List.mem_cons_of_mem _ (List.mem_append_left _ (List.mem_of_getElem? (i := 3) rfl))) (List.mem_cons_of_mem _ (List.mem_append_left _ (List.mem_of_getElem? (i := 4) rfl))) (gi_sub (fun w h => (List.mem_cons_of_mem _ (List.mem_append_right _ (List.mem_append_right _ (List.mem_append_left _ h))))) zg_j114_X12_lays)) rfl rfl rfl (by decide +kernel) ⟨Nat.le_of_ble_eq_true rfl, Nat.le_of_ble_eq_true rfl⟩ 0 rfl rfl rfl rfl (Nat.le_of_ble_eq_true rfl) ⟨Nat.le_of_ble_eq_true rfl, Nat.le_of_ble_eq_true rfl⟩ dX12_feed_27 (fun v ty' w' hp hk' => ?_)
    obtain ⟨I10829, A10829, L10829, hI10829, hA10829, hV10829, r10830, hL10829, hC, rfl, rfl⟩ := hp
    replace hF := FE.bdM hF hC
    have f10831 := IvM_f1 hV10829
    have r10830 : (I10829 1).toInt = (I10825 1).toInt + 4 := r10830
    show GW κ 6 0 0 (wM r g I10829 A10829 L10829) 30 [(0, .ref (r 0)), (1, .int z1), (2, .int z2), (3, .int z3), (4, .int z4), (5, .int z5)] []
    refine g_aload_n hk dX12_feed_30 rfl ?_
    refine g_iload hk dX12_feed_31 rfl ?_
    refine g_callV (n := 1) hk (j114_X12_lays l D zt r g I10829 A10829 L10829 z4 hV10829 (by omega)) (SP.same _) (fun _ h => h) (gi_V (List.mem_cons_of_mem _ (List.mem_append_left _ (List.mem_of_getElem? (i := 1) rfl))) (List.mem_cons_of_mem _ (List.mem_append_left _ (List.mem_of_getElem? (i := 2) rfl))) (List.mem_cons_of_mem _ (List.mem_append_left _ (List.mem_of_getElem? (i := 3) rfl))) (List.mem_cons_of_mem _ (List.mem_append_left _ (List.mem_of_getElem? (i := 4) rfl))) (gi_sub (fun w h => (List.mem_cons_of_mem _ (List.mem_append_right _ (List.mem_append_right _ (List.mem_append_left _ h))))) zg_j114_X12_lays)) rfl rfl rfl (by decide +kernel) ⟨Nat.le_of_ble_eq_true rfl, Nat.le_of_ble_eq_true rfl⟩ 0 rfl rfl rfl rfl (Nat.le_of_ble_eq_true rfl) ⟨Nat.le_of_ble_eq_true rfl, Nat.le_of_ble_eq_true rfl⟩ dX12_feed_33 (fun v ty' w' hp hk' => ?_)
    obtain ⟨I10833, A10833, L10833, hI10833, hA10833, hV10833, r10834, hL10833, hC, rfl, rfl⟩ := hp
    replace hF := FE.bdM hF hC
    have f10835 := IvM_f1 hV10833
    have r10834 : (I10833 1).toInt = (I10829 1).toInt + 4 := r10834
    show GW κ 6 0 0 (wM r g I10833 A10833 L10833) 36 [(0, .ref (r 0)), (1, .int z1), (2, .int z2), (3, .int z3), (4, .int z4), (5, .int z5)] []
    refine g_aload_n hk dX12_feed_36 rfl ?_
    refine g_iload hk dX12_feed_37 rfl ?_
    refine g_callV (n := 1) hk (j114_X12_lays l D zt r g I10833 A10833 L10833 z5 hV10833 (by omega)) (SP.same _) (fun _ h => h) (gi_V (List.mem_cons_of_mem _ (List.mem_append_left _ (List.mem_of_getElem? (i := 1) rfl))) (List.mem_cons_of_mem _ (List.mem_append_left _ (List.mem_of_getElem? (i := 2) rfl))) (List.mem_cons_of_mem _ (List.mem_append_left _ (List.mem_of_getElem? (i := 3) rfl))) (List.mem_cons_of_mem _ (List.mem_append_left _ (List.mem_of_getElem? (i := 4) rfl))) (gi_sub (fun w h => (List.mem_cons_of_mem _ (List.mem_append_right _ (List.mem_append_right _ (List.mem_append_left _ h))))) zg_j114_X12_lays)) rfl rfl rfl (by decide +kernel) ⟨Nat.le_of_ble_eq_true rfl, Nat.le_of_ble_eq_true rfl⟩ 0 rfl rfl rfl rfl (Nat.le_of_ble_eq_true rfl) ⟨Nat.le_of_ble_eq_true rfl, Nat.le_of_ble_eq_true rfl⟩ dX12_feed_39 (fun v ty' w' hp hk' => ?_)
    obtain ⟨I10837, A10837, L10837, hI10837, hA10837, hV10837, r10838, hL10837, hC, rfl, rfl⟩ := hp
    replace hF := FE.bdM hF hC
    have f10839 := IvM_f1 hV10837
    have r10838 : (I10837 1).toInt = (I10833 1).toInt + 4 := r10838
    show GW κ 6 0 0 (wM r g I10837 A10837 L10837) 42 [(0, .ref (r 0)), (1, .int z1), (2, .int z2), (3, .int z3), (4, .int z4), (5, .int z5)] []
    refine g_aload_n hk dX12_feed_42 rfl ?_
    refine gM_i1 (v := (I10837 1)) hk hin12 (List.mem_cons_of_mem _ (List.mem_append_left _ (List.mem_of_getElem? (i := 0) rfl))) dX12_feed_43 rfl ?_
    exact g_iret hk hR rfl ⟨I10837, A10837, L10837, (show Md [1] I I10837 from (Md.tr (Md.tr (Md.tr (Md.tr (Md.tr Md.rf hI10821 rfl) hI10825 rfl) hI10829 rfl) hI10833 rfl) hI10837 rfl)), (show Md [0] A A10837 from (Md.tr (Md.tr (Md.tr (Md.tr (Md.tr Md.rf hA10821 rfl) hA10825 rfl) hA10829 rfl) hA10833 rfl) hA10837 rfl)), hV10837, (I10837 1), (show (1980 < (I 1).toInt ∧ (I10837 1).toInt = -1 ∧ ((I10837 1)).toInt = (I 1).toInt) ∨ ((I 1).toInt ≤ 1980 ∧ (I10837 1).toInt = (I 1).toInt + 20 ∧ ((I10837 1)).toInt = (I 1).toInt + 20) from by omega), (show L10837 = L from (hL10837.trans (hL10833.trans (hL10829.trans (hL10825.trans hL10821))))), (by omega), (by omega), hF, rfl, rfl⟩ dX12_feed_46
  · skip
    replace hF := FE.neg hF c10773
    refine g_iconst (v := (-1)) hk dX12_feed_13 (by decide) ?_
    have k10840 : ((-1) : Int32).toInt = (-1) := rfl
    exact g_iret hk hR rfl ⟨I, A, L, (show Md [1] I I from Md.rf), (show Md [0] A A from Md.rf), hIv, (-1), (show (1980 < (I 1).toInt ∧ ((-1) : Int32).toInt = -1 ∧ ((I 1)).toInt = (I 1).toInt) ∨ ((I 1).toInt ≤ 1980 ∧ ((-1) : Int32).toInt = (I 1).toInt + 20 ∧ ((I 1)).toInt = (I 1).toInt + 20) from by omega), (show L = L from rfl), (by decide), (by decide), hF, rfl, rfl⟩ dX12_feed_14
noncomputable def fM12_back (I : Nat → Int32) (A : Nat → Nat → Int32) (L : Nat → Nat → Int64) (z1 : Int32) : Int32 × (Nat → Int32) × (Nat → Nat → Int32) × (Nat → Nat → Int64) := if z1.toInt < 0 then ((-1), I, A, L) else if z1.toInt ≤ (I 1).toInt then f_lt ((I 1) - z1) fun y10847 => (y10847, (upd I 1 y10847), A, L) else ((-1), I, A, L)
def wo_j115_X12_back : List Cond := [Cond.fieldLink RX12 124 "WarpDeskModel" "taped" "I"]
def wz_j115_X12_back : List Cond := .code yX12_back cX12_back 2 (some .int) :: (wo_j115_X12_back ++ (wsX120 ++ ([] : List Cond)))
theorem zg_j115_X12_back : ∀ w ∈ wz_j115_X12_back, goodWord w = true := zg_cons rfl (zg_app (by decide +kernel) (zg_app zgU_wsX120 zg_nil))
theorem zi_j115_X12_back : ∀ w ∈ wz_j115_X12_back, w ∈ lw_tbl := zi_cons zw_1556 (zi_app (zi_cons zw_1381 zi_nil) (zi_app inX12 zi_nil))
set_option maxHeartbeats 4000000 in
set_option maxRecDepth 100000 in
theorem j115_X12_back (l : Launch) (D : va_G) (zt : Nat × Nat × Nat × (Nat → Nat) × (Nat → Nat)) (r : Nat → Nat) (g : Nat → ClassId) (I : Nat → Int32) (A : Nat → Nat → Int32) (L : Nat → Nat → Int64) (z1 : Int32) (hIv : IvM I A) : GM l D zt (tyM g) yX12_back wz_j115_X12_back ({ frames := 0, cells := 0, slots := 0, locals := 0 } : Room) [.ref (r 0), .int z1] (wM r g I A L) (fun v _ w' => ∃ (I' : Nat → Int32) (A' : Nat → Nat → Int32) (L' : Nat → Nat → Int64), Md [1] I I' ∧ Md [] A A' ∧ IvM I' A' ∧ ∃ y0 : Int32, (((z1.toInt < 0 ∨ (I 1).toInt < z1.toInt) ∧ y0.toInt = -1 ∧ (I' 1).toInt = (I 1).toInt) ∨ (0 ≤ z1.toInt ∧ z1.toInt ≤ (I 1).toInt ∧ y0.toInt = (I 1).toInt - z1.toInt ∧ (I' 1).toInt = (I 1).toInt - z1.toInt)) ∧ (L' = L) ∧ ((-2000) ≤ y0.toInt) ∧ (y0.toInt ≤ 2000) ∧ FE (fM12_back I A L z1) (y0, I', A', L') ∧ v = some (.int y0) ∧ w' = wM r g I' A' L') 0 0 := by
  refine GM.of (cc := cX12_back) (maxL := 2) (ret := (some .int)) (own := RX12) (lv := [(0, .ref (r 0)), (1, .int z1)]) (by decide) rfl rfl (Nat.le_of_ble_eq_true rfl) rfl (fun κ sz hk hR hN => ?_)
  have hin12 : ∀ w ∈ u_ws RX12 TX12 55, w ∈ wz_j115_X12_back := fun w h => (List.mem_cons_of_mem _ (List.mem_append_right _ (List.mem_append_left _ h)))
  have hF : FE (fM12_back I A L z1) (fM12_back I A L z1) := FE.rf
  refine g_iload_n hk dX12_back_0 rfl ?_
  have b10841l := Int32.le_toInt z1
  have b10841h := Int32.toInt_lt z1
  refine g_if_lt (tgt := 12) (a := z1.toInt) hk dX12_back_1 (by decide) rfl (fun c10842 => ?_) (fun c10842 => ?_)
  · skip
    replace hF := FE.pos hF c10842
    refine g_iconst (v := (-1)) hk dX12_back_12 (by decide) ?_
    have f10843 := IvM_f1 hIv
    have k10844 : ((-1) : Int32).toInt = (-1) := rfl
    exact g_iret hk hR rfl ⟨I, A, L, (show Md [1] I I from Md.rf), (show Md [] A A from Md.rf), hIv, (-1), (show ((z1.toInt < 0 ∨ (I 1).toInt < z1.toInt) ∧ ((-1) : Int32).toInt = -1 ∧ ((I 1)).toInt = (I 1).toInt) ∨ (0 ≤ z1.toInt ∧ z1.toInt ≤ (I 1).toInt ∧ ((-1) : Int32).toInt = (I 1).toInt - z1.toInt ∧ ((I 1)).toInt = (I 1).toInt - z1.toInt) from by omega), (show L = L from rfl), (by decide), (by decide), hF, rfl, rfl⟩ dX12_back_13
  · skip
    replace hF := FE.neg hF c10842
    refine g_iload_n hk dX12_back_4 rfl ?_
    refine g_aload_n hk dX12_back_5 rfl ?_
    refine gM_i1 (v := (I 1)) hk hin12 (List.mem_cons_of_mem _ (List.mem_append_left _ (List.mem_of_getElem? (i := 0) rfl))) dX12_back_6 rfl ?_
    have f10845 := IvM_f1 hIv
    refine g_icmp_le (tgt := 14) (a := z1.toInt) (b := (I 1).toInt) hk dX12_back_9 (by decide) rfl rfl (fun c10846 => ?_) (fun c10846 => ?_)
    · skip
      replace hF := FE.pos hF c10846
      refine g_aload_n hk dX12_back_14 rfl ?_
      refine g_dup hk dX12_back_15 rfl ?_
      refine gM_i1 (v := (I 1)) hk hin12 (List.mem_cons_of_mem _ (List.mem_append_left _ (List.mem_of_getElem? (i := 0) rfl))) dX12_back_16 rfl ?_
      refine g_iload_n hk dX12_back_19 rfl ?_
      refine g_isub hk dX12_back_20 ?_
      refine g_topi (fun y10847 ey10847 => ?_)
      replace hF := FE.lt hF ey10847
      have hy10847 : y10847.toInt = (I 1).toInt - z1.toInt := i32_sub ey10847 rfl rfl (by omega) (by omega)
      refine pM_i1 hk hin12 (List.mem_cons_of_mem _ (List.mem_append_left _ (List.mem_of_getElem? (i := 0) rfl))) dX12_back_21 ?_
      refine g_aload_n hk dX12_back_24 rfl ?_
      refine gM_i1 (v := y10847) hk hin12 (List.mem_cons_of_mem _ (List.mem_append_left _ (List.mem_of_getElem? (i := 0) rfl))) dX12_back_25 rfl ?_
      exact g_iret hk hR rfl ⟨(upd I 1 y10847), A, L, (show Md [1] I (upd I 1 y10847) from (Md.up Md.rf rfl)), (show Md [] A A from Md.rf), ⟨(show 0 ≤ y10847.toInt ∧ y10847.toInt ≤ 2000 from ⟨by omega, by omega⟩), (IvM_f2 (I := I) (A := A) hIv), (IvM_f3 (I := I) (A := A) hIv), (IvM_f4 (I := I) (A := A) hIv), (IvM_f6 (I := I) (A := A) hIv), (IvM_f8 (I := I) (A := A) hIv), (IvM_f15 (I := I) (A := A) hIv), (IvM_f16 (I := I) (A := A) hIv), (IvM_f17 (I := I) (A := A) hIv), (IvM_f18 (I := I) (A := A) hIv), (IvM_f22 (I := I) (A := A) hIv), (IvM_f23 (I := I) (A := A) hIv), (IvM_f24 (I := I) (A := A) hIv), (IvM_a11 (I := I) (A := A) hIv), (IvM_a26 (I := I) (A := A) hIv), (IvM_s8_0 (I := I) (A := A) hIv), (IvM_s8_1 (I := I) (A := A) hIv), (IvM_s10_0 (I := I) (A := A) hIv), (IvM_s10_1 (I := I) (A := A) hIv), (IvM_s17_0 (I := I) (A := A) hIv), (IvM_s17_164 (I := I) (A := A) hIv), (IvM_lv (I := I) (A := A) hIv), (IvM_sd (I := I) (A := A) hIv), (IvM_nq (I := I) (A := A) hIv), (IvM_hr (I := I) (A := A) hIv), (IvM_hh (I := I) (A := A) hIv), trivial⟩, y10847, (show ((z1.toInt < 0 ∨ (I 1).toInt < z1.toInt) ∧ y10847.toInt = -1 ∧ (y10847).toInt = (I 1).toInt) ∨ (0 ≤ z1.toInt ∧ z1.toInt ≤ (I 1).toInt ∧ y10847.toInt = (I 1).toInt - z1.toInt ∧ (y10847).toInt = (I 1).toInt - z1.toInt) from by omega), (show L = L from rfl), (by omega), (by omega), hF, rfl, rfl⟩ dX12_back_28
    · skip
      replace hF := FE.neg hF c10846
      refine g_iconst (v := (-1)) hk dX12_back_12 (by decide) ?_
      have k10848 : ((-1) : Int32).toInt = (-1) := rfl
      exact g_iret hk hR rfl ⟨I, A, L, (show Md [1] I I from Md.rf), (show Md [] A A from Md.rf), hIv, (-1), (show ((z1.toInt < 0 ∨ (I 1).toInt < z1.toInt) ∧ ((-1) : Int32).toInt = -1 ∧ ((I 1)).toInt = (I 1).toInt) ∨ (0 ≤ z1.toInt ∧ z1.toInt ≤ (I 1).toInt ∧ ((-1) : Int32).toInt = (I 1).toInt - z1.toInt ∧ ((I 1)).toInt = (I 1).toInt - z1.toInt) from by omega), (show L = L from rfl), (by decide), (by decide), hF, rfl, rfl⟩ dX12_back_13
noncomputable def fM12_byteAt (I : Nat → Int32) (A : Nat → Nat → Int32) (L : Nat → Nat → Int64) (z1 : Int32) : Int32 × Nat := if (I 2).toInt ≤ z1.toInt then (0, 0) else f_lt ((A 1 z1.toNatClampNeg) &&& (255 : Int32)) fun y10861 => (y10861, 1)
def wo_j118_X12_byteAt : List Cond := [Cond.fieldLink RX12 130 "WarpDeskModel" "size" "I", Cond.fieldLink RX12 17 "WarpDeskModel" "text" "[B"]
def wz_j118_X12_byteAt : List Cond := .code yX12_byteAt cX12_byteAt 2 (some .int) :: (wo_j118_X12_byteAt ++ (wsX120 ++ ([] : List Cond)))
theorem zg_j118_X12_byteAt : ∀ w ∈ wz_j118_X12_byteAt, goodWord w = true := zg_cons rfl (zg_app (by decide +kernel) (zg_app zgU_wsX120 zg_nil))
theorem zi_j118_X12_byteAt : ∀ w ∈ wz_j118_X12_byteAt, w ∈ lw_tbl := zi_cons zw_1568 (zi_app (zi_cons zw_1383 (zi_cons zw_1382 zi_nil)) (zi_app inX12 zi_nil))
set_option maxHeartbeats 4000000 in
set_option maxRecDepth 100000 in
theorem j118_X12_byteAt (l : Launch) (D : va_G) (zt : Nat × Nat × Nat × (Nat → Nat) × (Nat → Nat)) (r : Nat → Nat) (g : Nat → ClassId) (I : Nat → Int32) (A : Nat → Nat → Int32) (L : Nat → Nat → Int64) (z1 : Int32) (hIv : IvM I A) (hp0 : 0 ≤ z1.toInt) : GM l D zt (tyM g) yX12_byteAt wz_j118_X12_byteAt ({ frames := 0, cells := 0, slots := 0, locals := 0 } : Room) [.ref (r 0), .int z1] (wM r g I A L) (fun v _ w' => (FE (fM12_byteAt I A L z1) (0, 0) ∧ v = some (.int 0) ∧ w' = wM r g I A L) ∨ (∃ y0 : Int32, (z1.toInt ≤ 1999) ∧ (0 ≤ y0.toInt) ∧ (y0.toInt ≤ 255) ∧ FE (fM12_byteAt I A L z1) (y0, 1) ∧ v = some (.int y0) ∧ w' = wM r g I A L)) 0 0 := by
  refine GM.of (cc := cX12_byteAt) (maxL := 2) (ret := (some .int)) (own := RX12) (lv := [(0, .ref (r 0)), (1, .int z1)]) (by decide) rfl rfl (Nat.le_of_ble_eq_true rfl) rfl (fun κ sz hk hR hN => ?_)
  have hin12 : ∀ w ∈ u_ws RX12 TX12 55, w ∈ wz_j118_X12_byteAt := fun w h => (List.mem_cons_of_mem _ (List.mem_append_right _ (List.mem_append_left _ h)))
  have hF : FE (fM12_byteAt I A L z1) (fM12_byteAt I A L z1) := FE.rf
  refine g_iload_n hk dX12_byteAt_0 rfl ?_
  refine g_aload_n hk dX12_byteAt_1 rfl ?_
  refine gM_i2 (v := (I 2)) hk hin12 (List.mem_cons_of_mem _ (List.mem_append_left _ (List.mem_of_getElem? (i := 0) rfl))) dX12_byteAt_2 rfl ?_
  have f10857 := IvM_f2 hIv
  have b10858l := Int32.le_toInt z1
  have b10858h := Int32.toInt_lt z1
  refine g_icmp_ge (tgt := 21) (a := z1.toInt) (b := (I 2).toInt) hk dX12_byteAt_5 (by decide) rfl rfl (fun c10859 => ?_) (fun c10859 => ?_)
  · skip
    replace hF := FE.pos hF c10859
    refine g_iconst (v := 0) hk dX12_byteAt_21 (by decide) ?_
    exact g_iret hk hR rfl (Or.inl ⟨hF, rfl, rfl⟩) dX12_byteAt_22
  · skip
    replace hF := FE.neg hF c10859
    refine g_aload_n hk dX12_byteAt_8 rfl ?_
    refine gM_r0_3 hk hin12 (List.mem_cons_of_mem _ (List.mem_append_left _ (List.mem_of_getElem? (i := 1) rfl))) dX12_byteAt_9 ?_
    refine g_iload_n hk dX12_byteAt_12 rfl ?_
    refine lM_1 (v := (A 1 z1.toNatClampNeg)) hk (vp_in_iff.mpr ⟨by omega, by omega⟩) rfl dX12_byteAt_13 ?_
    refine g_sipush (v := 255) hk dX12_byteAt_14 (by decide) ?_
    have b10860l := Int32.le_toInt (A 1 z1.toNatClampNeg)
    have b10860h := Int32.toInt_lt (A 1 z1.toNatClampNeg)
    refine g_iand hk dX12_byteAt_17 ?_
    refine g_topi (fun y10861 ey10861 => ?_)
    replace hF := FE.lt hF ey10861
    have hy10861 : 0 ≤ y10861.toInt ∧ y10861.toInt ≤ 255 := i32_mask 8 ey10861 (by decide) (by decide)
    refine g_goto (tgt := 22) hk dX12_byteAt_18 (by decide) ?_
    exact g_iret hk hR rfl (Or.inr (⟨y10861, (by omega), (by omega), (by omega), hF, rfl, rfl⟩)) dX12_byteAt_22
noncomputable def fM12_isLetter (I : Nat → Int32) (A : Nat → Nat → Int32) (L : Nat → Nat → Int64) (z0 : Int32) : Int32 := if z0.toInt < 97 then 0 else if 122 < z0.toInt then 0 else 1
def wz_j119_X12_isLetter : List Cond := .code yX12_isLetter cX12_isLetter 1 (some .boolean) :: (wo_k126_X10_isLetter ++ ([] : List Cond))
theorem zg_j119_X12_isLetter : ∀ w ∈ wz_j119_X12_isLetter, goodWord w = true := zg_cons rfl (zg_app (by decide +kernel) zg_nil)
theorem zi_j119_X12_isLetter : ∀ w ∈ wz_j119_X12_isLetter, w ∈ lw_tbl := zi_cons zw_1575 (zi_app zi_nil zi_nil)
set_option maxHeartbeats 4000000 in
set_option maxRecDepth 100000 in
theorem j119_X12_isLetter (l : Launch) (D : va_G) (zt : Nat × Nat × Nat × (Nat → Nat) × (Nat → Nat)) (r : Nat → Nat) (g : Nat → ClassId) (I : Nat → Int32) (A : Nat → Nat → Int32) (L : Nat → Nat → Int64) (z0 : Int32) (hIv : IvM I A) : GM l D zt (tyM g) yX12_isLetter wz_j119_X12_isLetter ({ frames := 0, cells := 0, slots := 0, locals := 0 } : Room) [.int z0] (wM r g I A L) (fun v _ w' => (FE (fM12_isLetter I A L z0) (0) ∧ v = some (.int 0) ∧ w' = wM r g I A L) ∨ ((¬ (z0.toInt < 97)) ∧ (¬ (122 < z0.toInt)) ∧ (97 ≤ z0.toInt) ∧ (z0.toInt ≤ 122) ∧ FE (fM12_isLetter I A L z0) (1) ∧ v = some (.int 1) ∧ w' = wM r g I A L)) 0 0 := by
  refine GM.of (cc := cX12_isLetter) (maxL := 1) (ret := (some .boolean)) (own := RX12) (lv := [(0, .int z0)]) (by decide) rfl rfl (Nat.le_of_ble_eq_true rfl) rfl (fun κ sz hk hR hN => ?_)
  have hF : FE (fM12_isLetter I A L z0) (fM12_isLetter I A L z0) := FE.rf
  refine g_iload_n hk dX12_isLetter_0 rfl ?_
  refine g_bipush (v := 97) hk dX12_isLetter_1 (by decide) ?_
  have b10869l := Int32.le_toInt z0
  have b10869h := Int32.toInt_lt z0
  refine g_icmp_lt (tgt := 16) (a := z0.toInt) (b := 97) hk dX12_isLetter_3 (by decide) rfl rfl (fun c10870 => ?_) (fun c10870 => ?_)
  · skip
    replace hF := FE.pos hF c10870
    refine g_iconst (v := 0) hk dX12_isLetter_16 (by decide) ?_
    exact g_iret hk hR rfl (Or.inl ⟨hF, rfl, rfl⟩) dX12_isLetter_17
  · skip
    replace hF := FE.neg hF c10870
    refine g_iload_n hk dX12_isLetter_6 rfl ?_
    refine g_bipush (v := 122) hk dX12_isLetter_7 (by decide) ?_
    refine g_icmp_gt (tgt := 16) (a := z0.toInt) (b := 122) hk dX12_isLetter_9 (by decide) rfl rfl (fun c10871 => ?_) (fun c10871 => ?_)
    · skip
      replace hF := FE.pos hF c10871
      refine g_iconst (v := 0) hk dX12_isLetter_16 (by decide) ?_
      exact g_iret hk hR rfl (Or.inl ⟨hF, rfl, rfl⟩) dX12_isLetter_17
    · skip
      replace hF := FE.neg hF c10871
      refine g_iconst (v := 1) hk dX12_isLetter_12 (by decide) ?_
      refine g_goto (tgt := 17) hk dX12_isLetter_13 (by decide) ?_
      exact g_iret hk hR rfl (Or.inr (⟨c10870, c10871, (by omega), (by omega), hF, rfl, rfl⟩)) dX12_isLetter_17
noncomputable def fM12_isDigit (I : Nat → Int32) (A : Nat → Nat → Int32) (L : Nat → Nat → Int64) (z0 : Int32) : Int32 := if z0.toInt < 48 then 0 else if 57 < z0.toInt then 0 else 1
def wz_j120_X12_isDigit : List Cond := .code yX12_isDigit cX12_isDigit 1 (some .boolean) :: (wo_k126_X10_isLetter ++ ([] : List Cond))
theorem zg_j120_X12_isDigit : ∀ w ∈ wz_j120_X12_isDigit, goodWord w = true := zg_cons rfl (zg_app (by decide +kernel) zg_nil)
theorem zi_j120_X12_isDigit : ∀ w ∈ wz_j120_X12_isDigit, w ∈ lw_tbl := zi_cons zw_1578 (zi_app zi_nil zi_nil)
set_option maxHeartbeats 4000000 in
set_option maxRecDepth 100000 in
theorem j120_X12_isDigit (l : Launch) (D : va_G) (zt : Nat × Nat × Nat × (Nat → Nat) × (Nat → Nat)) (r : Nat → Nat) (g : Nat → ClassId) (I : Nat → Int32) (A : Nat → Nat → Int32) (L : Nat → Nat → Int64) (z0 : Int32) (hIv : IvM I A) : GM l D zt (tyM g) yX12_isDigit wz_j120_X12_isDigit ({ frames := 0, cells := 0, slots := 0, locals := 0 } : Room) [.int z0] (wM r g I A L) (fun v _ w' => (FE (fM12_isDigit I A L z0) (0) ∧ v = some (.int 0) ∧ w' = wM r g I A L) ∨ ((¬ (z0.toInt < 48)) ∧ (¬ (57 < z0.toInt)) ∧ (48 ≤ z0.toInt) ∧ (z0.toInt ≤ 57) ∧ FE (fM12_isDigit I A L z0) (1) ∧ v = some (.int 1) ∧ w' = wM r g I A L)) 0 0 := by
  refine GM.of (cc := cX12_isDigit) (maxL := 1) (ret := (some .boolean)) (own := RX12) (lv := [(0, .int z0)]) (by decide) rfl rfl (Nat.le_of_ble_eq_true rfl) rfl (fun κ sz hk hR hN => ?_)
  have hF : FE (fM12_isDigit I A L z0) (fM12_isDigit I A L z0) := FE.rf
  refine g_iload_n hk dX12_isDigit_0 rfl ?_
  refine g_bipush (v := 48) hk dX12_isDigit_1 (by decide) ?_
  have b10879l := Int32.le_toInt z0
  have b10879h := Int32.toInt_lt z0
  refine g_icmp_lt (tgt := 16) (a := z0.toInt) (b := 48) hk dX12_isDigit_3 (by decide) rfl rfl (fun c10880 => ?_) (fun c10880 => ?_)
  · skip
    replace hF := FE.pos hF c10880
    refine g_iconst (v := 0) hk dX12_isDigit_16 (by decide) ?_
    exact g_iret hk hR rfl (Or.inl ⟨hF, rfl, rfl⟩) dX12_isDigit_17
  · skip
    replace hF := FE.neg hF c10880
    refine g_iload_n hk dX12_isDigit_6 rfl ?_
    refine g_bipush (v := 57) hk dX12_isDigit_7 (by decide) ?_
    refine g_icmp_gt (tgt := 16) (a := z0.toInt) (b := 57) hk dX12_isDigit_9 (by decide) rfl rfl (fun c10881 => ?_) (fun c10881 => ?_)
    · skip
      replace hF := FE.pos hF c10881
      refine g_iconst (v := 0) hk dX12_isDigit_16 (by decide) ?_
      exact g_iret hk hR rfl (Or.inl ⟨hF, rfl, rfl⟩) dX12_isDigit_17
    · skip
      replace hF := FE.neg hF c10881
      refine g_iconst (v := 1) hk dX12_isDigit_12 (by decide) ?_
      refine g_goto (tgt := 17) hk dX12_isDigit_13 (by decide) ?_
      exact g_iret hk hR rfl (Or.inr (⟨c10880, c10881, (by omega), (by omega), hF, rfl, rfl⟩)) dX12_isDigit_17
noncomputable def fM12_token (I : Nat → Int32) (A : Nat → Nat → Int32) (L : Nat → Nat → Int64) (z1 : Int32) (z2 : Int32) (z3 : Int32) (z4 : Int64) : Int32 × (Nat → Int32) × (Nat → Nat → Int32) × (Nat → Nat → Int64) := f_lt ((I 3) + (1 : Int32)) fun y10898 => (0, (upd I 3 y10898), (up3 (up3 (up3 A 2 ((I 3).toNatClampNeg) z1) 3 ((I 3).toNatClampNeg) z2) 4 ((I 3).toNatClampNeg) z3), (up3L L 5 ((I 3).toNatClampNeg) z4))
def wo_j122_X12_token : List Cond := [Cond.fieldLink RX12 20 "WarpDeskModel" "tKind" "[I", Cond.fieldLink RX12 139 "WarpDeskModel" "tokens" "I", Cond.fieldLink RX12 24 "WarpDeskModel" "tPlace" "[I", Cond.fieldLink RX12 27 "WarpDeskModel" "tValue" "[I", Cond.fieldLink RX12 30 "WarpDeskModel" "tName" "[J"]
def wz_j122_X12_token : List Cond := .code yX12_token cX12_token 6 none :: (wo_j122_X12_token ++ (wsX120 ++ ([] : List Cond)))
theorem zg_j122_X12_token : ∀ w ∈ wz_j122_X12_token, goodWord w = true := zg_cons rfl (zg_app (by decide +kernel) (zg_app zgU_wsX120 zg_nil))
theorem zi_j122_X12_token : ∀ w ∈ wz_j122_X12_token, w ∈ lw_tbl := zi_cons zw_1572 (zi_app (zi_cons zw_1384 (zi_cons zw_1389 (zi_cons zw_1385 (zi_cons zw_1386 (zi_cons zw_1387 zi_nil))))) (zi_app inX12 zi_nil))
set_option maxHeartbeats 4000000 in
set_option maxRecDepth 100000 in
theorem j122_X12_token (l : Launch) (D : va_G) (zt : Nat × Nat × Nat × (Nat → Nat) × (Nat → Nat)) (r : Nat → Nat) (g : Nat → ClassId) (I : Nat → Int32) (A : Nat → Nat → Int32) (L : Nat → Nat → Int64) (z1 : Int32) (z2 : Int32) (z3 : Int32) (z4 : Int64) (hIv : IvM I A) (hp0 : (I 3).toInt ≤ 400) : GM l D zt (tyM g) yX12_token wz_j122_X12_token ({ frames := 0, cells := 0, slots := 0, locals := 0 } : Room) [.ref (r 0), .int z1, .int z2, .int z3, .long z4] (wM r g I A L) (fun v _ w' => ∃ (I' : Nat → Int32) (A' : Nat → Nat → Int32) (L' : Nat → Nat → Int64), Md [3] I I' ∧ Md [2, 3, 4] A A' ∧ IvM I' A' ∧ ((I' 3).toInt = (I 3).toInt + 1) ∧ FE (fM12_token I A L z1 z2 z3 z4) (0, I', A', L') ∧ v = none ∧ w' = wM r g I' A' L') 0 0 := by
  refine GM.of (cc := cX12_token) (maxL := 6) (ret := none) (own := RX12) (lv := [(0, .ref (r 0)), (1, .int z1), (2, .int z2), (3, .int z3), (4, .long z4)]) (by decide) rfl rfl (Nat.le_of_ble_eq_true rfl) rfl (fun κ sz hk hR hN => ?_)
  have hin12 : ∀ w ∈ u_ws RX12 TX12 55, w ∈ wz_j122_X12_token := fun w h => (List.mem_cons_of_mem _ (List.mem_append_right _ (List.mem_append_left _ h)))
  have hF : FE (fM12_token I A L z1 z2 z3 z4) (fM12_token I A L z1 z2 z3 z4) := FE.rf
  refine g_aload_n hk dX12_token_0 rfl ?_
  refine gM_r0_5 hk hin12 (List.mem_cons_of_mem _ (List.mem_append_left _ (List.mem_of_getElem? (i := 0) rfl))) dX12_token_1 ?_
  refine g_aload_n hk dX12_token_4 rfl ?_
  refine gM_i3 (v := (I 3)) hk hin12 (List.mem_cons_of_mem _ (List.mem_append_left _ (List.mem_of_getElem? (i := 1) rfl))) dX12_token_5 rfl ?_
  have f10897 := IvM_f3 hIv
  refine g_iload_n hk dX12_token_8 rfl ?_
  refine sM_2 (j := (I 3).toNatClampNeg) hk (vp_in_iff.mpr ⟨by omega, by omega⟩) rfl dX12_token_9 ?_
  refine g_aload_n hk dX12_token_10 rfl ?_
  refine gM_r0_6 hk hin12 (List.mem_cons_of_mem _ (List.mem_append_left _ (List.mem_of_getElem? (i := 2) rfl))) dX12_token_11 ?_
  refine g_aload_n hk dX12_token_14 rfl ?_
  refine gM_i3 (v := (I 3)) hk hin12 (List.mem_cons_of_mem _ (List.mem_append_left _ (List.mem_of_getElem? (i := 1) rfl))) dX12_token_15 rfl ?_
  refine g_iload_n hk dX12_token_18 rfl ?_
  refine sM_3 (j := (I 3).toNatClampNeg) hk (vp_in_iff.mpr ⟨by omega, by omega⟩) rfl dX12_token_19 ?_
  refine g_aload_n hk dX12_token_20 rfl ?_
  refine gM_r0_7 hk hin12 (List.mem_cons_of_mem _ (List.mem_append_left _ (List.mem_of_getElem? (i := 3) rfl))) dX12_token_21 ?_
  refine g_aload_n hk dX12_token_24 rfl ?_
  refine gM_i3 (v := (I 3)) hk hin12 (List.mem_cons_of_mem _ (List.mem_append_left _ (List.mem_of_getElem? (i := 1) rfl))) dX12_token_25 rfl ?_
  refine g_iload_n hk dX12_token_28 rfl ?_
  refine sM_4 (j := (I 3).toNatClampNeg) hk (vp_in_iff.mpr ⟨by omega, by omega⟩) rfl dX12_token_29 ?_
  refine g_aload_n hk dX12_token_30 rfl ?_
  refine gM_r0_8 hk hin12 (List.mem_cons_of_mem _ (List.mem_append_left _ (List.mem_of_getElem? (i := 4) rfl))) dX12_token_31 ?_
  refine g_aload_n hk dX12_token_34 rfl ?_
  refine gM_i3 (v := (I 3)) hk hin12 (List.mem_cons_of_mem _ (List.mem_append_left _ (List.mem_of_getElem? (i := 1) rfl))) dX12_token_35 rfl ?_
  refine g_lload hk dX12_token_38 rfl ?_
  refine sM_5 (j := (I 3).toNatClampNeg) hk (vp_in_iff.mpr ⟨by omega, by omega⟩) rfl dX12_token_40 ?_
  refine g_aload_n hk dX12_token_41 rfl ?_
  refine g_dup hk dX12_token_42 rfl ?_
  refine gM_i3 (v := (I 3)) hk hin12 (List.mem_cons_of_mem _ (List.mem_append_left _ (List.mem_of_getElem? (i := 1) rfl))) dX12_token_43 rfl ?_
  refine g_iconst (v := 1) hk dX12_token_46 (by decide) ?_
  refine g_iadd hk dX12_token_47 ?_
  refine g_topi (fun y10898 ey10898 => ?_)
  replace hF := FE.lt hF ey10898
  have hy10898 : y10898.toInt = (I 3).toInt + 1 := i32_add ey10898 rfl rfl (by omega) (by omega)
  refine pM_i3 hk hin12 (List.mem_cons_of_mem _ (List.mem_append_left _ (List.mem_of_getElem? (i := 1) rfl))) dX12_token_48 ?_
  exact g_vret hk hR ⟨(upd I 3 y10898), (up3 (up3 (up3 A 2 ((I 3).toNatClampNeg) z1) 3 ((I 3).toNatClampNeg) z2) 4 ((I 3).toNatClampNeg) z3), (up3L L 5 ((I 3).toNatClampNeg) z4), (show Md [3] I (upd I 3 y10898) from (Md.up Md.rf rfl)), (show Md [2, 3, 4] A (up3 (up3 (up3 A 2 ((I 3).toNatClampNeg) z1) 3 ((I 3).toNatClampNeg) z2) 4 ((I 3).toNatClampNeg) z3) from (Md.up3 (Md.up3 (Md.up3 Md.rf rfl) rfl) rfl)), ⟨(IvM_f1 (I := I) (A := A) hIv), (IvM_f2 (I := I) (A := A) hIv), (show 0 ≤ y10898.toInt ∧ y10898.toInt ≤ 401 from ⟨by omega, by omega⟩), (IvM_f4 (I := I) (A := A) hIv), (IvM_f6 (I := I) (A := A) hIv), (IvM_f8 (I := I) (A := A) hIv), (IvM_f15 (I := I) (A := A) hIv), (IvM_f16 (I := I) (A := A) hIv), (IvM_f17 (I := I) (A := A) hIv), (IvM_f18 (I := I) (A := A) hIv), (IvM_f22 (I := I) (A := A) hIv), (IvM_f23 (I := I) (A := A) hIv), (IvM_f24 (I := I) (A := A) hIv), (IvM_a11 (I := I) (A := A) hIv), (IvM_a26 (I := I) (A := A) hIv), (IvM_s8_0 (I := I) (A := A) hIv), (IvM_s8_1 (I := I) (A := A) hIv), (IvM_s10_0 (I := I) (A := A) hIv), (IvM_s10_1 (I := I) (A := A) hIv), (IvM_s17_0 (I := I) (A := A) hIv), (IvM_s17_164 (I := I) (A := A) hIv), (IvM_lv (I := I) (A := A) hIv), (IvM_sd (I := I) (A := A) hIv), (IvM_nq (I := I) (A := A) hIv), (IvM_hr (I := I) (A := A) hIv), (IvM_hh (I := I) (A := A) hIv), trivial⟩, (by rw [show ((upd I 3 y10898) 3) = y10898 from rfl] <;> omega), hF, rfl, rfl⟩ dX12_token_51
noncomputable def fM12_sign (I : Nat → Int32) (A : Nat → Nat → Int32) (L : Nat → Nat → Int64) (z1 : Int32) (z2 : Int32) (z3 : Int32) : Int32 × (Nat → Int32) × (Nat → Nat → Int32) × (Nat → Nat → Int64) := if z2.toInt ≠ 59 then if z2.toInt ≠ 45 then f_bdM (fM12_token I A L 3 z1 0 0) fun _ I10903 A10903 L10903 => (1, I10903, A10903, L10903) else f_bdM (fM12_token I A L 9 z1 0 0) fun _ I10910 A10910 L10910 => (1, I10910, A10910, L10910) else f_bdM (fM12_token I A L 4 z1 0 0) fun _ I10917 A10917 L10917 => (1, I10917, A10917, L10917)
def wo_j121_X12_sign : List Cond := [Cond.methodLink RX12 146 yX12_token, Cond.instanceMethod yX12_token, Cond.selects RX12 yX12_token yX12_token, Cond.initialized RX12]
def wz_j121_X12_sign : List Cond := .code yX12_sign cX12_sign 4 (some .int) :: (wo_j121_X12_sign ++ (wz_j122_X12_token ++ ([] : List Cond)))
theorem zg_j121_X12_sign : ∀ w ∈ wz_j121_X12_sign, goodWord w = true := zg_cons rfl (zg_app (by decide +kernel) (zg_app zg_j122_X12_token zg_nil))
theorem zi_j121_X12_sign : ∀ w ∈ wz_j121_X12_sign, w ∈ lw_tbl := zi_cons zw_1582 (zi_app (zi_cons zw_1569 (zi_cons zw_1571 (zi_cons zw_50 (zi_cons zw_115 zi_nil)))) (zi_app zi_j122_X12_token zi_nil))
set_option maxHeartbeats 4000000 in
set_option maxRecDepth 100000 in
theorem j121_X12_sign (l : Launch) (D : va_G) (zt : Nat × Nat × Nat × (Nat → Nat) × (Nat → Nat)) (r : Nat → Nat) (g : Nat → ClassId) (I : Nat → Int32) (A : Nat → Nat → Int32) (L : Nat → Nat → Int64) (z1 : Int32) (z2 : Int32) (z3 : Int32) (hIv : IvM I A) (hp0 : 0 ≤ z1.toInt) (hp1 : z1.toInt ≤ 2000) (hp2 : (I 3).toInt ≤ 400) : GM l D zt (tyM g) yX12_sign wz_j121_X12_sign ({ frames := 1, cells := 0, slots := 0, locals := 25 } : Room) [.ref (r 0), .int z1, .int z2, .int z3] (wM r g I A L) (fun v _ w' => ∃ (I' : Nat → Int32) (A' : Nat → Nat → Int32) (L' : Nat → Nat → Int64), Md [3] I I' ∧ Md [2, 3, 4] A A' ∧ IvM I' A' ∧ ∃ y0 : Int32, ((I' 3).toInt = (I 3).toInt + 1) ∧ (1 ≤ y0.toInt) ∧ (y0.toInt ≤ 1) ∧ FE (fM12_sign I A L z1 z2 z3) (y0, I', A', L') ∧ v = some (.int y0) ∧ w' = wM r g I' A' L') 0 0 := by
  refine GM.of (cc := cX12_sign) (maxL := 4) (ret := (some .int)) (own := RX12) (lv := [(0, .ref (r 0)), (1, .int z1), (2, .int z2), (3, .int z3)]) (by decide) rfl rfl (Nat.le_of_ble_eq_true rfl) rfl (fun κ sz hk hR hN => ?_)
  have hF : FE (fM12_sign I A L z1 z2 z3) (fM12_sign I A L z1 z2 z3) := FE.rf
  refine g_aload_n hk dX12_sign_0 rfl ?_
  refine g_iload_n hk dX12_sign_1 rfl ?_
  refine g_bipush (v := 59) hk dX12_sign_2 (by decide) ?_
  have b10894l := Int32.le_toInt z2
  have b10894h := Int32.toInt_lt z2
  refine g_icmp_ne (tgt := 11) (a := z2.toInt) (b := 59) hk dX12_sign_4 (by decide) rfl rfl (fun c10895 => ?_) (fun c10895 => ?_)
  · skip
    replace hF := FE.pos hF c10895
    refine g_iload_n hk dX12_sign_11 rfl ?_
    refine g_bipush (v := 45) hk dX12_sign_12 (by decide) ?_
    refine g_icmp_ne (tgt := 22) (a := z2.toInt) (b := 45) hk dX12_sign_14 (by decide) rfl rfl (fun c10896 => ?_) (fun c10896 => ?_)
    · skip
      replace hF := FE.pos hF c10896
      refine g_iconst (v := 3) hk dX12_sign_22 (by decide) ?_
      refine g_iload_n hk dX12_sign_23 rfl ?_
      refine g_iconst (v := 0) hk dX12_sign_24 (by decide) ?_
      refine g_lconst (v := 0) hk dX12_sign_25 (by decide) ?_
      have k10899 : (3 : Int32).toInt = 3 := rfl
      have k10900 : (0 : Int32).toInt = 0 := rfl
      have f10901 := IvM_f3 hIv
      refine g_callV (n := 4) hk (j122_X12_token l D zt r g I A L 3 z1 0 0 hIv (by omega)) (SP.same _) (fun _ h => h) (gi_V (List.mem_cons_of_mem _ (List.mem_append_left _ (List.mem_of_getElem? (i := 0) rfl))) (List.mem_cons_of_mem _ (List.mem_append_left _ (List.mem_of_getElem? (i := 1) rfl))) (List.mem_cons_of_mem _ (List.mem_append_left _ (List.mem_of_getElem? (i := 2) rfl))) (List.mem_cons_of_mem _ (List.mem_append_left _ (List.mem_of_getElem? (i := 3) rfl))) (gi_sub (fun w h => (List.mem_cons_of_mem _ (List.mem_append_right _ (List.mem_append_left _ h)))) zg_j122_X12_token)) rfl rfl rfl (by decide +kernel) ⟨Nat.le_of_ble_eq_true rfl, Nat.le_of_ble_eq_true rfl⟩ 0 rfl rfl rfl rfl (Nat.le_of_ble_eq_true rfl) ⟨Nat.le_of_ble_eq_true rfl, Nat.le_of_ble_eq_true rfl⟩ dX12_sign_26 (fun v ty' w' hp hk' => ?_)
      obtain ⟨I10903, A10903, L10903, hI10903, hA10903, hV10903, r10904, hC, rfl, rfl⟩ := hp
      replace hF := FE.bdM hF hC
      have f10905 := IvM_f3 hV10903
      show GW κ 4 0 0 (wM r g I10903 A10903 L10903) 29 [(0, .ref (r 0)), (1, .int z1), (2, .int z2), (3, .int z3)] []
      refine g_iconst (v := 1) hk dX12_sign_29 (by decide) ?_
      exact g_iret hk hR rfl ⟨I10903, A10903, L10903, (show Md [3] I I10903 from (Md.tr Md.rf hI10903 rfl)), (show Md [2, 3, 4] A A10903 from (Md.tr Md.rf hA10903 rfl)), hV10903, 1, (by omega), (by decide), (by decide), hF, rfl, rfl⟩ dX12_sign_30
    · skip
      replace hF := FE.neg hF c10896
      refine g_bipush (v := 9) hk dX12_sign_17 (by decide) ?_
      refine g_goto (tgt := 23) hk dX12_sign_19 (by decide) ?_
      refine g_iload_n hk dX12_sign_23 rfl ?_
      refine g_iconst (v := 0) hk dX12_sign_24 (by decide) ?_
      refine g_lconst (v := 0) hk dX12_sign_25 (by decide) ?_
      have k10906 : (9 : Int32).toInt = 9 := rfl
      have k10907 : (0 : Int32).toInt = 0 := rfl
      have f10908 := IvM_f3 hIv
      refine g_callV (n := 4) hk (j122_X12_token l D zt r g I A L 9 z1 0 0 hIv (by omega)) (SP.same _) (fun _ h => h) (gi_V (List.mem_cons_of_mem _ (List.mem_append_left _ (List.mem_of_getElem? (i := 0) rfl))) (List.mem_cons_of_mem _ (List.mem_append_left _ (List.mem_of_getElem? (i := 1) rfl))) (List.mem_cons_of_mem _ (List.mem_append_left _ (List.mem_of_getElem? (i := 2) rfl))) (List.mem_cons_of_mem _ (List.mem_append_left _ (List.mem_of_getElem? (i := 3) rfl))) (gi_sub (fun w h => (List.mem_cons_of_mem _ (List.mem_append_right _ (List.mem_append_left _ h)))) zg_j122_X12_token)) rfl rfl rfl (by decide +kernel) ⟨Nat.le_of_ble_eq_true rfl, Nat.le_of_ble_eq_true rfl⟩ 0 rfl rfl rfl rfl (Nat.le_of_ble_eq_true rfl) ⟨Nat.le_of_ble_eq_true rfl, Nat.le_of_ble_eq_true rfl⟩ dX12_sign_26 (fun v ty' w' hp hk' => ?_)
      obtain ⟨I10910, A10910, L10910, hI10910, hA10910, hV10910, r10911, hC, rfl, rfl⟩ := hp
      replace hF := FE.bdM hF hC
      have f10912 := IvM_f3 hV10910
      show GW κ 4 0 0 (wM r g I10910 A10910 L10910) 29 [(0, .ref (r 0)), (1, .int z1), (2, .int z2), (3, .int z3)] []
      refine g_iconst (v := 1) hk dX12_sign_29 (by decide) ?_
      exact g_iret hk hR rfl ⟨I10910, A10910, L10910, (show Md [3] I I10910 from (Md.tr Md.rf hI10910 rfl)), (show Md [2, 3, 4] A A10910 from (Md.tr Md.rf hA10910 rfl)), hV10910, 1, (by omega), (by decide), (by decide), hF, rfl, rfl⟩ dX12_sign_30
  · skip
    replace hF := FE.neg hF c10895
    refine g_iconst (v := 4) hk dX12_sign_7 (by decide) ?_
    refine g_goto (tgt := 23) hk dX12_sign_8 (by decide) ?_
    refine g_iload_n hk dX12_sign_23 rfl ?_
    refine g_iconst (v := 0) hk dX12_sign_24 (by decide) ?_
    refine g_lconst (v := 0) hk dX12_sign_25 (by decide) ?_
    have k10913 : (4 : Int32).toInt = 4 := rfl
    have k10914 : (0 : Int32).toInt = 0 := rfl
    have f10915 := IvM_f3 hIv
    refine g_callV (n := 4) hk (j122_X12_token l D zt r g I A L 4 z1 0 0 hIv (by omega)) (SP.same _) (fun _ h => h) (gi_V (List.mem_cons_of_mem _ (List.mem_append_left _ (List.mem_of_getElem? (i := 0) rfl))) (List.mem_cons_of_mem _ (List.mem_append_left _ (List.mem_of_getElem? (i := 1) rfl))) (List.mem_cons_of_mem _ (List.mem_append_left _ (List.mem_of_getElem? (i := 2) rfl))) (List.mem_cons_of_mem _ (List.mem_append_left _ (List.mem_of_getElem? (i := 3) rfl))) (gi_sub (fun w h => (List.mem_cons_of_mem _ (List.mem_append_right _ (List.mem_append_left _ h)))) zg_j122_X12_token)) rfl rfl rfl (by decide +kernel) ⟨Nat.le_of_ble_eq_true rfl, Nat.le_of_ble_eq_true rfl⟩ 0 rfl rfl rfl rfl (Nat.le_of_ble_eq_true rfl) ⟨Nat.le_of_ble_eq_true rfl, Nat.le_of_ble_eq_true rfl⟩ dX12_sign_26 (fun v ty' w' hp hk' => ?_)
    obtain ⟨I10917, A10917, L10917, hI10917, hA10917, hV10917, r10918, hC, rfl, rfl⟩ := hp
    replace hF := FE.bdM hF hC
    have f10919 := IvM_f3 hV10917
    show GW κ 4 0 0 (wM r g I10917 A10917 L10917) 29 [(0, .ref (r 0)), (1, .int z1), (2, .int z2), (3, .int z3)] []
    refine g_iconst (v := 1) hk dX12_sign_29 (by decide) ?_
    exact g_iret hk hR rfl ⟨I10917, A10917, L10917, (show Md [3] I I10917 from (Md.tr Md.rf hI10917 rfl)), (show Md [2, 3, 4] A A10917 from (Md.tr Md.rf hA10917 rfl)), hV10917, 1, (by omega), (by decide), (by decide), hF, rfl, rfl⟩ dX12_sign_30
noncomputable def fM12_appends (I : Nat → Int32) (A : Nat → Nat → Int32) (L : Nat → Nat → Int64) (z0 : Int64) (z1 : Int32) : Int64 := if z1.toInt ≠ 0 then f_lt ((27 : Int64) * z0) fun y11863 => f_lt (z1 - (97 : Int32)) fun y11864 => f_lt (y11864 + (1 : Int32)) fun y11866 => f_lt (y11866.toInt64) fun y11867 => f_lt (y11863 + y11867) fun y11868 => y11868 else z0
def wo_j123_X12_appends : List Cond := [Cond.constantLong RX12 133 (27)]
def wz_j123_X12_appends : List Cond := .code yX12_appends cX12_appends 3 (some .long) :: (wo_j123_X12_appends ++ ([] : List Cond))
theorem zg_j123_X12_appends : ∀ w ∈ wz_j123_X12_appends, goodWord w = true := zg_cons rfl (zg_app (by decide +kernel) zg_nil)
theorem zi_j123_X12_appends : ∀ w ∈ wz_j123_X12_appends, w ∈ lw_tbl := zi_cons zw_1370 (zi_app (zi_cons zw_1371 zi_nil) zi_nil)
set_option maxHeartbeats 4000000 in
set_option maxRecDepth 100000 in
theorem j123_X12_appends (l : Launch) (D : va_G) (zt : Nat × Nat × Nat × (Nat → Nat) × (Nat → Nat)) (r : Nat → Nat) (g : Nat → ClassId) (I : Nat → Int32) (A : Nat → Nat → Int32) (L : Nat → Nat → Int64) (z0 : Int64) (z1 : Int32) (hIv : IvM I A) : GM l D zt (tyM g) yX12_appends wz_j123_X12_appends ({ frames := 0, cells := 0, slots := 0, locals := 0 } : Room) [.long z0, .int z1] (wM r g I A L) (fun v _ w' => ∃ y0 : Int64, FE (fM12_appends I A L z0 z1) y0 ∧ v = some (.long y0) ∧ w' = wM r g I A L) 0 0 := by
  refine GM.of (cc := cX12_appends) (maxL := 3) (ret := (some .long)) (own := RX12) (lv := [(0, .long z0), (2, .int z1)]) (by decide) rfl rfl (Nat.le_of_ble_eq_true rfl) rfl (fun κ sz hk hR hN => ?_)
  have hF : FE (fM12_appends I A L z0 z1) (fM12_appends I A L z0 z1) := FE.rf
  refine g_iload_n hk dX12_appends_0 rfl ?_
  have b11861l := Int32.le_toInt z1
  have b11861h := Int32.toInt_lt z1
  refine g_if_ne (tgt := 8) (a := z1.toInt) hk dX12_appends_1 (by decide) rfl (fun c11862 => ?_) (fun c11862 => ?_)
  · skip
    replace hF := FE.pos hF c11862
    refine g_ldc2 (v := 27) hk (List.mem_cons_of_mem _ (List.mem_append_left _ (List.mem_of_getElem? (i := 0) rfl))) dX12_appends_8 ?_
    refine g_lload_n hk dX12_appends_11 rfl ?_
    refine g_lmul hk dX12_appends_12 ?_
    refine g_topl (fun y11863 ey11863 => ?_)
    replace hF := FE.lt hF ey11863
    refine g_iload_n hk dX12_appends_13 rfl ?_
    refine g_bipush (v := 97) hk dX12_appends_14 (by decide) ?_
    refine g_isub hk dX12_appends_16 ?_
    refine g_topi (fun y11864 ey11864 => ?_)
    replace hF := FE.lt hF ey11864
    have hy11864 := i32_sub0 ey11864
    refine g_iconst (v := 1) hk dX12_appends_17 (by decide) ?_
    have b11865l := Int32.le_toInt y11864
    have b11865h := Int32.toInt_lt y11864
    refine g_iadd hk dX12_appends_18 ?_
    refine g_topi (fun y11866 ey11866 => ?_)
    replace hF := FE.lt hF ey11866
    refine g_i2l hk dX12_appends_19 rfl ?_
    refine g_topl (fun y11867 ey11867 => ?_)
    replace hF := FE.lt hF ey11867
    refine g_ladd hk dX12_appends_20 ?_
    refine g_topl (fun y11868 ey11868 => ?_)
    replace hF := FE.lt hF ey11868
    exact g_lret hk hR ⟨y11868, hF, rfl, rfl⟩ dX12_appends_21
  · skip
    replace hF := FE.neg hF c11862
    refine g_lload_n hk dX12_appends_4 rfl ?_
    refine g_goto (tgt := 21) hk dX12_appends_5 (by decide) ?_
    exact g_lret hk hR ⟨z0, hF, rfl, rfl⟩ dX12_appends_21
noncomputable def bM12_cut_208 (x10854 : Int32) (I10856 : Nat → Int32) (A10856 : Nat → Nat → Int32) (L10856 : Nat → Nat → Int64) (kk13770 : Int32 → (Nat → Int32) → (Nat → Nat → Int32) → (Nat → Nat → Int64) → (Int32 × (Nat → Int32) × (Nat → Nat → Int32) × (Nat → Nat → Int64))) : (Int32 → Int32 → (Int32 × (Nat → Int32) × (Nat → Nat → Int32) × (Nat → Nat → Int64))) → Int32 → Int32 → (Int32 × (Nat → Int32) × (Nat → Nat → Int32) × (Nat → Nat → Int64)) := fun kk14421 x13861 x13862 => f_lt (x10854 + x13862) fun y14423 => if (fM12_byteAt I10856 A10856 L10856 y14423).2 = 0 then if fM12_isDigit I10856 A10856 L10856 0 = 0 then if x13862.toInt ≤ 4 then f_bdM (fM12_token I10856 A10856 L10856 2 x10854 x13861 0) fun _ I14439 A14439 L14439 => f_lt (x10854 + x13862) fun y14442 => kk13770 y14442 I14439 A14439 L14439 else f_bdM (fM12_token I10856 A10856 L10856 3 x10854 x13861 0) fun _ I14445 A14445 L14445 => f_lt (x10854 + x13862) fun y14448 => kk13770 y14448 I14445 A14445 L14445 else dfM else f_lt (fM12_byteAt I10856 A10856 L10856 y14423).1 fun y14426 => if fM12_isDigit I10856 A10856 L10856 y14426 = 0 then if x13862.toInt ≤ 4 then f_bdM (fM12_token I10856 A10856 L10856 2 x10854 x13861 0) fun _ I14458 A14458 L14458 => f_lt (x10854 + x13862) fun y14461 => kk13770 y14461 I14458 A14458 L14458 else f_bdM (fM12_token I10856 A10856 L10856 3 x10854 x13861 0) fun _ I14464 A14464 L14464 => f_lt (x10854 + x13862) fun y14467 => kk13770 y14467 I14464 A14464 L14464 else if 4 ≤ x13862.toInt then f_lt (x13862 + Int32.ofInt 1) fun y14469 => kk14421 x13861 y14469 else f_lt ((10 : Int32) * x13861) fun y14472 => f_lt (x10854 + x13862) fun y14473 => if (fM12_byteAt I10856 A10856 L10856 y14473).2 = 0 then f_lt (y14472 + (0 : Int32)) fun y14480 => f_lt (y14480 - (48 : Int32)) fun y14482 => f_lt (x13862 + Int32.ofInt 1) fun y14483 => kk14421 y14482 y14483 else f_lt (fM12_byteAt I10856 A10856 L10856 y14473).1 fun y14476 => f_lt (y14472 + y14476) fun y14486 => f_lt (y14486 - (48 : Int32)) fun y14488 => f_lt (x13862 + Int32.ofInt 1) fun y14489 => kk14421 y14488 y14489
noncomputable def bM12_cut_146 (I10856 : Nat → Int32) (A10856 : Nat → Nat → Int32) (L10856 : Nat → Nat → Int64) (x10854 : Int32) (x14497 : Int64) (x14498 : Int32) (kk13770 : Int32 → (Nat → Int32) → (Nat → Nat → Int32) → (Nat → Nat → Int64) → (Int32 × (Nat → Int32) × (Nat → Nat → Int32) × (Nat → Nat → Int64))) : (Int32 → Int32 → (Int32 × (Nat → Int32) × (Nat → Nat → Int32) × (Nat → Nat → Int64))) → Int32 → Int32 → (Int32 × (Nat → Int32) × (Nat → Nat → Int32) × (Nat → Nat → Int64)) := fun kk15040 x14973 x14974 => if 13 ≤ x14973.toInt then f_bdM (fM12_token I10856 A10856 L10856 x14974 x10854 0 x14497) fun _ I15044 A15044 L15044 => f_lt (x10854 + x14498) fun y15047 => kk13770 y15047 I15044 A15044 L15044 else f_lt (L10856 6 (x14973.toNatClampNeg)) fun y15048 => f_lt (lg_cmp y15048 x14497) fun y15049 => if y15049.toInt ≠ 0 then f_lt (x14973 + Int32.ofInt 1) fun y15052 => kk15040 y15052 x14974 else f_lt ((20 : Int32) + x14973) fun y15053 => f_lt (x14973 + Int32.ofInt 1) fun y15054 => kk15040 y15054 y15053
noncomputable def bM12_cut_146x (I10856 : Nat → Int32) (A10856 : Nat → Nat → Int32) (L10856 : Nat → Nat → Int64) (x10854 : Int32) (x14497 : Int64) (x14498 : Int32) (kk13770 : Int32 → (Nat → Int32) → (Nat → Nat → Int32) → (Nat → Nat → Int64) → (Int32 × (Nat → Int32) × (Nat → Nat → Int32) × (Nat → Nat → Int64))) : (Int32 → Int32 → (Int32 × (Nat → Int32) × (Nat → Nat → Int32) × (Nat → Nat → Int64))) → Int32 → Int32 → (Int32 × (Nat → Int32) × (Nat → Nat → Int32) × (Nat → Nat → Int64)) := fun kk15142 x15072 x15073 => if 13 ≤ x15072.toInt then f_bdM (fM12_token I10856 A10856 L10856 x15073 x10854 0 x14497) fun _ I15147 A15147 L15147 => f_lt (x10854 + x14498) fun y15150 => kk13770 y15150 I15147 A15147 L15147 else f_lt (L10856 6 (x15072.toNatClampNeg)) fun y15151 => f_lt (lg_cmp y15151 x14497) fun y15152 => if y15152.toInt ≠ 0 then f_lt (x15072 + Int32.ofInt 1) fun y15155 => kk15142 y15155 x15073 else f_lt ((20 : Int32) + x15072) fun y15156 => f_lt (x15072 + Int32.ofInt 1) fun y15157 => kk15142 y15157 y15156
noncomputable def bM12_cut_85 (x10854 : Int32) (I10856 : Nat → Int32) (A10856 : Nat → Nat → Int32) (L10856 : Nat → Nat → Int64) (kk13770 : Int32 → (Nat → Int32) → (Nat → Nat → Int32) → (Nat → Nat → Int64) → (Int32 × (Nat → Int32) × (Nat → Nat → Int32) × (Nat → Nat → Int64))) : (Int64 → Int32 → (Int32 × (Nat → Int32) × (Nat → Nat → Int32) × (Nat → Nat → Int64))) → Int64 → Int32 → (Int32 × (Nat → Int32) × (Nat → Nat → Int32) × (Nat → Nat → Int64)) := fun kk14957 x14497 x14498 => f_lt (x10854 + x14498) fun y14959 => if (fM12_byteAt I10856 A10856 L10856 y14959).2 = 0 then if fM12_isLetter I10856 A10856 L10856 0 = 0 then if x14498.toInt ≤ 8 then itr_ii dfM (bM12_cut_146 I10856 A10856 L10856 x10854 x14497 x14498 kk13770) FU 0 1 else f_bdM (fM12_token I10856 A10856 L10856 3 x10854 0 x14497) fun _ I15061 A15061 L15061 => f_lt (x10854 + x14498) fun y15064 => kk13770 y15064 I15061 A15061 L15061 else dfM else f_lt (fM12_byteAt I10856 A10856 L10856 y14959).1 fun y14962 => if fM12_isLetter I10856 A10856 L10856 y14962 = 0 then if x14498.toInt ≤ 8 then itr_ii dfM (bM12_cut_146x I10856 A10856 L10856 x10854 x14497 x14498 kk13770) FU 0 1 else f_bdM (fM12_token I10856 A10856 L10856 3 x10854 0 x14497) fun _ I15166 A15166 L15166 => f_lt (x10854 + x14498) fun y15169 => kk13770 y15169 I15166 A15166 L15166 else if 8 ≤ x14498.toInt then f_lt (x14498 + Int32.ofInt 1) fun y15171 => kk14957 x14497 y15171 else f_lt (x10854 + x14498) fun y15172 => if (fM12_byteAt I10856 A10856 L10856 y15172).2 = 0 then f_lt (fM12_appends I10856 A10856 L10856 x14497 0) fun y15179 => f_lt (x14498 + Int32.ofInt 1) fun y15180 => kk14957 y15179 y15180 else f_lt (fM12_byteAt I10856 A10856 L10856 y15172).1 fun y15175 => f_lt (fM12_appends I10856 A10856 L10856 x14497 y15175) fun y15181 => f_lt (x14498 + Int32.ofInt 1) fun y15182 => kk14957 y15181 y15182
noncomputable def bM12_cut_7 (I : Nat → Int32) : (Int32 → (Nat → Int32) → (Nat → Nat → Int32) → (Nat → Nat → Int64) → (Int32 × (Nat → Int32) × (Nat → Nat → Int32) × (Nat → Nat → Int64))) → Int32 → (Nat → Int32) → (Nat → Nat → Int32) → (Nat → Nat → Int64) → (Int32 × (Nat → Int32) × (Nat → Nat → Int32) × (Nat → Nat → Int64)) := fun kk13770 x10854 I10856 A10856 L10856 => if 400 < (I10856 3).toInt then (0, I10856, A10856, L10856) else if (fM12_byteAt I10856 A10856 L10856 x10854).2 = 0 then if x10854.toInt < (I 2).toInt then if fM12_isLetter I10856 A10856 L10856 0 = 0 then if fM12_isDigit I10856 A10856 L10856 0 = 0 then f_lt (x10854 + (1 : Int32)) fun y13794 => if (fM12_byteAt I10856 A10856 L10856 y13794).2 = 0 then f_bdM (fM12_sign I10856 A10856 L10856 x10854 0 0) fun y13800 I13803 A13803 L13803 => f_lt (x10854 + y13800) fun y13806 => kk13770 y13806 I13803 A13803 L13803 else f_lt (fM12_byteAt I10856 A10856 L10856 y13794).1 fun y13797 => f_bdM (fM12_sign I10856 A10856 L10856 x10854 0 y13797) fun y13807 I13810 A13810 L13810 => f_lt (x10854 + y13807) fun y13813 => kk13770 y13813 I13810 A13810 L13810 else dfM else dfM else f_bdM (fM12_token I10856 A10856 L10856 0 (I 2) 0 0) fun _ I13816 A13816 L13816 => (0, I13816, A13816, L13816) else f_lt (fM12_byteAt I10856 A10856 L10856 x10854).1 fun y13776 => if x10854.toInt < (I 2).toInt then if y13776.toInt = 9 then f_lt (x10854 + Int32.ofInt 1) fun y13822 => kk13770 y13822 I10856 A10856 L10856 else if y13776.toInt = 10 then f_lt (x10854 + Int32.ofInt 1) fun y13824 => kk13770 y13824 I10856 A10856 L10856 else if y13776.toInt = 13 then f_lt (x10854 + Int32.ofInt 1) fun y13826 => kk13770 y13826 I10856 A10856 L10856 else if y13776.toInt ≠ 32 then if fM12_isLetter I10856 A10856 L10856 y13776 = 0 then if fM12_isDigit I10856 A10856 L10856 y13776 = 0 then f_lt (x10854 + (1 : Int32)) fun y13840 => if (fM12_byteAt I10856 A10856 L10856 y13840).2 = 0 then f_bdM (fM12_sign I10856 A10856 L10856 x10854 y13776 0) fun y13847 I13850 A13850 L13850 => f_lt (x10854 + y13847) fun y13853 => kk13770 y13853 I13850 A13850 L13850 else f_lt (fM12_byteAt I10856 A10856 L10856 y13840).1 fun y13843 => f_bdM (fM12_sign I10856 A10856 L10856 x10854 y13776 y13843) fun y13854 I13857 A13857 L13857 => f_lt (x10854 + y13854) fun y13860 => kk13770 y13860 I13857 A13857 L13857 else itr_ii dfM (bM12_cut_208 x10854 I10856 A10856 L10856 kk13770) FU 0 0 else itr_li dfM (bM12_cut_85 x10854 I10856 A10856 L10856 kk13770) FU 0 0 else f_lt (x10854 + Int32.ofInt 1) fun y15189 => kk13770 y15189 I10856 A10856 L10856 else f_bdM (fM12_token I10856 A10856 L10856 0 (I 2) 0 0) fun _ I15192 A15192 L15192 => (0, I15192, A15192, L15192)
noncomputable def fM12_cut (I : Nat → Int32) (A : Nat → Nat → Int32) (L : Nat → Nat → Int64) : Int32 × (Nat → Int32) × (Nat → Nat → Int32) × (Nat → Nat → Int64) := itr_iIAL dfM (bM12_cut_7 I) FU 0 (upd I 3 0) A L
def wo_j117_X12_cut : List Cond := [Cond.fieldLink RX12 139 "WarpDeskModel" "tokens" "I", Cond.methodLink RX12 142 yX12_byteAt, Cond.instanceMethod yX12_byteAt, Cond.selects RX12 yX12_byteAt yX12_byteAt, Cond.initialized RX12, Cond.fieldLink RX12 130 "WarpDeskModel" "size" "I", Cond.methodLink RX12 150 yX12_isLetter, Cond.static yX12_isLetter, Cond.methodLink RX12 154 yX12_isDigit, Cond.static yX12_isDigit, Cond.methodLink RX12 157 yX12_sign, Cond.instanceMethod yX12_sign, Cond.selects RX12 yX12_sign yX12_sign, Cond.methodLink RX12 146 yX12_token, Cond.instanceMethod yX12_token, Cond.selects RX12 yX12_token yX12_token, Cond.fieldLink RX12 34 "WarpDeskModel" "keys" "[J", Cond.methodLink RX12 135 yX12_appends, Cond.static yX12_appends]
def wz_j117_X12_cut : List Cond := .code yX12_cut cX12_cut 8 none :: (wo_j117_X12_cut ++ (wsX120 ++ (wz_j118_X12_byteAt ++ (wz_j119_X12_isLetter ++ (wz_j120_X12_isDigit ++ (wz_j121_X12_sign ++ (wz_j122_X12_token ++ (wz_j123_X12_appends ++ ([] : List Cond)))))))))
theorem zg_j117_X12_cut : ∀ w ∈ wz_j117_X12_cut, goodWord w = true := zg_cons rfl (zg_app (by decide +kernel) (zg_app zgU_wsX120 (zg_app zg_j118_X12_byteAt (zg_app zg_j119_X12_isLetter (zg_app zg_j120_X12_isDigit (zg_app zg_j121_X12_sign (zg_app zg_j122_X12_token (zg_app zg_j123_X12_appends zg_nil))))))))
theorem zi_j117_X12_cut : ∀ w ∈ wz_j117_X12_cut, w ∈ lw_tbl := zi_cons zw_1564 (zi_app (zi_cons zw_1389 (zi_cons zw_1565 (zi_cons zw_1567 (zi_cons zw_49 (zi_cons zw_115 (zi_cons zw_1383 (zi_cons zw_1573 (zi_cons zw_1574 (zi_cons zw_1576 (zi_cons zw_1577 (zi_cons zw_1579 (zi_cons zw_1581 (zi_cons zw_51 (zi_cons zw_1569 (zi_cons zw_1571 (zi_cons zw_50 (zi_cons zw_1388 (zi_cons zw_1368 (zi_cons zw_1369 zi_nil))))))))))))))))))) (zi_app inX12 (zi_app zi_j118_X12_byteAt (zi_app zi_j119_X12_isLetter (zi_app zi_j120_X12_isDigit (zi_app zi_j121_X12_sign (zi_app zi_j122_X12_token (zi_app zi_j123_X12_appends zi_nil))))))))
set_option maxHeartbeats 4000000 in
set_option maxRecDepth 100000 in
theorem j117_X12_cut (l : Launch) (D : va_G) (zt : Nat × Nat × Nat × (Nat → Nat) × (Nat → Nat)) (r : Nat → Nat) (g : Nat → ClassId) (I : Nat → Int32) (A : Nat → Nat → Int32) (L : Nat → Nat → Int64) (hIv : IvM I A) : GM l D zt (tyM g) yX12_cut wz_j117_X12_cut ({ frames := 2, cells := 0, slots := 0, locals := 48 } : Room) [.ref (r 0)] (wM r g I A L) (fun v _ w' => ∃ (I' : Nat → Int32) (A' : Nat → Nat → Int32) (L' : Nat → Nat → Int64), Md [3] I I' ∧ Md [2, 3, 4] A A' ∧ IvM I' A' ∧ FE (fM12_cut I A L) (0, I', A', L') ∧ v = none ∧ w' = wM r g I' A' L') 0 0 := by
  refine GM.of (cc := cX12_cut) (maxL := 8) (ret := none) (own := RX12) (lv := [(0, .ref (r 0))]) (by decide) rfl rfl (Nat.le_of_ble_eq_true rfl) rfl (fun κ sz hk hR hN => ?_)
  have hin12 : ∀ w ∈ u_ws RX12 TX12 55, w ∈ wz_j117_X12_cut := fun w h => (List.mem_cons_of_mem _ (List.mem_append_right _ (List.mem_append_left _ h)))
  have hF : FE (fM12_cut I A L) (fM12_cut I A L) := FE.rf
  refine g_aload_n hk dX12_cut_0 rfl ?_
  refine g_iconst (v := 0) hk dX12_cut_1 (by decide) ?_
  refine pM_i3 hk hin12 (List.mem_cons_of_mem _ (List.mem_append_left _ (List.mem_of_getElem? (i := 0) rfl))) dX12_cut_2 ?_
  refine g_iconst (v := 0) hk dX12_cut_5 (by decide) ?_
  refine g_istore_n (lv' := [(1, .int 0), (0, .ref (r 0))]) hk dX12_cut_6 (by decide) rfl ?_
  have lp13767 : ∀ (n13768 : Nat) (x10854 : Int32) (I10856 : Nat → Int32) (A10856 : Nat → Nat → Int32) (L10856 : Nat → Nat → Int64), (Md [3] (upd I 3 0) I10856) → (Md [2, 3, 4] A A10856) → (IvM I10856 A10856) → (0 ≤ x10854.toInt) → (x10854.toInt ≤ 2000) → (2001 - x10854.toInt + (402 - (I10856 3).toInt) < (n13768 : Int)) → (0 < n13768) → (FE (fM12_cut I A L) (itr_iIAL dfM (bM12_cut_7 I) n13768 x10854 I10856 A10856 L10856)) → GW κ 8 0 0 (wM r g I10856 A10856 L10856) 7 [(1, .int x10854), (0, .ref (r 0))] [] := by
    intro n13768
    induction n13768 with
    | zero =>
      intro x10854 I10856 A10856 L10856 hI10856 hA10856 hV10856 h13765 h13766 m13769 m13769z hF
      exact absurd m13769z (Nat.lt_irrefl 0)
    | succ n13768 ih13771 =>
      intro x10854 I10856 A10856 L10856 hI10856 hA10856 hV10856 h13765 h13766 m13769 m13769z hF
      have f13772 := IvM_f3 hV10856
      replace hF := FE.itr_iIAL hF
      refine g_aload_n hk dX12_cut_7 rfl ?_
      refine gM_i3 (v := (I10856 3)) hk hin12 (List.mem_cons_of_mem _ (List.mem_append_left _ (List.mem_of_getElem? (i := 0) rfl))) dX12_cut_8 rfl ?_
      refine g_sipush (v := 400) hk dX12_cut_11 (by decide) ?_
      refine g_icmp_gt (tgt := 294) (a := (I10856 3).toInt) (b := 400) hk dX12_cut_14 (by decide) rfl rfl (fun c13773 => ?_) (fun c13773 => ?_)
      · skip
        replace hF := FE.pos hF c13773
        exact g_vret hk hR ⟨I10856, A10856, L10856, (show Md [3] I I10856 from (Md.tr (Md.up Md.rf rfl) hI10856 rfl)), (show Md [2, 3, 4] A A10856 from (Md.tr Md.rf hA10856 rfl)), hV10856, hF, rfl, rfl⟩ dX12_cut_294
      · skip
        replace hF := FE.neg hF c13773
        refine g_aload_n hk dX12_cut_17 rfl ?_
        refine g_iload_n hk dX12_cut_18 rfl ?_
        refine g_callV (n := 1) hk (j118_X12_byteAt l D zt r g I10856 A10856 L10856 x10854 hV10856 (by omega)) (SP.same _) (fun _ h => h) (gi_V (List.mem_cons_of_mem _ (List.mem_append_left _ (List.mem_of_getElem? (i := 1) rfl))) (List.mem_cons_of_mem _ (List.mem_append_left _ (List.mem_of_getElem? (i := 2) rfl))) (List.mem_cons_of_mem _ (List.mem_append_left _ (List.mem_of_getElem? (i := 3) rfl))) (List.mem_cons_of_mem _ (List.mem_append_left _ (List.mem_of_getElem? (i := 4) rfl))) (gi_sub (fun w h => (List.mem_cons_of_mem _ (List.mem_append_right _ (List.mem_append_right _ (List.mem_append_left _ h))))) zg_j118_X12_byteAt)) rfl rfl rfl (by decide +kernel) ⟨Nat.le_of_ble_eq_true rfl, Nat.le_of_ble_eq_true rfl⟩ 0 rfl rfl rfl rfl (Nat.le_of_ble_eq_true rfl) ⟨Nat.le_of_ble_eq_true rfl, Nat.le_of_ble_eq_true rfl⟩ dX12_cut_19 (fun v ty' w' hp hk' => ?_)
        rcases hp with ⟨hC, rfl, rfl⟩ | ⟨y13776, c13775, c13777, c13778, hC, rfl, rfl⟩
        · skip
          replace hF := FE.pos hF (fe_2 hC)
          show GW κ 8 0 0 (wM r g I10856 A10856 L10856) 22 [(1, .int x10854), (0, .ref (r 0))] [.int 0]
          refine g_istore_n (lv' := [(2, .int 0), (1, .int x10854), (0, .ref (r 0))]) hk dX12_cut_22 (by decide) rfl ?_
          refine g_iload_n hk dX12_cut_23 rfl ?_
          refine g_aload_n hk dX12_cut_24 rfl ?_
          refine gM_i2 (v := (I 2)) hk hin12 (List.mem_cons_of_mem _ (List.mem_append_left _ (List.mem_of_getElem? (i := 5) rfl))) dX12_cut_25 (hI10856 2 rfl) ?_
          have f13779 := IvM_f2 hIv
          refine g_icmp_lt (tgt := 43) (a := x10854.toInt) (b := (I 2).toInt) hk dX12_cut_28 (by decide) rfl rfl (fun c13780 => ?_) (fun c13780 => ?_)
          · skip
            replace hF := FE.pos hF c13780
            refine g_iload_n hk dX12_cut_43 rfl ?_
            refine g_bipush (v := 9) hk dX12_cut_44 (by decide) ?_
            refine g_icmp_eq (tgt := 67) (a := 0) (b := 9) hk dX12_cut_46 (by decide) rfl rfl (fun z9 => absurd z9 (show ¬ ((0 : Int) = (9 : Int)) from by decide)) (fun _ => ?_)
            refine g_iload_n hk dX12_cut_49 rfl ?_
            refine g_bipush (v := 10) hk dX12_cut_50 (by decide) ?_
            refine g_icmp_eq (tgt := 67) (a := 0) (b := 10) hk dX12_cut_52 (by decide) rfl rfl (fun z9 => absurd z9 (show ¬ ((0 : Int) = (10 : Int)) from by decide)) (fun _ => ?_)
            refine g_iload_n hk dX12_cut_55 rfl ?_
            refine g_bipush (v := 13) hk dX12_cut_56 (by decide) ?_
            refine g_icmp_eq (tgt := 67) (a := 0) (b := 13) hk dX12_cut_58 (by decide) rfl rfl (fun z9 => absurd z9 (show ¬ ((0 : Int) = (13 : Int)) from by decide)) (fun _ => ?_)
            refine g_iload_n hk dX12_cut_61 rfl ?_
            refine g_bipush (v := 32) hk dX12_cut_62 (by decide) ?_
            refine g_icmp_ne (tgt := 73) (a := 0) (b := 32) hk dX12_cut_64 (by decide) rfl rfl (fun _ => ?_) (fun z9 => absurd (show (0 : Int) ≠ (32 : Int) from by decide) z9)
            refine g_iload_n hk dX12_cut_73 rfl ?_
            have k13781 : (0 : Int32).toInt = 0 := rfl
            refine g_callS (n := 1) hk (j119_X12_isLetter l D zt r g I10856 A10856 L10856 0 hV10856) (SP.same _) (fun _ h => h) (gi_S (List.mem_cons_of_mem _ (List.mem_append_left _ (List.mem_of_getElem? (i := 6) rfl))) (List.mem_cons_of_mem _ (List.mem_append_left _ (List.mem_of_getElem? (i := 7) rfl))) (List.mem_cons_of_mem _ (List.mem_append_left _ (List.mem_of_getElem? (i := 4) rfl))) (gi_sub (fun w h => (List.mem_cons_of_mem _ (List.mem_append_right _ (List.mem_append_right _ (List.mem_append_right _ (List.mem_append_left _ h)))))) zg_j119_X12_isLetter)) rfl rfl rfl (by decide +kernel) ⟨Nat.le_of_ble_eq_true rfl, Nat.le_of_ble_eq_true rfl⟩ rfl rfl (Nat.le_of_ble_eq_true rfl) ⟨Nat.le_of_ble_eq_true rfl, Nat.le_of_ble_eq_true rfl⟩ dX12_cut_74 (fun v ty' w' hp hk' => ?_)
            rcases hp with ⟨hC, rfl, rfl⟩ | ⟨c13783, c13784, c13785, c13786, hC, rfl, rfl⟩
            · skip
              replace hF := FE.pos hF hC
              show GW κ 8 0 0 (wM r g I10856 A10856 L10856) 77 [(2, .int 0), (1, .int x10854), (0, .ref (r 0))] [.int 0]
              refine g_if_eq (tgt := 196) (a := 0) hk dX12_cut_77 (by decide) rfl (fun _ => ?_) (fun z9 => absurd (show (0 : Int) = (0 : Int) from by decide) z9)
              refine g_iload_n hk dX12_cut_196 rfl ?_
              refine g_callS (n := 1) hk (j120_X12_isDigit l D zt r g I10856 A10856 L10856 0 hV10856) (SP.same _) (fun _ h => h) (gi_S (List.mem_cons_of_mem _ (List.mem_append_left _ (List.mem_of_getElem? (i := 8) rfl))) (List.mem_cons_of_mem _ (List.mem_append_left _ (List.mem_of_getElem? (i := 9) rfl))) (List.mem_cons_of_mem _ (List.mem_append_left _ (List.mem_of_getElem? (i := 4) rfl))) (gi_sub (fun w h => (List.mem_cons_of_mem _ (List.mem_append_right _ (List.mem_append_right _ (List.mem_append_right _ (List.mem_append_right _ (List.mem_append_left _ h))))))) zg_j120_X12_isDigit)) rfl rfl rfl (by decide +kernel) ⟨Nat.le_of_ble_eq_true rfl, Nat.le_of_ble_eq_true rfl⟩ rfl rfl (Nat.le_of_ble_eq_true rfl) ⟨Nat.le_of_ble_eq_true rfl, Nat.le_of_ble_eq_true rfl⟩ dX12_cut_197 (fun v ty' w' hp hk' => ?_)
              rcases hp with ⟨hC, rfl, rfl⟩ | ⟨c13789, c13790, c13791, c13792, hC, rfl, rfl⟩
              · skip
                replace hF := FE.pos hF hC
                show GW κ 8 0 0 (wM r g I10856 A10856 L10856) 200 [(2, .int 0), (1, .int x10854), (0, .ref (r 0))] [.int 0]
                refine g_if_eq (tgt := 275) (a := 0) hk dX12_cut_200 (by decide) rfl (fun _ => ?_) (fun z9 => absurd (show (0 : Int) = (0 : Int) from by decide) z9)
                refine g_iload_n hk dX12_cut_275 rfl ?_
                refine g_aload_n hk dX12_cut_276 rfl ?_
                refine g_iload_n hk dX12_cut_277 rfl ?_
                refine g_iload_n hk dX12_cut_278 rfl ?_
                refine g_aload_n hk dX12_cut_279 rfl ?_
                refine g_iload_n hk dX12_cut_280 rfl ?_
                refine g_iconst (v := 1) hk dX12_cut_281 (by decide) ?_
                refine g_iadd hk dX12_cut_282 ?_
                refine g_topi (fun y13794 ey13794 => ?_)
                replace hF := FE.lt hF ey13794
                have hy13794 : y13794.toInt = x10854.toInt + 1 := i32_add ey13794 rfl rfl (by omega) (by omega)
                refine g_callV (n := 1) hk (j118_X12_byteAt l D zt r g I10856 A10856 L10856 y13794 hV10856 (by omega)) (SP.same _) (fun _ h => h) (gi_V (List.mem_cons_of_mem _ (List.mem_append_left _ (List.mem_of_getElem? (i := 1) rfl))) (List.mem_cons_of_mem _ (List.mem_append_left _ (List.mem_of_getElem? (i := 2) rfl))) (List.mem_cons_of_mem _ (List.mem_append_left _ (List.mem_of_getElem? (i := 3) rfl))) (List.mem_cons_of_mem _ (List.mem_append_left _ (List.mem_of_getElem? (i := 4) rfl))) (gi_sub (fun w h => (List.mem_cons_of_mem _ (List.mem_append_right _ (List.mem_append_right _ (List.mem_append_left _ h))))) zg_j118_X12_byteAt)) rfl rfl rfl (by decide +kernel) ⟨Nat.le_of_ble_eq_true rfl, Nat.le_of_ble_eq_true rfl⟩ 0 rfl rfl rfl rfl (Nat.le_of_ble_eq_true rfl) ⟨Nat.le_of_ble_eq_true rfl, Nat.le_of_ble_eq_true rfl⟩ dX12_cut_283 (fun v ty' w' hp hk' => ?_)
                rcases hp with ⟨hC, rfl, rfl⟩ | ⟨y13797, c13796, c13798, c13799, hC, rfl, rfl⟩
                · skip
                  replace hF := FE.pos hF (fe_2 hC)
                  show GW κ 8 0 0 (wM r g I10856 A10856 L10856) 286 [(2, .int 0), (1, .int x10854), (0, .ref (r 0))] [.int 0, .int 0, .int x10854, .ref (r 0), .int x10854]
                  refine g_callV (n := 3) hk (j121_X12_sign l D zt r g I10856 A10856 L10856 x10854 0 0 hV10856 (by omega) (by omega) (by omega)) (SP.same _) (fun _ h => h) (gi_V (List.mem_cons_of_mem _ (List.mem_append_left _ (List.mem_of_getElem? (i := 10) rfl))) (List.mem_cons_of_mem _ (List.mem_append_left _ (List.mem_of_getElem? (i := 11) rfl))) (List.mem_cons_of_mem _ (List.mem_append_left _ (List.mem_of_getElem? (i := 12) rfl))) (List.mem_cons_of_mem _ (List.mem_append_left _ (List.mem_of_getElem? (i := 4) rfl))) (gi_sub (fun w h => (List.mem_cons_of_mem _ (List.mem_append_right _ (List.mem_append_right _ (List.mem_append_right _ (List.mem_append_right _ (List.mem_append_right _ (List.mem_append_left _ h)))))))) zg_j121_X12_sign)) rfl rfl rfl (by decide +kernel) ⟨Nat.le_of_ble_eq_true rfl, Nat.le_of_ble_eq_true rfl⟩ 0 rfl rfl rfl rfl (Nat.le_of_ble_eq_true rfl) ⟨Nat.le_of_ble_eq_true rfl, Nat.le_of_ble_eq_true rfl⟩ dX12_cut_286 (fun v ty' w' hp hk' => ?_)
                  obtain ⟨I13803, A13803, L13803, hI13803, hA13803, hV13803, y13800, r13804, c13801, c13802, hC, rfl, rfl⟩ := hp
                  replace hF := FE.bdM hF hC
                  have f13805 := IvM_f3 hV13803
                  show GW κ 8 0 0 (wM r g I13803 A13803 L13803) 289 [(2, .int 0), (1, .int x10854), (0, .ref (r 0))] [.int y13800, .int x10854]
                  refine g_iadd hk dX12_cut_289 ?_
                  refine g_topi (fun y13806 ey13806 => ?_)
                  replace hF := FE.lt hF ey13806
                  have hy13806 : y13806.toInt = x10854.toInt + y13800.toInt := i32_add ey13806 rfl rfl (by omega) (by omega)
                  refine g_istore_n (lv' := [(1, .int y13806), (2, .int 0), (0, .ref (r 0))]) hk dX12_cut_290 (by decide) rfl ?_
                  refine g_goto (tgt := 7) hk dX12_cut_291 (by decide) ?_
                  exact g_lv (List.forall_mem_cons.mpr ⟨List.mem_of_getElem? (i := 0) rfl, (List.forall_mem_cons.mpr ⟨List.mem_of_getElem? (i := 2) rfl, (fun _ h => absurd h List.not_mem_nil)⟩)⟩) (ih13771 y13806 I13803 A13803 L13803 (show Md [3] (upd I 3 0) I13803 from Md.tr hI10856 (show Md [3] I10856 I13803 from (Md.tr Md.rf hI13803 rfl)) rfl) (show Md [2, 3, 4] A A13803 from Md.tr hA10856 (show Md [2, 3, 4] A10856 A13803 from (Md.tr Md.rf hA13803 rfl)) rfl) hV13803 (by omega) (by omega) (by omega) (by omega) hF)
                · skip
                  replace hF := FE.neg hF (fe_ne2 hC (by decide))
                  replace hF := FE.lt hF (fe_1 hC)
                  show GW κ 8 0 0 (wM r g I10856 A10856 L10856) 286 [(2, .int 0), (1, .int x10854), (0, .ref (r 0))] [.int y13797, .int 0, .int x10854, .ref (r 0), .int x10854]
                  refine g_callV (n := 3) hk (j121_X12_sign l D zt r g I10856 A10856 L10856 x10854 0 y13797 hV10856 (by omega) (by omega) (by omega)) (SP.same _) (fun _ h => h) (gi_V (List.mem_cons_of_mem _ (List.mem_append_left _ (List.mem_of_getElem? (i := 10) rfl))) (List.mem_cons_of_mem _ (List.mem_append_left _ (List.mem_of_getElem? (i := 11) rfl))) (List.mem_cons_of_mem _ (List.mem_append_left _ (List.mem_of_getElem? (i := 12) rfl))) (List.mem_cons_of_mem _ (List.mem_append_left _ (List.mem_of_getElem? (i := 4) rfl))) (gi_sub (fun w h => (List.mem_cons_of_mem _ (List.mem_append_right _ (List.mem_append_right _ (List.mem_append_right _ (List.mem_append_right _ (List.mem_append_right _ (List.mem_append_left _ h)))))))) zg_j121_X12_sign)) rfl rfl rfl (by decide +kernel) ⟨Nat.le_of_ble_eq_true rfl, Nat.le_of_ble_eq_true rfl⟩ 0 rfl rfl rfl rfl (Nat.le_of_ble_eq_true rfl) ⟨Nat.le_of_ble_eq_true rfl, Nat.le_of_ble_eq_true rfl⟩ dX12_cut_286 (fun v ty' w' hp hk' => ?_)
                  obtain ⟨I13810, A13810, L13810, hI13810, hA13810, hV13810, y13807, r13811, c13808, c13809, hC, rfl, rfl⟩ := hp
                  replace hF := FE.bdM hF hC
                  have f13812 := IvM_f3 hV13810
                  show GW κ 8 0 0 (wM r g I13810 A13810 L13810) 289 [(2, .int 0), (1, .int x10854), (0, .ref (r 0))] [.int y13807, .int x10854]
                  refine g_iadd hk dX12_cut_289 ?_
                  refine g_topi (fun y13813 ey13813 => ?_)
                  replace hF := FE.lt hF ey13813
                  have hy13813 : y13813.toInt = x10854.toInt + y13807.toInt := i32_add ey13813 rfl rfl (by omega) (by omega)
                  refine g_istore_n (lv' := [(1, .int y13813), (2, .int 0), (0, .ref (r 0))]) hk dX12_cut_290 (by decide) rfl ?_
                  refine g_goto (tgt := 7) hk dX12_cut_291 (by decide) ?_
                  exact g_lv (List.forall_mem_cons.mpr ⟨List.mem_of_getElem? (i := 0) rfl, (List.forall_mem_cons.mpr ⟨List.mem_of_getElem? (i := 2) rfl, (fun _ h => absurd h List.not_mem_nil)⟩)⟩) (ih13771 y13813 I13810 A13810 L13810 (show Md [3] (upd I 3 0) I13810 from Md.tr hI10856 (show Md [3] I10856 I13810 from (Md.tr Md.rf hI13810 rfl)) rfl) (show Md [2, 3, 4] A A13810 from Md.tr hA10856 (show Md [2, 3, 4] A10856 A13810 from (Md.tr Md.rf hA13810 rfl)) rfl) hV13810 (by omega) (by omega) (by omega) (by omega) hF)
              · skip
                replace hF := FE.neg hF (fe_ne hC (by decide))
                show GW κ 8 0 0 (wM r g I10856 A10856 L10856) 200 [(2, .int 0), (1, .int x10854), (0, .ref (r 0))] [.int 1]
                exfalso; omega
            · skip
              replace hF := FE.neg hF (fe_ne hC (by decide))
              show GW κ 8 0 0 (wM r g I10856 A10856 L10856) 77 [(2, .int 0), (1, .int x10854), (0, .ref (r 0))] [.int 1]
              exfalso; omega
          · skip
            replace hF := FE.neg hF c13780
            refine g_aload_n hk dX12_cut_31 rfl ?_
            refine g_iconst (v := 0) hk dX12_cut_32 (by decide) ?_
            refine g_aload_n hk dX12_cut_33 rfl ?_
            refine gM_i2 (v := (I 2)) hk hin12 (List.mem_cons_of_mem _ (List.mem_append_left _ (List.mem_of_getElem? (i := 5) rfl))) dX12_cut_34 (hI10856 2 rfl) ?_
            refine g_iconst (v := 0) hk dX12_cut_37 (by decide) ?_
            refine g_lconst (v := 0) hk dX12_cut_38 (by decide) ?_
            have k13814 : (0 : Int32).toInt = 0 := rfl
            refine g_callV (n := 4) hk (j122_X12_token l D zt r g I10856 A10856 L10856 0 (I 2) 0 0 hV10856 (by omega)) (SP.same _) (fun _ h => h) (gi_V (List.mem_cons_of_mem _ (List.mem_append_left _ (List.mem_of_getElem? (i := 13) rfl))) (List.mem_cons_of_mem _ (List.mem_append_left _ (List.mem_of_getElem? (i := 14) rfl))) (List.mem_cons_of_mem _ (List.mem_append_left _ (List.mem_of_getElem? (i := 15) rfl))) (List.mem_cons_of_mem _ (List.mem_append_left _ (List.mem_of_getElem? (i := 4) rfl))) (gi_sub (fun w h => (List.mem_cons_of_mem _ (List.mem_append_right _ (List.mem_append_right _ (List.mem_append_right _ (List.mem_append_right _ (List.mem_append_right _ (List.mem_append_right _ (List.mem_append_left _ h))))))))) zg_j122_X12_token)) rfl rfl rfl (by decide +kernel) ⟨Nat.le_of_ble_eq_true rfl, Nat.le_of_ble_eq_true rfl⟩ 0 rfl rfl rfl rfl (Nat.le_of_ble_eq_true rfl) ⟨Nat.le_of_ble_eq_true rfl, Nat.le_of_ble_eq_true rfl⟩ dX12_cut_39 (fun v ty' w' hp hk' => ?_)
            obtain ⟨I13816, A13816, L13816, hI13816, hA13816, hV13816, r13817, hC, rfl, rfl⟩ := hp
            replace hF := FE.bdM hF hC
            have f13818 := IvM_f3 hV13816
            show GW κ 8 0 0 (wM r g I13816 A13816 L13816) 42 [(2, .int 0), (1, .int x10854), (0, .ref (r 0))] []
            exact g_vret hk hR ⟨I13816, A13816, L13816, (show Md [3] I I13816 from (Md.tr (Md.tr (Md.up Md.rf rfl) hI10856 rfl) hI13816 rfl)), (show Md [2, 3, 4] A A13816 from (Md.tr (Md.tr Md.rf hA10856 rfl) hA13816 rfl)), hV13816, hF, rfl, rfl⟩ dX12_cut_42
        · skip
          replace hF := FE.neg hF (fe_ne2 hC (by decide))
          replace hF := FE.lt hF (fe_1 hC)
          show GW κ 8 0 0 (wM r g I10856 A10856 L10856) 22 [(1, .int x10854), (0, .ref (r 0))] [.int y13776]
          refine g_istore_n (lv' := [(2, .int y13776), (1, .int x10854), (0, .ref (r 0))]) hk dX12_cut_22 (by decide) rfl ?_
          refine g_iload_n hk dX12_cut_23 rfl ?_
          refine g_aload_n hk dX12_cut_24 rfl ?_
          refine gM_i2 (v := (I 2)) hk hin12 (List.mem_cons_of_mem _ (List.mem_append_left _ (List.mem_of_getElem? (i := 5) rfl))) dX12_cut_25 (hI10856 2 rfl) ?_
          have f13819 := IvM_f2 hIv
          refine g_icmp_lt (tgt := 43) (a := x10854.toInt) (b := (I 2).toInt) hk dX12_cut_28 (by decide) rfl rfl (fun c13820 => ?_) (fun c13820 => ?_)
          · skip
            replace hF := FE.pos hF c13820
            refine g_iload_n hk dX12_cut_43 rfl ?_
            refine g_bipush (v := 9) hk dX12_cut_44 (by decide) ?_
            refine g_icmp_eq (tgt := 67) (a := y13776.toInt) (b := 9) hk dX12_cut_46 (by decide) rfl rfl (fun c13821 => ?_) (fun c13821 => ?_)
            · skip
              replace hF := FE.pos hF c13821
              obtain ⟨y13822, ey13822⟩ : ∃ y : Int32, y = x10854 + Int32.ofInt 1 := ⟨_, rfl⟩
              replace hF := FE.lt hF ey13822
              have hy13822 : y13822.toInt = x10854.toInt + 1 := i32_add ey13822 rfl (by decide) (by omega) (by omega)
              refine g_iinc (v := y13822) (lv' := [(1, .int y13822), (2, .int y13776), (0, .ref (r 0))]) hk 1 dX12_cut_67 rfl ey13822.symm (by decide) rfl ?_
              refine g_goto (tgt := 291) hk dX12_cut_70 (by decide) ?_
              refine g_goto (tgt := 7) hk dX12_cut_291 (by decide) ?_
              exact g_lv (List.forall_mem_cons.mpr ⟨List.mem_of_getElem? (i := 0) rfl, (List.forall_mem_cons.mpr ⟨List.mem_of_getElem? (i := 2) rfl, (fun _ h => absurd h List.not_mem_nil)⟩)⟩) (ih13771 y13822 I10856 A10856 L10856 (show Md [3] (upd I 3 0) I10856 from Md.tr hI10856 (show Md [3] I10856 I10856 from Md.rf) rfl) (show Md [2, 3, 4] A A10856 from Md.tr hA10856 (show Md [2, 3, 4] A10856 A10856 from Md.rf) rfl) hV10856 (by omega) (by omega) (by omega) (by omega) hF)
            · skip
              replace hF := FE.neg hF c13821
              refine g_iload_n hk dX12_cut_49 rfl ?_
              refine g_bipush (v := 10) hk dX12_cut_50 (by decide) ?_
              refine g_icmp_eq (tgt := 67) (a := y13776.toInt) (b := 10) hk dX12_cut_52 (by decide) rfl rfl (fun c13823 => ?_) (fun c13823 => ?_)
              · skip
                replace hF := FE.pos hF c13823
                obtain ⟨y13824, ey13824⟩ : ∃ y : Int32, y = x10854 + Int32.ofInt 1 := ⟨_, rfl⟩
                replace hF := FE.lt hF ey13824
                have hy13824 : y13824.toInt = x10854.toInt + 1 := i32_add ey13824 rfl (by decide) (by omega) (by omega)
                refine g_iinc (v := y13824) (lv' := [(1, .int y13824), (2, .int y13776), (0, .ref (r 0))]) hk 1 dX12_cut_67 rfl ey13824.symm (by decide) rfl ?_
                refine g_goto (tgt := 291) hk dX12_cut_70 (by decide) ?_
                refine g_goto (tgt := 7) hk dX12_cut_291 (by decide) ?_
                exact g_lv (List.forall_mem_cons.mpr ⟨List.mem_of_getElem? (i := 0) rfl, (List.forall_mem_cons.mpr ⟨List.mem_of_getElem? (i := 2) rfl, (fun _ h => absurd h List.not_mem_nil)⟩)⟩) (ih13771 y13824 I10856 A10856 L10856 (show Md [3] (upd I 3 0) I10856 from Md.tr hI10856 (show Md [3] I10856 I10856 from Md.rf) rfl) (show Md [2, 3, 4] A A10856 from Md.tr hA10856 (show Md [2, 3, 4] A10856 A10856 from Md.rf) rfl) hV10856 (by omega) (by omega) (by omega) (by omega) hF)
              · skip
                replace hF := FE.neg hF c13823
                refine g_iload_n hk dX12_cut_55 rfl ?_
                refine g_bipush (v := 13) hk dX12_cut_56 (by decide) ?_
                refine g_icmp_eq (tgt := 67) (a := y13776.toInt) (b := 13) hk dX12_cut_58 (by decide) rfl rfl (fun c13825 => ?_) (fun c13825 => ?_)
                · skip
                  replace hF := FE.pos hF c13825
                  obtain ⟨y13826, ey13826⟩ : ∃ y : Int32, y = x10854 + Int32.ofInt 1 := ⟨_, rfl⟩
                  replace hF := FE.lt hF ey13826
                  have hy13826 : y13826.toInt = x10854.toInt + 1 := i32_add ey13826 rfl (by decide) (by omega) (by omega)
                  refine g_iinc (v := y13826) (lv' := [(1, .int y13826), (2, .int y13776), (0, .ref (r 0))]) hk 1 dX12_cut_67 rfl ey13826.symm (by decide) rfl ?_
                  refine g_goto (tgt := 291) hk dX12_cut_70 (by decide) ?_
                  refine g_goto (tgt := 7) hk dX12_cut_291 (by decide) ?_
                  exact g_lv (List.forall_mem_cons.mpr ⟨List.mem_of_getElem? (i := 0) rfl, (List.forall_mem_cons.mpr ⟨List.mem_of_getElem? (i := 2) rfl, (fun _ h => absurd h List.not_mem_nil)⟩)⟩) (ih13771 y13826 I10856 A10856 L10856 (show Md [3] (upd I 3 0) I10856 from Md.tr hI10856 (show Md [3] I10856 I10856 from Md.rf) rfl) (show Md [2, 3, 4] A A10856 from Md.tr hA10856 (show Md [2, 3, 4] A10856 A10856 from Md.rf) rfl) hV10856 (by omega) (by omega) (by omega) (by omega) hF)
                · skip
                  replace hF := FE.neg hF c13825
                  refine g_iload_n hk dX12_cut_61 rfl ?_
                  refine g_bipush (v := 32) hk dX12_cut_62 (by decide) ?_
                  refine g_icmp_ne (tgt := 73) (a := y13776.toInt) (b := 32) hk dX12_cut_64 (by decide) rfl rfl (fun c13827 => ?_) (fun c13827 => ?_)
                  · skip
                    replace hF := FE.pos hF c13827
                    refine g_iload_n hk dX12_cut_73 rfl ?_
                    refine g_callS (n := 1) hk (j119_X12_isLetter l D zt r g I10856 A10856 L10856 y13776 hV10856) (SP.same _) (fun _ h => h) (gi_S (List.mem_cons_of_mem _ (List.mem_append_left _ (List.mem_of_getElem? (i := 6) rfl))) (List.mem_cons_of_mem _ (List.mem_append_left _ (List.mem_of_getElem? (i := 7) rfl))) (List.mem_cons_of_mem _ (List.mem_append_left _ (List.mem_of_getElem? (i := 4) rfl))) (gi_sub (fun w h => (List.mem_cons_of_mem _ (List.mem_append_right _ (List.mem_append_right _ (List.mem_append_right _ (List.mem_append_left _ h)))))) zg_j119_X12_isLetter)) rfl rfl rfl (by decide +kernel) ⟨Nat.le_of_ble_eq_true rfl, Nat.le_of_ble_eq_true rfl⟩ rfl rfl (Nat.le_of_ble_eq_true rfl) ⟨Nat.le_of_ble_eq_true rfl, Nat.le_of_ble_eq_true rfl⟩ dX12_cut_74 (fun v ty' w' hp hk' => ?_)
                    rcases hp with ⟨hC, rfl, rfl⟩ | ⟨c13829, c13830, c13831, c13832, hC, rfl, rfl⟩
                    · skip
                      replace hF := FE.pos hF hC
                      show GW κ 8 0 0 (wM r g I10856 A10856 L10856) 77 [(2, .int y13776), (1, .int x10854), (0, .ref (r 0))] [.int 0]
                      refine g_if_eq (tgt := 196) (a := 0) hk dX12_cut_77 (by decide) rfl (fun _ => ?_) (fun z9 => absurd (show (0 : Int) = (0 : Int) from by decide) z9)
                      refine g_iload_n hk dX12_cut_196 rfl ?_
                      refine g_callS (n := 1) hk (j120_X12_isDigit l D zt r g I10856 A10856 L10856 y13776 hV10856) (SP.same _) (fun _ h => h) (gi_S (List.mem_cons_of_mem _ (List.mem_append_left _ (List.mem_of_getElem? (i := 8) rfl))) (List.mem_cons_of_mem _ (List.mem_append_left _ (List.mem_of_getElem? (i := 9) rfl))) (List.mem_cons_of_mem _ (List.mem_append_left _ (List.mem_of_getElem? (i := 4) rfl))) (gi_sub (fun w h => (List.mem_cons_of_mem _ (List.mem_append_right _ (List.mem_append_right _ (List.mem_append_right _ (List.mem_append_right _ (List.mem_append_left _ h))))))) zg_j120_X12_isDigit)) rfl rfl rfl (by decide +kernel) ⟨Nat.le_of_ble_eq_true rfl, Nat.le_of_ble_eq_true rfl⟩ rfl rfl (Nat.le_of_ble_eq_true rfl) ⟨Nat.le_of_ble_eq_true rfl, Nat.le_of_ble_eq_true rfl⟩ dX12_cut_197 (fun v ty' w' hp hk' => ?_)
                      rcases hp with ⟨hC, rfl, rfl⟩ | ⟨c13835, c13836, c13837, c13838, hC, rfl, rfl⟩
                      · skip
                        replace hF := FE.pos hF hC
                        show GW κ 8 0 0 (wM r g I10856 A10856 L10856) 200 [(2, .int y13776), (1, .int x10854), (0, .ref (r 0))] [.int 0]
                        refine g_if_eq (tgt := 275) (a := 0) hk dX12_cut_200 (by decide) rfl (fun _ => ?_) (fun z9 => absurd (show (0 : Int) = (0 : Int) from by decide) z9)
                        refine g_iload_n hk dX12_cut_275 rfl ?_
                        refine g_aload_n hk dX12_cut_276 rfl ?_
                        refine g_iload_n hk dX12_cut_277 rfl ?_
                        refine g_iload_n hk dX12_cut_278 rfl ?_
                        refine g_aload_n hk dX12_cut_279 rfl ?_
                        refine g_iload_n hk dX12_cut_280 rfl ?_
                        refine g_iconst (v := 1) hk dX12_cut_281 (by decide) ?_
                        refine g_iadd hk dX12_cut_282 ?_
                        refine g_topi (fun y13840 ey13840 => ?_)
                        replace hF := FE.lt hF ey13840
                        have hy13840 : y13840.toInt = x10854.toInt + 1 := i32_add ey13840 rfl rfl (by omega) (by omega)
                        refine g_callV (n := 1) hk (j118_X12_byteAt l D zt r g I10856 A10856 L10856 y13840 hV10856 (by omega)) (SP.same _) (fun _ h => h) (gi_V (List.mem_cons_of_mem _ (List.mem_append_left _ (List.mem_of_getElem? (i := 1) rfl))) (List.mem_cons_of_mem _ (List.mem_append_left _ (List.mem_of_getElem? (i := 2) rfl))) (List.mem_cons_of_mem _ (List.mem_append_left _ (List.mem_of_getElem? (i := 3) rfl))) (List.mem_cons_of_mem _ (List.mem_append_left _ (List.mem_of_getElem? (i := 4) rfl))) (gi_sub (fun w h => (List.mem_cons_of_mem _ (List.mem_append_right _ (List.mem_append_right _ (List.mem_append_left _ h))))) zg_j118_X12_byteAt)) rfl rfl rfl (by decide +kernel) ⟨Nat.le_of_ble_eq_true rfl, Nat.le_of_ble_eq_true rfl⟩ 0 rfl rfl rfl rfl (Nat.le_of_ble_eq_true rfl) ⟨Nat.le_of_ble_eq_true rfl, Nat.le_of_ble_eq_true rfl⟩ dX12_cut_283 (fun v ty' w' hp hk' => ?_)
                        rcases hp with ⟨hC, rfl, rfl⟩ | ⟨y13843, c13842, c13844, c13845, hC, rfl, rfl⟩
                        · skip
                          replace hF := FE.pos hF (fe_2 hC)
                          show GW κ 8 0 0 (wM r g I10856 A10856 L10856) 286 [(2, .int y13776), (1, .int x10854), (0, .ref (r 0))] [.int 0, .int y13776, .int x10854, .ref (r 0), .int x10854]
                          have k13846 : (0 : Int32).toInt = 0 := rfl
                          refine g_callV (n := 3) hk (j121_X12_sign l D zt r g I10856 A10856 L10856 x10854 y13776 0 hV10856 (by omega) (by omega) (by omega)) (SP.same _) (fun _ h => h) (gi_V (List.mem_cons_of_mem _ (List.mem_append_left _ (List.mem_of_getElem? (i := 10) rfl))) (List.mem_cons_of_mem _ (List.mem_append_left _ (List.mem_of_getElem? (i := 11) rfl))) (List.mem_cons_of_mem _ (List.mem_append_left _ (List.mem_of_getElem? (i := 12) rfl))) (List.mem_cons_of_mem _ (List.mem_append_left _ (List.mem_of_getElem? (i := 4) rfl))) (gi_sub (fun w h => (List.mem_cons_of_mem _ (List.mem_append_right _ (List.mem_append_right _ (List.mem_append_right _ (List.mem_append_right _ (List.mem_append_right _ (List.mem_append_left _ h)))))))) zg_j121_X12_sign)) rfl rfl rfl (by decide +kernel) ⟨Nat.le_of_ble_eq_true rfl, Nat.le_of_ble_eq_true rfl⟩ 0 rfl rfl rfl rfl (Nat.le_of_ble_eq_true rfl) ⟨Nat.le_of_ble_eq_true rfl, Nat.le_of_ble_eq_true rfl⟩ dX12_cut_286 (fun v ty' w' hp hk' => ?_)
                          obtain ⟨I13850, A13850, L13850, hI13850, hA13850, hV13850, y13847, r13851, c13848, c13849, hC, rfl, rfl⟩ := hp
                          replace hF := FE.bdM hF hC
                          have f13852 := IvM_f3 hV13850
                          show GW κ 8 0 0 (wM r g I13850 A13850 L13850) 289 [(2, .int y13776), (1, .int x10854), (0, .ref (r 0))] [.int y13847, .int x10854]
                          refine g_iadd hk dX12_cut_289 ?_
                          refine g_topi (fun y13853 ey13853 => ?_)
                          replace hF := FE.lt hF ey13853
                          have hy13853 : y13853.toInt = x10854.toInt + y13847.toInt := i32_add ey13853 rfl rfl (by omega) (by omega)
                          refine g_istore_n (lv' := [(1, .int y13853), (2, .int y13776), (0, .ref (r 0))]) hk dX12_cut_290 (by decide) rfl ?_
                          refine g_goto (tgt := 7) hk dX12_cut_291 (by decide) ?_
                          exact g_lv (List.forall_mem_cons.mpr ⟨List.mem_of_getElem? (i := 0) rfl, (List.forall_mem_cons.mpr ⟨List.mem_of_getElem? (i := 2) rfl, (fun _ h => absurd h List.not_mem_nil)⟩)⟩) (ih13771 y13853 I13850 A13850 L13850 (show Md [3] (upd I 3 0) I13850 from Md.tr hI10856 (show Md [3] I10856 I13850 from (Md.tr Md.rf hI13850 rfl)) rfl) (show Md [2, 3, 4] A A13850 from Md.tr hA10856 (show Md [2, 3, 4] A10856 A13850 from (Md.tr Md.rf hA13850 rfl)) rfl) hV13850 (by omega) (by omega) (by omega) (by omega) hF)
                        · skip
                          replace hF := FE.neg hF (fe_ne2 hC (by decide))
                          replace hF := FE.lt hF (fe_1 hC)
                          show GW κ 8 0 0 (wM r g I10856 A10856 L10856) 286 [(2, .int y13776), (1, .int x10854), (0, .ref (r 0))] [.int y13843, .int y13776, .int x10854, .ref (r 0), .int x10854]
                          refine g_callV (n := 3) hk (j121_X12_sign l D zt r g I10856 A10856 L10856 x10854 y13776 y13843 hV10856 (by omega) (by omega) (by omega)) (SP.same _) (fun _ h => h) (gi_V (List.mem_cons_of_mem _ (List.mem_append_left _ (List.mem_of_getElem? (i := 10) rfl))) (List.mem_cons_of_mem _ (List.mem_append_left _ (List.mem_of_getElem? (i := 11) rfl))) (List.mem_cons_of_mem _ (List.mem_append_left _ (List.mem_of_getElem? (i := 12) rfl))) (List.mem_cons_of_mem _ (List.mem_append_left _ (List.mem_of_getElem? (i := 4) rfl))) (gi_sub (fun w h => (List.mem_cons_of_mem _ (List.mem_append_right _ (List.mem_append_right _ (List.mem_append_right _ (List.mem_append_right _ (List.mem_append_right _ (List.mem_append_left _ h)))))))) zg_j121_X12_sign)) rfl rfl rfl (by decide +kernel) ⟨Nat.le_of_ble_eq_true rfl, Nat.le_of_ble_eq_true rfl⟩ 0 rfl rfl rfl rfl (Nat.le_of_ble_eq_true rfl) ⟨Nat.le_of_ble_eq_true rfl, Nat.le_of_ble_eq_true rfl⟩ dX12_cut_286 (fun v ty' w' hp hk' => ?_)
                          obtain ⟨I13857, A13857, L13857, hI13857, hA13857, hV13857, y13854, r13858, c13855, c13856, hC, rfl, rfl⟩ := hp
                          replace hF := FE.bdM hF hC
                          have f13859 := IvM_f3 hV13857
                          show GW κ 8 0 0 (wM r g I13857 A13857 L13857) 289 [(2, .int y13776), (1, .int x10854), (0, .ref (r 0))] [.int y13854, .int x10854]
                          refine g_iadd hk dX12_cut_289 ?_
                          refine g_topi (fun y13860 ey13860 => ?_)
                          replace hF := FE.lt hF ey13860
                          have hy13860 : y13860.toInt = x10854.toInt + y13854.toInt := i32_add ey13860 rfl rfl (by omega) (by omega)
                          refine g_istore_n (lv' := [(1, .int y13860), (2, .int y13776), (0, .ref (r 0))]) hk dX12_cut_290 (by decide) rfl ?_
                          refine g_goto (tgt := 7) hk dX12_cut_291 (by decide) ?_
                          exact g_lv (List.forall_mem_cons.mpr ⟨List.mem_of_getElem? (i := 0) rfl, (List.forall_mem_cons.mpr ⟨List.mem_of_getElem? (i := 2) rfl, (fun _ h => absurd h List.not_mem_nil)⟩)⟩) (ih13771 y13860 I13857 A13857 L13857 (show Md [3] (upd I 3 0) I13857 from Md.tr hI10856 (show Md [3] I10856 I13857 from (Md.tr Md.rf hI13857 rfl)) rfl) (show Md [2, 3, 4] A A13857 from Md.tr hA10856 (show Md [2, 3, 4] A10856 A13857 from (Md.tr Md.rf hA13857 rfl)) rfl) hV13857 (by omega) (by omega) (by omega) (by omega) hF)
                      · skip
                        replace hF := FE.neg hF (fe_ne hC (by decide))
                        show GW κ 8 0 0 (wM r g I10856 A10856 L10856) 200 [(2, .int y13776), (1, .int x10854), (0, .ref (r 0))] [.int 1]
                        refine g_if_eq (tgt := 275) (a := 1) hk dX12_cut_200 (by decide) rfl (fun z9 => absurd z9 (show ¬ ((1 : Int) = (0 : Int)) from by decide)) (fun _ => ?_)
                        refine g_iconst (v := 0) hk dX12_cut_203 (by decide) ?_
                        refine g_istore_n (lv' := [(3, .int 0), (2, .int y13776), (1, .int x10854), (0, .ref (r 0))]) hk dX12_cut_204 (by decide) rfl ?_
                        refine g_iconst (v := 0) hk dX12_cut_205 (by decide) ?_
                        refine g_istore (lv' := [(4, .int 0), (3, .int 0), (2, .int y13776), (1, .int x10854), (0, .ref (r 0))]) hk dX12_cut_206 (by decide) rfl ?_
                        have lp14418 : ∀ (n14419 : Nat) (x13861 : Int32) (x13862 : Int32), (0 ≤ x13862.toInt) → (x13862.toInt ≤ 2000) → (x10854.toInt + x13862.toInt ≤ 2000) → (2001 - x10854.toInt - x13862.toInt < (n14419 : Int)) → (0 < n14419) → (FE (fM12_cut I A L) (itr_ii dfM (bM12_cut_208 x10854 I10856 A10856 L10856 (itr_iIAL dfM (bM12_cut_7 I) n13768)) n14419 x13861 x13862)) → GW κ 8 0 0 (wM r g I10856 A10856 L10856) 208 [(4, .int x13861), (3, .int x13862), (2, .int y13776), (1, .int x10854), (0, .ref (r 0))] [] := by
                          intro n14419
                          induction n14419 with
                          | zero =>
                            intro x13861 x13862 h14415 h14416 h14417 m14420 m14420z hF
                            exact absurd m14420z (Nat.lt_irrefl 0)
                          | succ n14419 ih14422 =>
                            intro x13861 x13862 h14415 h14416 h14417 m14420 m14420z hF
                            replace hF := FE.itr_ii hF
                            refine g_aload_n hk dX12_cut_208 rfl ?_
                            refine g_iload_n hk dX12_cut_209 rfl ?_
                            refine g_iload_n hk dX12_cut_210 rfl ?_
                            refine g_iadd hk dX12_cut_211 ?_
                            refine g_topi (fun y14423 ey14423 => ?_)
                            replace hF := FE.lt hF ey14423
                            have hy14423 : y14423.toInt = x10854.toInt + x13862.toInt := i32_add ey14423 rfl rfl (by omega) (by omega)
                            refine g_callV (n := 1) hk (j118_X12_byteAt l D zt r g I10856 A10856 L10856 y14423 hV10856 (by omega)) (SP.same _) (fun _ h => h) (gi_V (List.mem_cons_of_mem _ (List.mem_append_left _ (List.mem_of_getElem? (i := 1) rfl))) (List.mem_cons_of_mem _ (List.mem_append_left _ (List.mem_of_getElem? (i := 2) rfl))) (List.mem_cons_of_mem _ (List.mem_append_left _ (List.mem_of_getElem? (i := 3) rfl))) (List.mem_cons_of_mem _ (List.mem_append_left _ (List.mem_of_getElem? (i := 4) rfl))) (gi_sub (fun w h => (List.mem_cons_of_mem _ (List.mem_append_right _ (List.mem_append_right _ (List.mem_append_left _ h))))) zg_j118_X12_byteAt)) rfl rfl rfl (by decide +kernel) ⟨Nat.le_of_ble_eq_true rfl, Nat.le_of_ble_eq_true rfl⟩ 0 rfl rfl rfl rfl (Nat.le_of_ble_eq_true rfl) ⟨Nat.le_of_ble_eq_true rfl, Nat.le_of_ble_eq_true rfl⟩ dX12_cut_212 (fun v ty' w' hp hk' => ?_)
                            rcases hp with ⟨hC, rfl, rfl⟩ | ⟨y14426, c14425, c14427, c14428, hC, rfl, rfl⟩
                            · skip
                              replace hF := FE.pos hF (fe_2 hC)
                              show GW κ 8 0 0 (wM r g I10856 A10856 L10856) 215 [(4, .int x13861), (3, .int x13862), (2, .int y13776), (1, .int x10854), (0, .ref (r 0))] [.int 0]
                              have k14429 : (0 : Int32).toInt = 0 := rfl
                              refine g_callS (n := 1) hk (j120_X12_isDigit l D zt r g I10856 A10856 L10856 0 hV10856) (SP.same _) (fun _ h => h) (gi_S (List.mem_cons_of_mem _ (List.mem_append_left _ (List.mem_of_getElem? (i := 8) rfl))) (List.mem_cons_of_mem _ (List.mem_append_left _ (List.mem_of_getElem? (i := 9) rfl))) (List.mem_cons_of_mem _ (List.mem_append_left _ (List.mem_of_getElem? (i := 4) rfl))) (gi_sub (fun w h => (List.mem_cons_of_mem _ (List.mem_append_right _ (List.mem_append_right _ (List.mem_append_right _ (List.mem_append_right _ (List.mem_append_left _ h))))))) zg_j120_X12_isDigit)) rfl rfl rfl (by decide +kernel) ⟨Nat.le_of_ble_eq_true rfl, Nat.le_of_ble_eq_true rfl⟩ rfl rfl (Nat.le_of_ble_eq_true rfl) ⟨Nat.le_of_ble_eq_true rfl, Nat.le_of_ble_eq_true rfl⟩ dX12_cut_215 (fun v ty' w' hp hk' => ?_)
                              rcases hp with ⟨hC, rfl, rfl⟩ | ⟨c14431, c14432, c14433, c14434, hC, rfl, rfl⟩
                              · skip
                                replace hF := FE.pos hF hC
                                show GW κ 8 0 0 (wM r g I10856 A10856 L10856) 218 [(4, .int x13861), (3, .int x13862), (2, .int y13776), (1, .int x10854), (0, .ref (r 0))] [.int 0]
                                refine g_if_eq (tgt := 250) (a := 0) hk dX12_cut_218 (by decide) rfl (fun _ => ?_) (fun z9 => absurd (show (0 : Int) = (0 : Int) from by decide) z9)
                                refine g_aload_n hk dX12_cut_250 rfl ?_
                                refine g_iload_n hk dX12_cut_251 rfl ?_
                                refine g_iconst (v := 4) hk dX12_cut_252 (by decide) ?_
                                refine g_icmp_le (tgt := 260) (a := x13862.toInt) (b := 4) hk dX12_cut_253 (by decide) rfl rfl (fun c14436 => ?_) (fun c14436 => ?_)
                                · skip
                                  replace hF := FE.pos hF c14436
                                  refine g_iconst (v := 2) hk dX12_cut_260 (by decide) ?_
                                  refine g_iload_n hk dX12_cut_261 rfl ?_
                                  refine g_iload hk dX12_cut_262 rfl ?_
                                  refine g_lconst (v := 0) hk dX12_cut_264 (by decide) ?_
                                  have k14437 : (2 : Int32).toInt = 2 := rfl
                                  refine g_callV (n := 4) hk (j122_X12_token l D zt r g I10856 A10856 L10856 2 x10854 x13861 0 hV10856 (by omega)) (SP.same _) (fun _ h => h) (gi_V (List.mem_cons_of_mem _ (List.mem_append_left _ (List.mem_of_getElem? (i := 13) rfl))) (List.mem_cons_of_mem _ (List.mem_append_left _ (List.mem_of_getElem? (i := 14) rfl))) (List.mem_cons_of_mem _ (List.mem_append_left _ (List.mem_of_getElem? (i := 15) rfl))) (List.mem_cons_of_mem _ (List.mem_append_left _ (List.mem_of_getElem? (i := 4) rfl))) (gi_sub (fun w h => (List.mem_cons_of_mem _ (List.mem_append_right _ (List.mem_append_right _ (List.mem_append_right _ (List.mem_append_right _ (List.mem_append_right _ (List.mem_append_right _ (List.mem_append_left _ h))))))))) zg_j122_X12_token)) rfl rfl rfl (by decide +kernel) ⟨Nat.le_of_ble_eq_true rfl, Nat.le_of_ble_eq_true rfl⟩ 0 rfl rfl rfl rfl (Nat.le_of_ble_eq_true rfl) ⟨Nat.le_of_ble_eq_true rfl, Nat.le_of_ble_eq_true rfl⟩ dX12_cut_265 (fun v ty' w' hp hk' => ?_)
                                  obtain ⟨I14439, A14439, L14439, hI14439, hA14439, hV14439, r14440, hC, rfl, rfl⟩ := hp
                                  replace hF := FE.bdM hF hC
                                  have f14441 := IvM_f3 hV14439
                                  show GW κ 8 0 0 (wM r g I14439 A14439 L14439) 268 [(4, .int x13861), (3, .int x13862), (2, .int y13776), (1, .int x10854), (0, .ref (r 0))] []
                                  refine g_iload_n hk dX12_cut_268 rfl ?_
                                  refine g_iload_n hk dX12_cut_269 rfl ?_
                                  refine g_iadd hk dX12_cut_270 ?_
                                  refine g_topi (fun y14442 ey14442 => ?_)
                                  replace hF := FE.lt hF ey14442
                                  have hy14442 : y14442.toInt = x10854.toInt + x13862.toInt := i32_add ey14442 rfl rfl (by omega) (by omega)
                                  refine g_istore_n (lv' := [(1, .int y14442), (4, .int x13861), (3, .int x13862), (2, .int y13776), (0, .ref (r 0))]) hk dX12_cut_271 (by decide) rfl ?_
                                  refine g_goto (tgt := 291) hk dX12_cut_272 (by decide) ?_
                                  refine g_goto (tgt := 7) hk dX12_cut_291 (by decide) ?_
                                  exact g_lv (List.forall_mem_cons.mpr ⟨List.mem_of_getElem? (i := 0) rfl, (List.forall_mem_cons.mpr ⟨List.mem_of_getElem? (i := 4) rfl, (fun _ h => absurd h List.not_mem_nil)⟩)⟩) (ih13771 y14442 I14439 A14439 L14439 (show Md [3] (upd I 3 0) I14439 from Md.tr hI10856 (show Md [3] I10856 I14439 from (Md.tr Md.rf hI14439 rfl)) rfl) (show Md [2, 3, 4] A A14439 from Md.tr hA10856 (show Md [2, 3, 4] A10856 A14439 from (Md.tr Md.rf hA14439 rfl)) rfl) hV14439 (by omega) (by omega) (by omega) (by omega) hF)
                                · skip
                                  replace hF := FE.neg hF c14436
                                  refine g_iconst (v := 3) hk dX12_cut_256 (by decide) ?_
                                  refine g_goto (tgt := 261) hk dX12_cut_257 (by decide) ?_
                                  refine g_iload_n hk dX12_cut_261 rfl ?_
                                  refine g_iload hk dX12_cut_262 rfl ?_
                                  refine g_lconst (v := 0) hk dX12_cut_264 (by decide) ?_
                                  have k14443 : (3 : Int32).toInt = 3 := rfl
                                  refine g_callV (n := 4) hk (j122_X12_token l D zt r g I10856 A10856 L10856 3 x10854 x13861 0 hV10856 (by omega)) (SP.same _) (fun _ h => h) (gi_V (List.mem_cons_of_mem _ (List.mem_append_left _ (List.mem_of_getElem? (i := 13) rfl))) (List.mem_cons_of_mem _ (List.mem_append_left _ (List.mem_of_getElem? (i := 14) rfl))) (List.mem_cons_of_mem _ (List.mem_append_left _ (List.mem_of_getElem? (i := 15) rfl))) (List.mem_cons_of_mem _ (List.mem_append_left _ (List.mem_of_getElem? (i := 4) rfl))) (gi_sub (fun w h => (List.mem_cons_of_mem _ (List.mem_append_right _ (List.mem_append_right _ (List.mem_append_right _ (List.mem_append_right _ (List.mem_append_right _ (List.mem_append_right _ (List.mem_append_left _ h))))))))) zg_j122_X12_token)) rfl rfl rfl (by decide +kernel) ⟨Nat.le_of_ble_eq_true rfl, Nat.le_of_ble_eq_true rfl⟩ 0 rfl rfl rfl rfl (Nat.le_of_ble_eq_true rfl) ⟨Nat.le_of_ble_eq_true rfl, Nat.le_of_ble_eq_true rfl⟩ dX12_cut_265 (fun v ty' w' hp hk' => ?_)
                                  obtain ⟨I14445, A14445, L14445, hI14445, hA14445, hV14445, r14446, hC, rfl, rfl⟩ := hp
                                  replace hF := FE.bdM hF hC
                                  have f14447 := IvM_f3 hV14445
                                  show GW κ 8 0 0 (wM r g I14445 A14445 L14445) 268 [(4, .int x13861), (3, .int x13862), (2, .int y13776), (1, .int x10854), (0, .ref (r 0))] []
                                  refine g_iload_n hk dX12_cut_268 rfl ?_
                                  refine g_iload_n hk dX12_cut_269 rfl ?_
                                  refine g_iadd hk dX12_cut_270 ?_
                                  refine g_topi (fun y14448 ey14448 => ?_)
                                  replace hF := FE.lt hF ey14448
                                  have hy14448 : y14448.toInt = x10854.toInt + x13862.toInt := i32_add ey14448 rfl rfl (by omega) (by omega)
                                  refine g_istore_n (lv' := [(1, .int y14448), (4, .int x13861), (3, .int x13862), (2, .int y13776), (0, .ref (r 0))]) hk dX12_cut_271 (by decide) rfl ?_
                                  refine g_goto (tgt := 291) hk dX12_cut_272 (by decide) ?_
                                  refine g_goto (tgt := 7) hk dX12_cut_291 (by decide) ?_
                                  exact g_lv (List.forall_mem_cons.mpr ⟨List.mem_of_getElem? (i := 0) rfl, (List.forall_mem_cons.mpr ⟨List.mem_of_getElem? (i := 4) rfl, (fun _ h => absurd h List.not_mem_nil)⟩)⟩) (ih13771 y14448 I14445 A14445 L14445 (show Md [3] (upd I 3 0) I14445 from Md.tr hI10856 (show Md [3] I10856 I14445 from (Md.tr Md.rf hI14445 rfl)) rfl) (show Md [2, 3, 4] A A14445 from Md.tr hA10856 (show Md [2, 3, 4] A10856 A14445 from (Md.tr Md.rf hA14445 rfl)) rfl) hV14445 (by omega) (by omega) (by omega) (by omega) hF)
                              · skip
                                replace hF := FE.neg hF (fe_ne hC (by decide))
                                show GW κ 8 0 0 (wM r g I10856 A10856 L10856) 218 [(4, .int x13861), (3, .int x13862), (2, .int y13776), (1, .int x10854), (0, .ref (r 0))] [.int 1]
                                exfalso; omega
                            · skip
                              replace hF := FE.neg hF (fe_ne2 hC (by decide))
                              replace hF := FE.lt hF (fe_1 hC)
                              show GW κ 8 0 0 (wM r g I10856 A10856 L10856) 215 [(4, .int x13861), (3, .int x13862), (2, .int y13776), (1, .int x10854), (0, .ref (r 0))] [.int y14426]
                              refine g_callS (n := 1) hk (j120_X12_isDigit l D zt r g I10856 A10856 L10856 y14426 hV10856) (SP.same _) (fun _ h => h) (gi_S (List.mem_cons_of_mem _ (List.mem_append_left _ (List.mem_of_getElem? (i := 8) rfl))) (List.mem_cons_of_mem _ (List.mem_append_left _ (List.mem_of_getElem? (i := 9) rfl))) (List.mem_cons_of_mem _ (List.mem_append_left _ (List.mem_of_getElem? (i := 4) rfl))) (gi_sub (fun w h => (List.mem_cons_of_mem _ (List.mem_append_right _ (List.mem_append_right _ (List.mem_append_right _ (List.mem_append_right _ (List.mem_append_left _ h))))))) zg_j120_X12_isDigit)) rfl rfl rfl (by decide +kernel) ⟨Nat.le_of_ble_eq_true rfl, Nat.le_of_ble_eq_true rfl⟩ rfl rfl (Nat.le_of_ble_eq_true rfl) ⟨Nat.le_of_ble_eq_true rfl, Nat.le_of_ble_eq_true rfl⟩ dX12_cut_215 (fun v ty' w' hp hk' => ?_)
                              rcases hp with ⟨hC, rfl, rfl⟩ | ⟨c14450, c14451, c14452, c14453, hC, rfl, rfl⟩
                              · skip
                                replace hF := FE.pos hF hC
                                show GW κ 8 0 0 (wM r g I10856 A10856 L10856) 218 [(4, .int x13861), (3, .int x13862), (2, .int y13776), (1, .int x10854), (0, .ref (r 0))] [.int 0]
                                refine g_if_eq (tgt := 250) (a := 0) hk dX12_cut_218 (by decide) rfl (fun _ => ?_) (fun z9 => absurd (show (0 : Int) = (0 : Int) from by decide) z9)
                                refine g_aload_n hk dX12_cut_250 rfl ?_
                                refine g_iload_n hk dX12_cut_251 rfl ?_
                                refine g_iconst (v := 4) hk dX12_cut_252 (by decide) ?_
                                refine g_icmp_le (tgt := 260) (a := x13862.toInt) (b := 4) hk dX12_cut_253 (by decide) rfl rfl (fun c14455 => ?_) (fun c14455 => ?_)
                                · skip
                                  replace hF := FE.pos hF c14455
                                  refine g_iconst (v := 2) hk dX12_cut_260 (by decide) ?_
                                  refine g_iload_n hk dX12_cut_261 rfl ?_
                                  refine g_iload hk dX12_cut_262 rfl ?_
                                  refine g_lconst (v := 0) hk dX12_cut_264 (by decide) ?_
                                  have k14456 : (2 : Int32).toInt = 2 := rfl
                                  refine g_callV (n := 4) hk (j122_X12_token l D zt r g I10856 A10856 L10856 2 x10854 x13861 0 hV10856 (by omega)) (SP.same _) (fun _ h => h) (gi_V (List.mem_cons_of_mem _ (List.mem_append_left _ (List.mem_of_getElem? (i := 13) rfl))) (List.mem_cons_of_mem _ (List.mem_append_left _ (List.mem_of_getElem? (i := 14) rfl))) (List.mem_cons_of_mem _ (List.mem_append_left _ (List.mem_of_getElem? (i := 15) rfl))) (List.mem_cons_of_mem _ (List.mem_append_left _ (List.mem_of_getElem? (i := 4) rfl))) (gi_sub (fun w h => (List.mem_cons_of_mem _ (List.mem_append_right _ (List.mem_append_right _ (List.mem_append_right _ (List.mem_append_right _ (List.mem_append_right _ (List.mem_append_right _ (List.mem_append_left _ h))))))))) zg_j122_X12_token)) rfl rfl rfl (by decide +kernel) ⟨Nat.le_of_ble_eq_true rfl, Nat.le_of_ble_eq_true rfl⟩ 0 rfl rfl rfl rfl (Nat.le_of_ble_eq_true rfl) ⟨Nat.le_of_ble_eq_true rfl, Nat.le_of_ble_eq_true rfl⟩ dX12_cut_265 (fun v ty' w' hp hk' => ?_)
                                  obtain ⟨I14458, A14458, L14458, hI14458, hA14458, hV14458, r14459, hC, rfl, rfl⟩ := hp
                                  replace hF := FE.bdM hF hC
                                  have f14460 := IvM_f3 hV14458
                                  show GW κ 8 0 0 (wM r g I14458 A14458 L14458) 268 [(4, .int x13861), (3, .int x13862), (2, .int y13776), (1, .int x10854), (0, .ref (r 0))] []
                                  refine g_iload_n hk dX12_cut_268 rfl ?_
                                  refine g_iload_n hk dX12_cut_269 rfl ?_
                                  refine g_iadd hk dX12_cut_270 ?_
                                  refine g_topi (fun y14461 ey14461 => ?_)
                                  replace hF := FE.lt hF ey14461
                                  have hy14461 : y14461.toInt = x10854.toInt + x13862.toInt := i32_add ey14461 rfl rfl (by omega) (by omega)
                                  refine g_istore_n (lv' := [(1, .int y14461), (4, .int x13861), (3, .int x13862), (2, .int y13776), (0, .ref (r 0))]) hk dX12_cut_271 (by decide) rfl ?_
                                  refine g_goto (tgt := 291) hk dX12_cut_272 (by decide) ?_
                                  refine g_goto (tgt := 7) hk dX12_cut_291 (by decide) ?_
                                  exact g_lv (List.forall_mem_cons.mpr ⟨List.mem_of_getElem? (i := 0) rfl, (List.forall_mem_cons.mpr ⟨List.mem_of_getElem? (i := 4) rfl, (fun _ h => absurd h List.not_mem_nil)⟩)⟩) (ih13771 y14461 I14458 A14458 L14458 (show Md [3] (upd I 3 0) I14458 from Md.tr hI10856 (show Md [3] I10856 I14458 from (Md.tr Md.rf hI14458 rfl)) rfl) (show Md [2, 3, 4] A A14458 from Md.tr hA10856 (show Md [2, 3, 4] A10856 A14458 from (Md.tr Md.rf hA14458 rfl)) rfl) hV14458 (by omega) (by omega) (by omega) (by omega) hF)
                                · skip
                                  replace hF := FE.neg hF c14455
                                  refine g_iconst (v := 3) hk dX12_cut_256 (by decide) ?_
                                  refine g_goto (tgt := 261) hk dX12_cut_257 (by decide) ?_
                                  refine g_iload_n hk dX12_cut_261 rfl ?_
                                  refine g_iload hk dX12_cut_262 rfl ?_
                                  refine g_lconst (v := 0) hk dX12_cut_264 (by decide) ?_
                                  have k14462 : (3 : Int32).toInt = 3 := rfl
                                  refine g_callV (n := 4) hk (j122_X12_token l D zt r g I10856 A10856 L10856 3 x10854 x13861 0 hV10856 (by omega)) (SP.same _) (fun _ h => h) (gi_V (List.mem_cons_of_mem _ (List.mem_append_left _ (List.mem_of_getElem? (i := 13) rfl))) (List.mem_cons_of_mem _ (List.mem_append_left _ (List.mem_of_getElem? (i := 14) rfl))) (List.mem_cons_of_mem _ (List.mem_append_left _ (List.mem_of_getElem? (i := 15) rfl))) (List.mem_cons_of_mem _ (List.mem_append_left _ (List.mem_of_getElem? (i := 4) rfl))) (gi_sub (fun w h => (List.mem_cons_of_mem _ (List.mem_append_right _ (List.mem_append_right _ (List.mem_append_right _ (List.mem_append_right _ (List.mem_append_right _ (List.mem_append_right _ (List.mem_append_left _ h))))))))) zg_j122_X12_token)) rfl rfl rfl (by decide +kernel) ⟨Nat.le_of_ble_eq_true rfl, Nat.le_of_ble_eq_true rfl⟩ 0 rfl rfl rfl rfl (Nat.le_of_ble_eq_true rfl) ⟨Nat.le_of_ble_eq_true rfl, Nat.le_of_ble_eq_true rfl⟩ dX12_cut_265 (fun v ty' w' hp hk' => ?_)
                                  obtain ⟨I14464, A14464, L14464, hI14464, hA14464, hV14464, r14465, hC, rfl, rfl⟩ := hp
                                  replace hF := FE.bdM hF hC
                                  have f14466 := IvM_f3 hV14464
                                  show GW κ 8 0 0 (wM r g I14464 A14464 L14464) 268 [(4, .int x13861), (3, .int x13862), (2, .int y13776), (1, .int x10854), (0, .ref (r 0))] []
                                  refine g_iload_n hk dX12_cut_268 rfl ?_
                                  refine g_iload_n hk dX12_cut_269 rfl ?_
                                  refine g_iadd hk dX12_cut_270 ?_
                                  refine g_topi (fun y14467 ey14467 => ?_)
                                  replace hF := FE.lt hF ey14467
                                  have hy14467 : y14467.toInt = x10854.toInt + x13862.toInt := i32_add ey14467 rfl rfl (by omega) (by omega)
                                  refine g_istore_n (lv' := [(1, .int y14467), (4, .int x13861), (3, .int x13862), (2, .int y13776), (0, .ref (r 0))]) hk dX12_cut_271 (by decide) rfl ?_
                                  refine g_goto (tgt := 291) hk dX12_cut_272 (by decide) ?_
                                  refine g_goto (tgt := 7) hk dX12_cut_291 (by decide) ?_
                                  exact g_lv (List.forall_mem_cons.mpr ⟨List.mem_of_getElem? (i := 0) rfl, (List.forall_mem_cons.mpr ⟨List.mem_of_getElem? (i := 4) rfl, (fun _ h => absurd h List.not_mem_nil)⟩)⟩) (ih13771 y14467 I14464 A14464 L14464 (show Md [3] (upd I 3 0) I14464 from Md.tr hI10856 (show Md [3] I10856 I14464 from (Md.tr Md.rf hI14464 rfl)) rfl) (show Md [2, 3, 4] A A14464 from Md.tr hA10856 (show Md [2, 3, 4] A10856 A14464 from (Md.tr Md.rf hA14464 rfl)) rfl) hV14464 (by omega) (by omega) (by omega) (by omega) hF)
                              · skip
                                replace hF := FE.neg hF (fe_ne hC (by decide))
                                show GW κ 8 0 0 (wM r g I10856 A10856 L10856) 218 [(4, .int x13861), (3, .int x13862), (2, .int y13776), (1, .int x10854), (0, .ref (r 0))] [.int 1]
                                refine g_if_eq (tgt := 250) (a := 1) hk dX12_cut_218 (by decide) rfl (fun z9 => absurd z9 (show ¬ ((1 : Int) = (0 : Int)) from by decide)) (fun _ => ?_)
                                refine g_iload_n hk dX12_cut_221 rfl ?_
                                refine g_iconst (v := 4) hk dX12_cut_222 (by decide) ?_
                                refine g_icmp_ge (tgt := 244) (a := x13862.toInt) (b := 4) hk dX12_cut_223 (by decide) rfl rfl (fun c14468 => ?_) (fun c14468 => ?_)
                                · skip
                                  replace hF := FE.pos hF c14468
                                  obtain ⟨y14469, ey14469⟩ : ∃ y : Int32, y = x13862 + Int32.ofInt 1 := ⟨_, rfl⟩
                                  replace hF := FE.lt hF ey14469
                                  have hy14469 : y14469.toInt = x13862.toInt + 1 := i32_add ey14469 rfl (by decide) (by omega) (by omega)
                                  refine g_iinc (v := y14469) (lv' := [(3, .int y14469), (4, .int x13861), (2, .int y13776), (1, .int x10854), (0, .ref (r 0))]) hk 1 dX12_cut_244 rfl ey14469.symm (by decide) rfl ?_
                                  refine g_goto (tgt := 208) hk dX12_cut_247 (by decide) ?_
                                  have b14470l := Int32.le_toInt x13861
                                  have b14470h := Int32.toInt_lt x13861
                                  exact g_lv (List.forall_mem_cons.mpr ⟨List.mem_of_getElem? (i := 1) rfl, (List.forall_mem_cons.mpr ⟨List.mem_of_getElem? (i := 0) rfl, (List.forall_mem_cons.mpr ⟨List.mem_of_getElem? (i := 2) rfl, (List.forall_mem_cons.mpr ⟨List.mem_of_getElem? (i := 3) rfl, (List.forall_mem_cons.mpr ⟨List.mem_of_getElem? (i := 4) rfl, (fun _ h => absurd h List.not_mem_nil)⟩)⟩)⟩)⟩)⟩) (ih14422 x13861 y14469 (by omega) (by omega) (by omega) (by omega) (by omega) hF)
                                · skip
                                  replace hF := FE.neg hF c14468
                                  refine g_bipush (v := 10) hk dX12_cut_226 (by decide) ?_
                                  refine g_iload hk dX12_cut_228 rfl ?_
                                  have b14471l := Int32.le_toInt x13861
                                  have b14471h := Int32.toInt_lt x13861
                                  refine g_imul hk dX12_cut_230 ?_
                                  refine g_topi (fun y14472 ey14472 => ?_)
                                  replace hF := FE.lt hF ey14472
                                  refine g_aload_n hk dX12_cut_231 rfl ?_
                                  refine g_iload_n hk dX12_cut_232 rfl ?_
                                  refine g_iload_n hk dX12_cut_233 rfl ?_
                                  refine g_iadd hk dX12_cut_234 ?_
                                  refine g_topi (fun y14473 ey14473 => ?_)
                                  replace hF := FE.lt hF ey14473
                                  have hy14473 : y14473.toInt = x10854.toInt + x13862.toInt := i32_add ey14473 rfl rfl (by omega) (by omega)
                                  refine g_callV (n := 1) hk (j118_X12_byteAt l D zt r g I10856 A10856 L10856 y14473 hV10856 (by omega)) (SP.same _) (fun _ h => h) (gi_V (List.mem_cons_of_mem _ (List.mem_append_left _ (List.mem_of_getElem? (i := 1) rfl))) (List.mem_cons_of_mem _ (List.mem_append_left _ (List.mem_of_getElem? (i := 2) rfl))) (List.mem_cons_of_mem _ (List.mem_append_left _ (List.mem_of_getElem? (i := 3) rfl))) (List.mem_cons_of_mem _ (List.mem_append_left _ (List.mem_of_getElem? (i := 4) rfl))) (gi_sub (fun w h => (List.mem_cons_of_mem _ (List.mem_append_right _ (List.mem_append_right _ (List.mem_append_left _ h))))) zg_j118_X12_byteAt)) rfl rfl rfl (by decide +kernel) ⟨Nat.le_of_ble_eq_true rfl, Nat.le_of_ble_eq_true rfl⟩ 0 rfl rfl rfl rfl (Nat.le_of_ble_eq_true rfl) ⟨Nat.le_of_ble_eq_true rfl, Nat.le_of_ble_eq_true rfl⟩ dX12_cut_235 (fun v ty' w' hp hk' => ?_)
                                  rcases hp with ⟨hC, rfl, rfl⟩ | ⟨y14476, c14475, c14477, c14478, hC, rfl, rfl⟩
                                  · skip
                                    replace hF := FE.pos hF (fe_2 hC)
                                    show GW κ 8 0 0 (wM r g I10856 A10856 L10856) 238 [(4, .int x13861), (3, .int x13862), (2, .int y13776), (1, .int x10854), (0, .ref (r 0))] [.int 0, .int y14472]
                                    have b14479l := Int32.le_toInt y14472
                                    have b14479h := Int32.toInt_lt y14472
                                    refine g_iadd hk dX12_cut_238 ?_
                                    refine g_topi (fun y14480 ey14480 => ?_)
                                    replace hF := FE.lt hF ey14480
                                    have hy14480 : y14480.toInt = y14472.toInt + 0 := i32_add ey14480 rfl rfl (by omega) (by omega)
                                    refine g_bipush (v := 48) hk dX12_cut_239 (by decide) ?_
                                    have b14481l := Int32.le_toInt y14480
                                    have b14481h := Int32.toInt_lt y14480
                                    refine g_isub hk dX12_cut_241 ?_
                                    refine g_topi (fun y14482 ey14482 => ?_)
                                    replace hF := FE.lt hF ey14482
                                    have hy14482 := i32_sub0 ey14482
                                    refine g_istore (lv' := [(4, .int y14482), (3, .int x13862), (2, .int y13776), (1, .int x10854), (0, .ref (r 0))]) hk dX12_cut_242 (by decide) rfl ?_
                                    obtain ⟨y14483, ey14483⟩ : ∃ y : Int32, y = x13862 + Int32.ofInt 1 := ⟨_, rfl⟩
                                    replace hF := FE.lt hF ey14483
                                    have hy14483 : y14483.toInt = x13862.toInt + 1 := i32_add ey14483 rfl (by decide) (by omega) (by omega)
                                    refine g_iinc (v := y14483) (lv' := [(3, .int y14483), (4, .int y14482), (2, .int y13776), (1, .int x10854), (0, .ref (r 0))]) hk 1 dX12_cut_244 rfl ey14483.symm (by decide) rfl ?_
                                    refine g_goto (tgt := 208) hk dX12_cut_247 (by decide) ?_
                                    have b14484l := Int32.le_toInt y14482
                                    have b14484h := Int32.toInt_lt y14482
                                    exact g_lv (List.forall_mem_cons.mpr ⟨List.mem_of_getElem? (i := 1) rfl, (List.forall_mem_cons.mpr ⟨List.mem_of_getElem? (i := 0) rfl, (List.forall_mem_cons.mpr ⟨List.mem_of_getElem? (i := 2) rfl, (List.forall_mem_cons.mpr ⟨List.mem_of_getElem? (i := 3) rfl, (List.forall_mem_cons.mpr ⟨List.mem_of_getElem? (i := 4) rfl, (fun _ h => absurd h List.not_mem_nil)⟩)⟩)⟩)⟩)⟩) (ih14422 y14482 y14483 (by omega) (by omega) (by omega) (by omega) (by omega) hF)
                                  · skip
                                    replace hF := FE.neg hF (fe_ne2 hC (by decide))
                                    replace hF := FE.lt hF (fe_1 hC)
                                    show GW κ 8 0 0 (wM r g I10856 A10856 L10856) 238 [(4, .int x13861), (3, .int x13862), (2, .int y13776), (1, .int x10854), (0, .ref (r 0))] [.int y14476, .int y14472]
                                    have b14485l := Int32.le_toInt y14472
                                    have b14485h := Int32.toInt_lt y14472
                                    refine g_iadd hk dX12_cut_238 ?_
                                    refine g_topi (fun y14486 ey14486 => ?_)
                                    replace hF := FE.lt hF ey14486
                                    refine g_bipush (v := 48) hk dX12_cut_239 (by decide) ?_
                                    have b14487l := Int32.le_toInt y14486
                                    have b14487h := Int32.toInt_lt y14486
                                    refine g_isub hk dX12_cut_241 ?_
                                    refine g_topi (fun y14488 ey14488 => ?_)
                                    replace hF := FE.lt hF ey14488
                                    have hy14488 := i32_sub0 ey14488
                                    refine g_istore (lv' := [(4, .int y14488), (3, .int x13862), (2, .int y13776), (1, .int x10854), (0, .ref (r 0))]) hk dX12_cut_242 (by decide) rfl ?_
                                    obtain ⟨y14489, ey14489⟩ : ∃ y : Int32, y = x13862 + Int32.ofInt 1 := ⟨_, rfl⟩
                                    replace hF := FE.lt hF ey14489
                                    have hy14489 : y14489.toInt = x13862.toInt + 1 := i32_add ey14489 rfl (by decide) (by omega) (by omega)
                                    refine g_iinc (v := y14489) (lv' := [(3, .int y14489), (4, .int y14488), (2, .int y13776), (1, .int x10854), (0, .ref (r 0))]) hk 1 dX12_cut_244 rfl ey14489.symm (by decide) rfl ?_
                                    refine g_goto (tgt := 208) hk dX12_cut_247 (by decide) ?_
                                    have b14490l := Int32.le_toInt y14488
                                    have b14490h := Int32.toInt_lt y14488
                                    exact g_lv (List.forall_mem_cons.mpr ⟨List.mem_of_getElem? (i := 1) rfl, (List.forall_mem_cons.mpr ⟨List.mem_of_getElem? (i := 0) rfl, (List.forall_mem_cons.mpr ⟨List.mem_of_getElem? (i := 2) rfl, (List.forall_mem_cons.mpr ⟨List.mem_of_getElem? (i := 3) rfl, (List.forall_mem_cons.mpr ⟨List.mem_of_getElem? (i := 4) rfl, (fun _ h => absurd h List.not_mem_nil)⟩)⟩)⟩)⟩)⟩) (ih14422 y14488 y14489 (by omega) (by omega) (by omega) (by omega) (by omega) hF)
                        have k14491 : (0 : Int32).toInt = 0 := rfl
                        have b14493 := Int32.le_toInt x10854
                        have b14494 := Int32.toInt_lt x10854
                        have b14495 := Int32.le_toInt (0 : Int32)
                        have b14496 := Int32.toInt_lt (0 : Int32)
                        have n14492a : 2001 - x10854.toInt - (0 : Int32).toInt < (FU : Int) := by have := FU_eq; omega
                        have n14492b : 0 < FU := by have := FU_eq; omega
                        exact lp14418 FU 0 0 (by omega) (by omega) (by omega) n14492a n14492b hF
                    · skip
                      replace hF := FE.neg hF (fe_ne hC (by decide))
                      show GW κ 8 0 0 (wM r g I10856 A10856 L10856) 77 [(2, .int y13776), (1, .int x10854), (0, .ref (r 0))] [.int 1]
                      refine g_if_eq (tgt := 196) (a := 1) hk dX12_cut_77 (by decide) rfl (fun z9 => absurd z9 (show ¬ ((1 : Int) = (0 : Int)) from by decide)) (fun _ => ?_)
                      refine g_iconst (v := 0) hk dX12_cut_80 (by decide) ?_
                      refine g_istore_n (lv' := [(3, .int 0), (2, .int y13776), (1, .int x10854), (0, .ref (r 0))]) hk dX12_cut_81 (by decide) rfl ?_
                      refine g_lconst (v := 0) hk dX12_cut_82 (by decide) ?_
                      refine g_lstore (lv' := [(4, .long 0), (3, .int 0), (2, .int y13776), (1, .int x10854), (0, .ref (r 0))]) hk dX12_cut_83 (by decide) rfl ?_
                      have lp14954 : ∀ (n14955 : Nat) (x14497 : Int64) (x14498 : Int32), (0 ≤ x14498.toInt) → (x14498.toInt ≤ 2000) → (x10854.toInt + x14498.toInt ≤ 2000) → (2001 - x10854.toInt - x14498.toInt < (n14955 : Int)) → (0 < n14955) → (FE (fM12_cut I A L) (itr_li dfM (bM12_cut_85 x10854 I10856 A10856 L10856 (itr_iIAL dfM (bM12_cut_7 I) n13768)) n14955 x14497 x14498)) → GW κ 8 0 0 (wM r g I10856 A10856 L10856) 85 [(4, .long x14497), (3, .int x14498), (2, .int y13776), (1, .int x10854), (0, .ref (r 0))] [] := by
                        intro n14955
                        induction n14955 with
                        | zero =>
                          intro x14497 x14498 h14951 h14952 h14953 m14956 m14956z hF
                          exact absurd m14956z (Nat.lt_irrefl 0)
                        | succ n14955 ih14958 =>
                          intro x14497 x14498 h14951 h14952 h14953 m14956 m14956z hF
                          replace hF := FE.itr_li hF
                          refine g_aload_n hk dX12_cut_85 rfl ?_
                          refine g_iload_n hk dX12_cut_86 rfl ?_
                          refine g_iload_n hk dX12_cut_87 rfl ?_
                          refine g_iadd hk dX12_cut_88 ?_
                          refine g_topi (fun y14959 ey14959 => ?_)
                          replace hF := FE.lt hF ey14959
                          have hy14959 : y14959.toInt = x10854.toInt + x14498.toInt := i32_add ey14959 rfl rfl (by omega) (by omega)
                          refine g_callV (n := 1) hk (j118_X12_byteAt l D zt r g I10856 A10856 L10856 y14959 hV10856 (by omega)) (SP.same _) (fun _ h => h) (gi_V (List.mem_cons_of_mem _ (List.mem_append_left _ (List.mem_of_getElem? (i := 1) rfl))) (List.mem_cons_of_mem _ (List.mem_append_left _ (List.mem_of_getElem? (i := 2) rfl))) (List.mem_cons_of_mem _ (List.mem_append_left _ (List.mem_of_getElem? (i := 3) rfl))) (List.mem_cons_of_mem _ (List.mem_append_left _ (List.mem_of_getElem? (i := 4) rfl))) (gi_sub (fun w h => (List.mem_cons_of_mem _ (List.mem_append_right _ (List.mem_append_right _ (List.mem_append_left _ h))))) zg_j118_X12_byteAt)) rfl rfl rfl (by decide +kernel) ⟨Nat.le_of_ble_eq_true rfl, Nat.le_of_ble_eq_true rfl⟩ 0 rfl rfl rfl rfl (Nat.le_of_ble_eq_true rfl) ⟨Nat.le_of_ble_eq_true rfl, Nat.le_of_ble_eq_true rfl⟩ dX12_cut_89 (fun v ty' w' hp hk' => ?_)
                          rcases hp with ⟨hC, rfl, rfl⟩ | ⟨y14962, c14961, c14963, c14964, hC, rfl, rfl⟩
                          · skip
                            replace hF := FE.pos hF (fe_2 hC)
                            show GW κ 8 0 0 (wM r g I10856 A10856 L10856) 92 [(4, .long x14497), (3, .int x14498), (2, .int y13776), (1, .int x10854), (0, .ref (r 0))] [.int 0]
                            have k14965 : (0 : Int32).toInt = 0 := rfl
                            refine g_callS (n := 1) hk (j119_X12_isLetter l D zt r g I10856 A10856 L10856 0 hV10856) (SP.same _) (fun _ h => h) (gi_S (List.mem_cons_of_mem _ (List.mem_append_left _ (List.mem_of_getElem? (i := 6) rfl))) (List.mem_cons_of_mem _ (List.mem_append_left _ (List.mem_of_getElem? (i := 7) rfl))) (List.mem_cons_of_mem _ (List.mem_append_left _ (List.mem_of_getElem? (i := 4) rfl))) (gi_sub (fun w h => (List.mem_cons_of_mem _ (List.mem_append_right _ (List.mem_append_right _ (List.mem_append_right _ (List.mem_append_left _ h)))))) zg_j119_X12_isLetter)) rfl rfl rfl (by decide +kernel) ⟨Nat.le_of_ble_eq_true rfl, Nat.le_of_ble_eq_true rfl⟩ rfl rfl (Nat.le_of_ble_eq_true rfl) ⟨Nat.le_of_ble_eq_true rfl, Nat.le_of_ble_eq_true rfl⟩ dX12_cut_92 (fun v ty' w' hp hk' => ?_)
                            rcases hp with ⟨hC, rfl, rfl⟩ | ⟨c14967, c14968, c14969, c14970, hC, rfl, rfl⟩
                            · skip
                              replace hF := FE.pos hF hC
                              show GW κ 8 0 0 (wM r g I10856 A10856 L10856) 95 [(4, .long x14497), (3, .int x14498), (2, .int y13776), (1, .int x10854), (0, .ref (r 0))] [.int 0]
                              refine g_if_eq (tgt := 124) (a := 0) hk dX12_cut_95 (by decide) rfl (fun _ => ?_) (fun z9 => absurd (show (0 : Int) = (0 : Int) from by decide) z9)
                              refine g_iload_n hk dX12_cut_124 rfl ?_
                              refine g_bipush (v := 8) hk dX12_cut_125 (by decide) ?_
                              refine g_icmp_le (tgt := 134) (a := x14498.toInt) (b := 8) hk dX12_cut_127 (by decide) rfl rfl (fun c14972 => ?_) (fun c14972 => ?_)
                              · skip
                                replace hF := FE.pos hF c14972
                                refine g_iconst (v := 1) hk dX12_cut_134 (by decide) ?_
                                refine g_istore (lv' := [(6, .int 1), (4, .long x14497), (3, .int x14498), (2, .int y13776), (1, .int x10854), (0, .ref (r 0))]) hk dX12_cut_135 (by decide) rfl ?_
                                refine g_iload_n hk dX12_cut_137 rfl ?_
                                refine g_bipush (v := 8) hk dX12_cut_138 (by decide) ?_
                                refine g_icmp_gt (tgt := 179) (a := x14498.toInt) (b := 8) hk dX12_cut_140 (by decide) rfl rfl (fun z9 => absurd z9 (show ¬ (8 < x14498.toInt) from by omega)) (fun _ => ?_)
                                refine g_iconst (v := 0) hk dX12_cut_143 (by decide) ?_
                                refine g_istore (lv' := [(7, .int 0), (6, .int 1), (4, .long x14497), (3, .int x14498), (2, .int y13776), (1, .int x10854), (0, .ref (r 0))]) hk dX12_cut_144 (by decide) rfl ?_
                                have lp15037 : ∀ (n15038 : Nat) (x14973 : Int32) (x14974 : Int32), (0 ≤ x14973.toInt) → (x14973.toInt ≤ 13) → (1 ≤ x14974.toInt) → (x14974.toInt ≤ 32) → (14 - x14973.toInt < (n15038 : Int)) → (0 < n15038) → (FE (fM12_cut I A L) (itr_ii dfM (bM12_cut_146 I10856 A10856 L10856 x10854 x14497 x14498 (itr_iIAL dfM (bM12_cut_7 I) n13768)) n15038 x14973 x14974)) → GW κ 8 0 0 (wM r g I10856 A10856 L10856) 146 [(7, .int x14973), (6, .int x14974), (4, .long x14497), (3, .int x14498), (2, .int y13776), (1, .int x10854), (0, .ref (r 0))] [] := by
                                  intro n15038
                                  induction n15038 with
                                  | zero =>
                                    intro x14973 x14974 h15033 h15034 h15035 h15036 m15039 m15039z hF
                                    exact absurd m15039z (Nat.lt_irrefl 0)
                                  | succ n15038 ih15041 =>
                                    intro x14973 x14974 h15033 h15034 h15035 h15036 m15039 m15039z hF
                                    replace hF := FE.itr_ii hF
                                    refine g_iload hk dX12_cut_146 rfl ?_
                                    refine g_bipush (v := 13) hk dX12_cut_148 (by decide) ?_
                                    refine g_icmp_ge (tgt := 179) (a := x14973.toInt) (b := 13) hk dX12_cut_150 (by decide) rfl rfl (fun c15042 => ?_) (fun c15042 => ?_)
                                    · skip
                                      replace hF := FE.pos hF c15042
                                      refine g_aload_n hk dX12_cut_179 rfl ?_
                                      refine g_iload hk dX12_cut_180 rfl ?_
                                      refine g_iload_n hk dX12_cut_182 rfl ?_
                                      refine g_iconst (v := 0) hk dX12_cut_183 (by decide) ?_
                                      refine g_lload hk dX12_cut_184 rfl ?_
                                      refine g_callV (n := 4) hk (j122_X12_token l D zt r g I10856 A10856 L10856 x14974 x10854 0 x14497 hV10856 (by omega)) (SP.same _) (fun _ h => h) (gi_V (List.mem_cons_of_mem _ (List.mem_append_left _ (List.mem_of_getElem? (i := 13) rfl))) (List.mem_cons_of_mem _ (List.mem_append_left _ (List.mem_of_getElem? (i := 14) rfl))) (List.mem_cons_of_mem _ (List.mem_append_left _ (List.mem_of_getElem? (i := 15) rfl))) (List.mem_cons_of_mem _ (List.mem_append_left _ (List.mem_of_getElem? (i := 4) rfl))) (gi_sub (fun w h => (List.mem_cons_of_mem _ (List.mem_append_right _ (List.mem_append_right _ (List.mem_append_right _ (List.mem_append_right _ (List.mem_append_right _ (List.mem_append_right _ (List.mem_append_left _ h))))))))) zg_j122_X12_token)) rfl rfl rfl (by decide +kernel) ⟨Nat.le_of_ble_eq_true rfl, Nat.le_of_ble_eq_true rfl⟩ 0 rfl rfl rfl rfl (Nat.le_of_ble_eq_true rfl) ⟨Nat.le_of_ble_eq_true rfl, Nat.le_of_ble_eq_true rfl⟩ dX12_cut_186 (fun v ty' w' hp hk' => ?_)
                                      obtain ⟨I15044, A15044, L15044, hI15044, hA15044, hV15044, r15045, hC, rfl, rfl⟩ := hp
                                      replace hF := FE.bdM hF hC
                                      have f15046 := IvM_f3 hV15044
                                      show GW κ 8 0 0 (wM r g I15044 A15044 L15044) 189 [(7, .int x14973), (6, .int x14974), (4, .long x14497), (3, .int x14498), (2, .int y13776), (1, .int x10854), (0, .ref (r 0))] []
                                      refine g_iload_n hk dX12_cut_189 rfl ?_
                                      refine g_iload_n hk dX12_cut_190 rfl ?_
                                      refine g_iadd hk dX12_cut_191 ?_
                                      refine g_topi (fun y15047 ey15047 => ?_)
                                      replace hF := FE.lt hF ey15047
                                      have hy15047 : y15047.toInt = x10854.toInt + x14498.toInt := i32_add ey15047 rfl rfl (by omega) (by omega)
                                      refine g_istore_n (lv' := [(1, .int y15047), (7, .int x14973), (6, .int x14974), (4, .long x14497), (3, .int x14498), (2, .int y13776), (0, .ref (r 0))]) hk dX12_cut_192 (by decide) rfl ?_
                                      refine g_goto (tgt := 291) hk dX12_cut_193 (by decide) ?_
                                      refine g_goto (tgt := 7) hk dX12_cut_291 (by decide) ?_
                                      exact g_lv (List.forall_mem_cons.mpr ⟨List.mem_of_getElem? (i := 0) rfl, (List.forall_mem_cons.mpr ⟨List.mem_of_getElem? (i := 6) rfl, (fun _ h => absurd h List.not_mem_nil)⟩)⟩) (ih13771 y15047 I15044 A15044 L15044 (show Md [3] (upd I 3 0) I15044 from Md.tr hI10856 (show Md [3] I10856 I15044 from (Md.tr Md.rf hI15044 rfl)) rfl) (show Md [2, 3, 4] A A15044 from Md.tr hA10856 (show Md [2, 3, 4] A10856 A15044 from (Md.tr Md.rf hA15044 rfl)) rfl) hV15044 (by omega) (by omega) (by omega) (by omega) hF)
                                    · skip
                                      replace hF := FE.neg hF c15042
                                      refine g_aload_n hk dX12_cut_153 rfl ?_
                                      refine gM_r0_9 hk hin12 (List.mem_cons_of_mem _ (List.mem_append_left _ (List.mem_of_getElem? (i := 16) rfl))) dX12_cut_154 ?_
                                      refine g_iload hk dX12_cut_157 rfl ?_
                                      refine lM_6 hk (vp_in_iff.mpr ⟨by omega, by omega⟩) rfl dX12_cut_159 ?_
                                      refine g_topl (fun y15048 ey15048 => ?_)
                                      replace hF := FE.lt hF ey15048
                                      refine g_lload hk dX12_cut_160 rfl ?_
                                      refine g_lcmp hk dX12_cut_162 ?_
                                      refine g_topi (fun y15049 ey15049 => ?_)
                                      replace hF := FE.lt hF ey15049
                                      have b15050l := Int32.le_toInt y15049
                                      have b15050h := Int32.toInt_lt y15049
                                      refine g_if_ne (tgt := 173) (a := y15049.toInt) hk dX12_cut_163 (by decide) rfl (fun c15051 => ?_) (fun c15051 => ?_)
                                      · skip
                                        replace hF := FE.pos hF c15051
                                        obtain ⟨y15052, ey15052⟩ : ∃ y : Int32, y = x14973 + Int32.ofInt 1 := ⟨_, rfl⟩
                                        replace hF := FE.lt hF ey15052
                                        have hy15052 : y15052.toInt = x14973.toInt + 1 := i32_add ey15052 rfl (by decide) (by omega) (by omega)
                                        refine g_iinc (v := y15052) (lv' := [(7, .int y15052), (6, .int x14974), (4, .long x14497), (3, .int x14498), (2, .int y13776), (1, .int x10854), (0, .ref (r 0))]) hk 0 dX12_cut_173 rfl ey15052.symm (by decide) rfl ?_
                                        refine g_goto (tgt := 146) hk dX12_cut_176 (by decide) ?_
                                        exact g_lv (List.forall_mem_cons.mpr ⟨List.mem_of_getElem? (i := 0) rfl, (List.forall_mem_cons.mpr ⟨List.mem_of_getElem? (i := 1) rfl, (List.forall_mem_cons.mpr ⟨List.mem_of_getElem? (i := 2) rfl, (List.forall_mem_cons.mpr ⟨List.mem_of_getElem? (i := 3) rfl, (List.forall_mem_cons.mpr ⟨List.mem_of_getElem? (i := 4) rfl, (List.forall_mem_cons.mpr ⟨List.mem_of_getElem? (i := 5) rfl, (List.forall_mem_cons.mpr ⟨List.mem_of_getElem? (i := 6) rfl, (fun _ h => absurd h List.not_mem_nil)⟩)⟩)⟩)⟩)⟩)⟩)⟩) (ih15041 y15052 x14974 (by omega) (by omega) (by omega) (by omega) (by omega) (by omega) hF)
                                      · skip
                                        replace hF := FE.neg hF c15051
                                        refine g_bipush (v := 20) hk dX12_cut_166 (by decide) ?_
                                        refine g_iload hk dX12_cut_168 rfl ?_
                                        refine g_iadd hk dX12_cut_170 ?_
                                        refine g_topi (fun y15053 ey15053 => ?_)
                                        replace hF := FE.lt hF ey15053
                                        have hy15053 : y15053.toInt = 20 + x14973.toInt := i32_add ey15053 rfl rfl (by omega) (by omega)
                                        refine g_istore (lv' := [(6, .int y15053), (7, .int x14973), (4, .long x14497), (3, .int x14498), (2, .int y13776), (1, .int x10854), (0, .ref (r 0))]) hk dX12_cut_171 (by decide) rfl ?_
                                        obtain ⟨y15054, ey15054⟩ : ∃ y : Int32, y = x14973 + Int32.ofInt 1 := ⟨_, rfl⟩
                                        replace hF := FE.lt hF ey15054
                                        have hy15054 : y15054.toInt = x14973.toInt + 1 := i32_add ey15054 rfl (by decide) (by omega) (by omega)
                                        refine g_iinc (v := y15054) (lv' := [(7, .int y15054), (6, .int y15053), (4, .long x14497), (3, .int x14498), (2, .int y13776), (1, .int x10854), (0, .ref (r 0))]) hk 1 dX12_cut_173 rfl ey15054.symm (by decide) rfl ?_
                                        refine g_goto (tgt := 146) hk dX12_cut_176 (by decide) ?_
                                        exact g_lv (List.forall_mem_cons.mpr ⟨List.mem_of_getElem? (i := 0) rfl, (List.forall_mem_cons.mpr ⟨List.mem_of_getElem? (i := 1) rfl, (List.forall_mem_cons.mpr ⟨List.mem_of_getElem? (i := 2) rfl, (List.forall_mem_cons.mpr ⟨List.mem_of_getElem? (i := 3) rfl, (List.forall_mem_cons.mpr ⟨List.mem_of_getElem? (i := 4) rfl, (List.forall_mem_cons.mpr ⟨List.mem_of_getElem? (i := 5) rfl, (List.forall_mem_cons.mpr ⟨List.mem_of_getElem? (i := 6) rfl, (fun _ h => absurd h List.not_mem_nil)⟩)⟩)⟩)⟩)⟩)⟩)⟩) (ih15041 y15054 y15053 (by omega) (by omega) (by omega) (by omega) (by omega) (by omega) hF)
                                have k15055 : (1 : Int32).toInt = 1 := rfl
                                have b15057 := Int32.le_toInt (0 : Int32)
                                have b15058 := Int32.toInt_lt (0 : Int32)
                                have n15056a : 14 - (0 : Int32).toInt < (FU : Int) := by have := FU_eq; omega
                                have n15056b : 0 < FU := by have := FU_eq; omega
                                exact lp15037 FU 0 1 (by omega) (by omega) (by omega) (by omega) n15056a n15056b hF
                              · skip
                                replace hF := FE.neg hF c14972
                                refine g_iconst (v := 3) hk dX12_cut_130 (by decide) ?_
                                refine g_goto (tgt := 135) hk dX12_cut_131 (by decide) ?_
                                refine g_istore (lv' := [(6, .int 3), (4, .long x14497), (3, .int x14498), (2, .int y13776), (1, .int x10854), (0, .ref (r 0))]) hk dX12_cut_135 (by decide) rfl ?_
                                refine g_iload_n hk dX12_cut_137 rfl ?_
                                refine g_bipush (v := 8) hk dX12_cut_138 (by decide) ?_
                                refine g_icmp_gt (tgt := 179) (a := x14498.toInt) (b := 8) hk dX12_cut_140 (by decide) rfl rfl (fun _ => ?_) (fun z9 => absurd (show 8 < x14498.toInt from by omega) z9)
                                refine g_aload_n hk dX12_cut_179 rfl ?_
                                refine g_iload hk dX12_cut_180 rfl ?_
                                refine g_iload_n hk dX12_cut_182 rfl ?_
                                refine g_iconst (v := 0) hk dX12_cut_183 (by decide) ?_
                                refine g_lload hk dX12_cut_184 rfl ?_
                                have k15059 : (3 : Int32).toInt = 3 := rfl
                                refine g_callV (n := 4) hk (j122_X12_token l D zt r g I10856 A10856 L10856 3 x10854 0 x14497 hV10856 (by omega)) (SP.same _) (fun _ h => h) (gi_V (List.mem_cons_of_mem _ (List.mem_append_left _ (List.mem_of_getElem? (i := 13) rfl))) (List.mem_cons_of_mem _ (List.mem_append_left _ (List.mem_of_getElem? (i := 14) rfl))) (List.mem_cons_of_mem _ (List.mem_append_left _ (List.mem_of_getElem? (i := 15) rfl))) (List.mem_cons_of_mem _ (List.mem_append_left _ (List.mem_of_getElem? (i := 4) rfl))) (gi_sub (fun w h => (List.mem_cons_of_mem _ (List.mem_append_right _ (List.mem_append_right _ (List.mem_append_right _ (List.mem_append_right _ (List.mem_append_right _ (List.mem_append_right _ (List.mem_append_left _ h))))))))) zg_j122_X12_token)) rfl rfl rfl (by decide +kernel) ⟨Nat.le_of_ble_eq_true rfl, Nat.le_of_ble_eq_true rfl⟩ 0 rfl rfl rfl rfl (Nat.le_of_ble_eq_true rfl) ⟨Nat.le_of_ble_eq_true rfl, Nat.le_of_ble_eq_true rfl⟩ dX12_cut_186 (fun v ty' w' hp hk' => ?_)
                                obtain ⟨I15061, A15061, L15061, hI15061, hA15061, hV15061, r15062, hC, rfl, rfl⟩ := hp
                                replace hF := FE.bdM hF hC
                                have f15063 := IvM_f3 hV15061
                                show GW κ 8 0 0 (wM r g I15061 A15061 L15061) 189 [(6, .int 3), (4, .long x14497), (3, .int x14498), (2, .int y13776), (1, .int x10854), (0, .ref (r 0))] []
                                refine g_iload_n hk dX12_cut_189 rfl ?_
                                refine g_iload_n hk dX12_cut_190 rfl ?_
                                refine g_iadd hk dX12_cut_191 ?_
                                refine g_topi (fun y15064 ey15064 => ?_)
                                replace hF := FE.lt hF ey15064
                                have hy15064 : y15064.toInt = x10854.toInt + x14498.toInt := i32_add ey15064 rfl rfl (by omega) (by omega)
                                refine g_istore_n (lv' := [(1, .int y15064), (6, .int 3), (4, .long x14497), (3, .int x14498), (2, .int y13776), (0, .ref (r 0))]) hk dX12_cut_192 (by decide) rfl ?_
                                refine g_goto (tgt := 291) hk dX12_cut_193 (by decide) ?_
                                refine g_goto (tgt := 7) hk dX12_cut_291 (by decide) ?_
                                exact g_lv (List.forall_mem_cons.mpr ⟨List.mem_of_getElem? (i := 0) rfl, (List.forall_mem_cons.mpr ⟨List.mem_of_getElem? (i := 5) rfl, (fun _ h => absurd h List.not_mem_nil)⟩)⟩) (ih13771 y15064 I15061 A15061 L15061 (show Md [3] (upd I 3 0) I15061 from Md.tr hI10856 (show Md [3] I10856 I15061 from (Md.tr Md.rf hI15061 rfl)) rfl) (show Md [2, 3, 4] A A15061 from Md.tr hA10856 (show Md [2, 3, 4] A10856 A15061 from (Md.tr Md.rf hA15061 rfl)) rfl) hV15061 (by omega) (by omega) (by omega) (by omega) hF)
                            · skip
                              replace hF := FE.neg hF (fe_ne hC (by decide))
                              show GW κ 8 0 0 (wM r g I10856 A10856 L10856) 95 [(4, .long x14497), (3, .int x14498), (2, .int y13776), (1, .int x10854), (0, .ref (r 0))] [.int 1]
                              exfalso; omega
                          · skip
                            replace hF := FE.neg hF (fe_ne2 hC (by decide))
                            replace hF := FE.lt hF (fe_1 hC)
                            show GW κ 8 0 0 (wM r g I10856 A10856 L10856) 92 [(4, .long x14497), (3, .int x14498), (2, .int y13776), (1, .int x10854), (0, .ref (r 0))] [.int y14962]
                            refine g_callS (n := 1) hk (j119_X12_isLetter l D zt r g I10856 A10856 L10856 y14962 hV10856) (SP.same _) (fun _ h => h) (gi_S (List.mem_cons_of_mem _ (List.mem_append_left _ (List.mem_of_getElem? (i := 6) rfl))) (List.mem_cons_of_mem _ (List.mem_append_left _ (List.mem_of_getElem? (i := 7) rfl))) (List.mem_cons_of_mem _ (List.mem_append_left _ (List.mem_of_getElem? (i := 4) rfl))) (gi_sub (fun w h => (List.mem_cons_of_mem _ (List.mem_append_right _ (List.mem_append_right _ (List.mem_append_right _ (List.mem_append_left _ h)))))) zg_j119_X12_isLetter)) rfl rfl rfl (by decide +kernel) ⟨Nat.le_of_ble_eq_true rfl, Nat.le_of_ble_eq_true rfl⟩ rfl rfl (Nat.le_of_ble_eq_true rfl) ⟨Nat.le_of_ble_eq_true rfl, Nat.le_of_ble_eq_true rfl⟩ dX12_cut_92 (fun v ty' w' hp hk' => ?_)
                            rcases hp with ⟨hC, rfl, rfl⟩ | ⟨c15066, c15067, c15068, c15069, hC, rfl, rfl⟩
                            · skip
                              replace hF := FE.pos hF hC
                              show GW κ 8 0 0 (wM r g I10856 A10856 L10856) 95 [(4, .long x14497), (3, .int x14498), (2, .int y13776), (1, .int x10854), (0, .ref (r 0))] [.int 0]
                              refine g_if_eq (tgt := 124) (a := 0) hk dX12_cut_95 (by decide) rfl (fun _ => ?_) (fun z9 => absurd (show (0 : Int) = (0 : Int) from by decide) z9)
                              refine g_iload_n hk dX12_cut_124 rfl ?_
                              refine g_bipush (v := 8) hk dX12_cut_125 (by decide) ?_
                              refine g_icmp_le (tgt := 134) (a := x14498.toInt) (b := 8) hk dX12_cut_127 (by decide) rfl rfl (fun c15071 => ?_) (fun c15071 => ?_)
                              · skip
                                replace hF := FE.pos hF c15071
                                refine g_iconst (v := 1) hk dX12_cut_134 (by decide) ?_
                                refine g_istore (lv' := [(6, .int 1), (4, .long x14497), (3, .int x14498), (2, .int y13776), (1, .int x10854), (0, .ref (r 0))]) hk dX12_cut_135 (by decide) rfl ?_
                                refine g_iload_n hk dX12_cut_137 rfl ?_
                                refine g_bipush (v := 8) hk dX12_cut_138 (by decide) ?_
                                refine g_icmp_gt (tgt := 179) (a := x14498.toInt) (b := 8) hk dX12_cut_140 (by decide) rfl rfl (fun z9 => absurd z9 (show ¬ (8 < x14498.toInt) from by omega)) (fun _ => ?_)
                                refine g_iconst (v := 0) hk dX12_cut_143 (by decide) ?_
                                refine g_istore (lv' := [(7, .int 0), (6, .int 1), (4, .long x14497), (3, .int x14498), (2, .int y13776), (1, .int x10854), (0, .ref (r 0))]) hk dX12_cut_144 (by decide) rfl ?_
                                have lp15139 : ∀ (n15140 : Nat) (x15072 : Int32) (x15073 : Int32), (0 ≤ x15072.toInt) → (x15072.toInt ≤ 13) → (1 ≤ x15073.toInt) → (x15073.toInt ≤ 32) → (14 - x15072.toInt < (n15140 : Int)) → (0 < n15140) → (FE (fM12_cut I A L) (itr_ii dfM (bM12_cut_146x I10856 A10856 L10856 x10854 x14497 x14498 (itr_iIAL dfM (bM12_cut_7 I) n13768)) n15140 x15072 x15073)) → GW κ 8 0 0 (wM r g I10856 A10856 L10856) 146 [(7, .int x15072), (6, .int x15073), (4, .long x14497), (3, .int x14498), (2, .int y13776), (1, .int x10854), (0, .ref (r 0))] [] := by
                                  intro n15140
                                  induction n15140 with
                                  | zero =>
                                    intro x15072 x15073 h15135 h15136 h15137 h15138 m15141 m15141z hF
                                    exact absurd m15141z (Nat.lt_irrefl 0)
                                  | succ n15140 ih15143 =>
                                    intro x15072 x15073 h15135 h15136 h15137 h15138 m15141 m15141z hF
                                    replace hF := FE.itr_ii hF
                                    refine g_iload hk dX12_cut_146 rfl ?_
                                    refine g_bipush (v := 13) hk dX12_cut_148 (by decide) ?_
                                    refine g_icmp_ge (tgt := 179) (a := x15072.toInt) (b := 13) hk dX12_cut_150 (by decide) rfl rfl (fun c15144 => ?_) (fun c15144 => ?_)
                                    · skip
                                      replace hF := FE.pos hF c15144
                                      refine g_aload_n hk dX12_cut_179 rfl ?_
                                      refine g_iload hk dX12_cut_180 rfl ?_
                                      refine g_iload_n hk dX12_cut_182 rfl ?_
                                      refine g_iconst (v := 0) hk dX12_cut_183 (by decide) ?_
                                      refine g_lload hk dX12_cut_184 rfl ?_
                                      have k15145 : (0 : Int32).toInt = 0 := rfl
                                      refine g_callV (n := 4) hk (j122_X12_token l D zt r g I10856 A10856 L10856 x15073 x10854 0 x14497 hV10856 (by omega)) (SP.same _) (fun _ h => h) (gi_V (List.mem_cons_of_mem _ (List.mem_append_left _ (List.mem_of_getElem? (i := 13) rfl))) (List.mem_cons_of_mem _ (List.mem_append_left _ (List.mem_of_getElem? (i := 14) rfl))) (List.mem_cons_of_mem _ (List.mem_append_left _ (List.mem_of_getElem? (i := 15) rfl))) (List.mem_cons_of_mem _ (List.mem_append_left _ (List.mem_of_getElem? (i := 4) rfl))) (gi_sub (fun w h => (List.mem_cons_of_mem _ (List.mem_append_right _ (List.mem_append_right _ (List.mem_append_right _ (List.mem_append_right _ (List.mem_append_right _ (List.mem_append_right _ (List.mem_append_left _ h))))))))) zg_j122_X12_token)) rfl rfl rfl (by decide +kernel) ⟨Nat.le_of_ble_eq_true rfl, Nat.le_of_ble_eq_true rfl⟩ 0 rfl rfl rfl rfl (Nat.le_of_ble_eq_true rfl) ⟨Nat.le_of_ble_eq_true rfl, Nat.le_of_ble_eq_true rfl⟩ dX12_cut_186 (fun v ty' w' hp hk' => ?_)
                                      obtain ⟨I15147, A15147, L15147, hI15147, hA15147, hV15147, r15148, hC, rfl, rfl⟩ := hp
                                      replace hF := FE.bdM hF hC
                                      have f15149 := IvM_f3 hV15147
                                      show GW κ 8 0 0 (wM r g I15147 A15147 L15147) 189 [(7, .int x15072), (6, .int x15073), (4, .long x14497), (3, .int x14498), (2, .int y13776), (1, .int x10854), (0, .ref (r 0))] []
                                      refine g_iload_n hk dX12_cut_189 rfl ?_
                                      refine g_iload_n hk dX12_cut_190 rfl ?_
                                      refine g_iadd hk dX12_cut_191 ?_
                                      refine g_topi (fun y15150 ey15150 => ?_)
                                      replace hF := FE.lt hF ey15150
                                      have hy15150 : y15150.toInt = x10854.toInt + x14498.toInt := i32_add ey15150 rfl rfl (by omega) (by omega)
                                      refine g_istore_n (lv' := [(1, .int y15150), (7, .int x15072), (6, .int x15073), (4, .long x14497), (3, .int x14498), (2, .int y13776), (0, .ref (r 0))]) hk dX12_cut_192 (by decide) rfl ?_
                                      refine g_goto (tgt := 291) hk dX12_cut_193 (by decide) ?_
                                      refine g_goto (tgt := 7) hk dX12_cut_291 (by decide) ?_
                                      exact g_lv (List.forall_mem_cons.mpr ⟨List.mem_of_getElem? (i := 0) rfl, (List.forall_mem_cons.mpr ⟨List.mem_of_getElem? (i := 6) rfl, (fun _ h => absurd h List.not_mem_nil)⟩)⟩) (ih13771 y15150 I15147 A15147 L15147 (show Md [3] (upd I 3 0) I15147 from Md.tr hI10856 (show Md [3] I10856 I15147 from (Md.tr Md.rf hI15147 rfl)) rfl) (show Md [2, 3, 4] A A15147 from Md.tr hA10856 (show Md [2, 3, 4] A10856 A15147 from (Md.tr Md.rf hA15147 rfl)) rfl) hV15147 (by omega) (by omega) (by omega) (by omega) hF)
                                    · skip
                                      replace hF := FE.neg hF c15144
                                      refine g_aload_n hk dX12_cut_153 rfl ?_
                                      refine gM_r0_9 hk hin12 (List.mem_cons_of_mem _ (List.mem_append_left _ (List.mem_of_getElem? (i := 16) rfl))) dX12_cut_154 ?_
                                      refine g_iload hk dX12_cut_157 rfl ?_
                                      refine lM_6 hk (vp_in_iff.mpr ⟨by omega, by omega⟩) rfl dX12_cut_159 ?_
                                      refine g_topl (fun y15151 ey15151 => ?_)
                                      replace hF := FE.lt hF ey15151
                                      refine g_lload hk dX12_cut_160 rfl ?_
                                      refine g_lcmp hk dX12_cut_162 ?_
                                      refine g_topi (fun y15152 ey15152 => ?_)
                                      replace hF := FE.lt hF ey15152
                                      have b15153l := Int32.le_toInt y15152
                                      have b15153h := Int32.toInt_lt y15152
                                      refine g_if_ne (tgt := 173) (a := y15152.toInt) hk dX12_cut_163 (by decide) rfl (fun c15154 => ?_) (fun c15154 => ?_)
                                      · skip
                                        replace hF := FE.pos hF c15154
                                        obtain ⟨y15155, ey15155⟩ : ∃ y : Int32, y = x15072 + Int32.ofInt 1 := ⟨_, rfl⟩
                                        replace hF := FE.lt hF ey15155
                                        have hy15155 : y15155.toInt = x15072.toInt + 1 := i32_add ey15155 rfl (by decide) (by omega) (by omega)
                                        refine g_iinc (v := y15155) (lv' := [(7, .int y15155), (6, .int x15073), (4, .long x14497), (3, .int x14498), (2, .int y13776), (1, .int x10854), (0, .ref (r 0))]) hk 0 dX12_cut_173 rfl ey15155.symm (by decide) rfl ?_
                                        refine g_goto (tgt := 146) hk dX12_cut_176 (by decide) ?_
                                        exact g_lv (List.forall_mem_cons.mpr ⟨List.mem_of_getElem? (i := 0) rfl, (List.forall_mem_cons.mpr ⟨List.mem_of_getElem? (i := 1) rfl, (List.forall_mem_cons.mpr ⟨List.mem_of_getElem? (i := 2) rfl, (List.forall_mem_cons.mpr ⟨List.mem_of_getElem? (i := 3) rfl, (List.forall_mem_cons.mpr ⟨List.mem_of_getElem? (i := 4) rfl, (List.forall_mem_cons.mpr ⟨List.mem_of_getElem? (i := 5) rfl, (List.forall_mem_cons.mpr ⟨List.mem_of_getElem? (i := 6) rfl, (fun _ h => absurd h List.not_mem_nil)⟩)⟩)⟩)⟩)⟩)⟩)⟩) (ih15143 y15155 x15073 (by omega) (by omega) (by omega) (by omega) (by omega) (by omega) hF)
                                      · skip
                                        replace hF := FE.neg hF c15154
                                        refine g_bipush (v := 20) hk dX12_cut_166 (by decide) ?_
                                        refine g_iload hk dX12_cut_168 rfl ?_
                                        refine g_iadd hk dX12_cut_170 ?_
                                        refine g_topi (fun y15156 ey15156 => ?_)
                                        replace hF := FE.lt hF ey15156
                                        have hy15156 : y15156.toInt = 20 + x15072.toInt := i32_add ey15156 rfl rfl (by omega) (by omega)
                                        refine g_istore (lv' := [(6, .int y15156), (7, .int x15072), (4, .long x14497), (3, .int x14498), (2, .int y13776), (1, .int x10854), (0, .ref (r 0))]) hk dX12_cut_171 (by decide) rfl ?_
                                        obtain ⟨y15157, ey15157⟩ : ∃ y : Int32, y = x15072 + Int32.ofInt 1 := ⟨_, rfl⟩
                                        replace hF := FE.lt hF ey15157
                                        have hy15157 : y15157.toInt = x15072.toInt + 1 := i32_add ey15157 rfl (by decide) (by omega) (by omega)
                                        refine g_iinc (v := y15157) (lv' := [(7, .int y15157), (6, .int y15156), (4, .long x14497), (3, .int x14498), (2, .int y13776), (1, .int x10854), (0, .ref (r 0))]) hk 1 dX12_cut_173 rfl ey15157.symm (by decide) rfl ?_
                                        refine g_goto (tgt := 146) hk dX12_cut_176 (by decide) ?_
                                        exact g_lv (List.forall_mem_cons.mpr ⟨List.mem_of_getElem? (i := 0) rfl, (List.forall_mem_cons.mpr ⟨List.mem_of_getElem? (i := 1) rfl, (List.forall_mem_cons.mpr ⟨List.mem_of_getElem? (i := 2) rfl, (List.forall_mem_cons.mpr ⟨List.mem_of_getElem? (i := 3) rfl, (List.forall_mem_cons.mpr ⟨List.mem_of_getElem? (i := 4) rfl, (List.forall_mem_cons.mpr ⟨List.mem_of_getElem? (i := 5) rfl, (List.forall_mem_cons.mpr ⟨List.mem_of_getElem? (i := 6) rfl, (fun _ h => absurd h List.not_mem_nil)⟩)⟩)⟩)⟩)⟩)⟩)⟩) (ih15143 y15157 y15156 (by omega) (by omega) (by omega) (by omega) (by omega) (by omega) hF)
                                have k15158 : (0 : Int32).toInt = 0 := rfl
                                have k15159 : (1 : Int32).toInt = 1 := rfl
                                have b15161 := Int32.le_toInt (0 : Int32)
                                have b15162 := Int32.toInt_lt (0 : Int32)
                                have n15160a : 14 - (0 : Int32).toInt < (FU : Int) := by have := FU_eq; omega
                                have n15160b : 0 < FU := by have := FU_eq; omega
                                exact lp15139 FU 0 1 (by omega) (by omega) (by omega) (by omega) n15160a n15160b hF
                              · skip
                                replace hF := FE.neg hF c15071
                                refine g_iconst (v := 3) hk dX12_cut_130 (by decide) ?_
                                refine g_goto (tgt := 135) hk dX12_cut_131 (by decide) ?_
                                refine g_istore (lv' := [(6, .int 3), (4, .long x14497), (3, .int x14498), (2, .int y13776), (1, .int x10854), (0, .ref (r 0))]) hk dX12_cut_135 (by decide) rfl ?_
                                refine g_iload_n hk dX12_cut_137 rfl ?_
                                refine g_bipush (v := 8) hk dX12_cut_138 (by decide) ?_
                                refine g_icmp_gt (tgt := 179) (a := x14498.toInt) (b := 8) hk dX12_cut_140 (by decide) rfl rfl (fun _ => ?_) (fun z9 => absurd (show 8 < x14498.toInt from by omega) z9)
                                refine g_aload_n hk dX12_cut_179 rfl ?_
                                refine g_iload hk dX12_cut_180 rfl ?_
                                refine g_iload_n hk dX12_cut_182 rfl ?_
                                refine g_iconst (v := 0) hk dX12_cut_183 (by decide) ?_
                                refine g_lload hk dX12_cut_184 rfl ?_
                                have k15163 : (3 : Int32).toInt = 3 := rfl
                                have k15164 : (0 : Int32).toInt = 0 := rfl
                                refine g_callV (n := 4) hk (j122_X12_token l D zt r g I10856 A10856 L10856 3 x10854 0 x14497 hV10856 (by omega)) (SP.same _) (fun _ h => h) (gi_V (List.mem_cons_of_mem _ (List.mem_append_left _ (List.mem_of_getElem? (i := 13) rfl))) (List.mem_cons_of_mem _ (List.mem_append_left _ (List.mem_of_getElem? (i := 14) rfl))) (List.mem_cons_of_mem _ (List.mem_append_left _ (List.mem_of_getElem? (i := 15) rfl))) (List.mem_cons_of_mem _ (List.mem_append_left _ (List.mem_of_getElem? (i := 4) rfl))) (gi_sub (fun w h => (List.mem_cons_of_mem _ (List.mem_append_right _ (List.mem_append_right _ (List.mem_append_right _ (List.mem_append_right _ (List.mem_append_right _ (List.mem_append_right _ (List.mem_append_left _ h))))))))) zg_j122_X12_token)) rfl rfl rfl (by decide +kernel) ⟨Nat.le_of_ble_eq_true rfl, Nat.le_of_ble_eq_true rfl⟩ 0 rfl rfl rfl rfl (Nat.le_of_ble_eq_true rfl) ⟨Nat.le_of_ble_eq_true rfl, Nat.le_of_ble_eq_true rfl⟩ dX12_cut_186 (fun v ty' w' hp hk' => ?_)
                                obtain ⟨I15166, A15166, L15166, hI15166, hA15166, hV15166, r15167, hC, rfl, rfl⟩ := hp
                                replace hF := FE.bdM hF hC
                                have f15168 := IvM_f3 hV15166
                                show GW κ 8 0 0 (wM r g I15166 A15166 L15166) 189 [(6, .int 3), (4, .long x14497), (3, .int x14498), (2, .int y13776), (1, .int x10854), (0, .ref (r 0))] []
                                refine g_iload_n hk dX12_cut_189 rfl ?_
                                refine g_iload_n hk dX12_cut_190 rfl ?_
                                refine g_iadd hk dX12_cut_191 ?_
                                refine g_topi (fun y15169 ey15169 => ?_)
                                replace hF := FE.lt hF ey15169
                                have hy15169 : y15169.toInt = x10854.toInt + x14498.toInt := i32_add ey15169 rfl rfl (by omega) (by omega)
                                refine g_istore_n (lv' := [(1, .int y15169), (6, .int 3), (4, .long x14497), (3, .int x14498), (2, .int y13776), (0, .ref (r 0))]) hk dX12_cut_192 (by decide) rfl ?_
                                refine g_goto (tgt := 291) hk dX12_cut_193 (by decide) ?_
                                refine g_goto (tgt := 7) hk dX12_cut_291 (by decide) ?_
                                exact g_lv (List.forall_mem_cons.mpr ⟨List.mem_of_getElem? (i := 0) rfl, (List.forall_mem_cons.mpr ⟨List.mem_of_getElem? (i := 5) rfl, (fun _ h => absurd h List.not_mem_nil)⟩)⟩) (ih13771 y15169 I15166 A15166 L15166 (show Md [3] (upd I 3 0) I15166 from Md.tr hI10856 (show Md [3] I10856 I15166 from (Md.tr Md.rf hI15166 rfl)) rfl) (show Md [2, 3, 4] A A15166 from Md.tr hA10856 (show Md [2, 3, 4] A10856 A15166 from (Md.tr Md.rf hA15166 rfl)) rfl) hV15166 (by omega) (by omega) (by omega) (by omega) hF)
                            · skip
                              replace hF := FE.neg hF (fe_ne hC (by decide))
                              show GW κ 8 0 0 (wM r g I10856 A10856 L10856) 95 [(4, .long x14497), (3, .int x14498), (2, .int y13776), (1, .int x10854), (0, .ref (r 0))] [.int 1]
                              refine g_if_eq (tgt := 124) (a := 1) hk dX12_cut_95 (by decide) rfl (fun z9 => absurd z9 (show ¬ ((1 : Int) = (0 : Int)) from by decide)) (fun _ => ?_)
                              refine g_iload_n hk dX12_cut_98 rfl ?_
                              refine g_bipush (v := 8) hk dX12_cut_99 (by decide) ?_
                              refine g_icmp_ge (tgt := 118) (a := x14498.toInt) (b := 8) hk dX12_cut_101 (by decide) rfl rfl (fun c15170 => ?_) (fun c15170 => ?_)
                              · skip
                                replace hF := FE.pos hF c15170
                                obtain ⟨y15171, ey15171⟩ : ∃ y : Int32, y = x14498 + Int32.ofInt 1 := ⟨_, rfl⟩
                                replace hF := FE.lt hF ey15171
                                have hy15171 : y15171.toInt = x14498.toInt + 1 := i32_add ey15171 rfl (by decide) (by omega) (by omega)
                                refine g_iinc (v := y15171) (lv' := [(3, .int y15171), (4, .long x14497), (2, .int y13776), (1, .int x10854), (0, .ref (r 0))]) hk 1 dX12_cut_118 rfl ey15171.symm (by decide) rfl ?_
                                refine g_goto (tgt := 85) hk dX12_cut_121 (by decide) ?_
                                exact g_lv (List.forall_mem_cons.mpr ⟨List.mem_of_getElem? (i := 1) rfl, (List.forall_mem_cons.mpr ⟨List.mem_of_getElem? (i := 0) rfl, (List.forall_mem_cons.mpr ⟨List.mem_of_getElem? (i := 2) rfl, (List.forall_mem_cons.mpr ⟨List.mem_of_getElem? (i := 3) rfl, (List.forall_mem_cons.mpr ⟨List.mem_of_getElem? (i := 4) rfl, (fun _ h => absurd h List.not_mem_nil)⟩)⟩)⟩)⟩)⟩) (ih14958 x14497 y15171 (by omega) (by omega) (by omega) (by omega) (by omega) hF)
                              · skip
                                replace hF := FE.neg hF c15170
                                refine g_lload hk dX12_cut_104 rfl ?_
                                refine g_aload_n hk dX12_cut_106 rfl ?_
                                refine g_iload_n hk dX12_cut_107 rfl ?_
                                refine g_iload_n hk dX12_cut_108 rfl ?_
                                refine g_iadd hk dX12_cut_109 ?_
                                refine g_topi (fun y15172 ey15172 => ?_)
                                replace hF := FE.lt hF ey15172
                                have hy15172 : y15172.toInt = x10854.toInt + x14498.toInt := i32_add ey15172 rfl rfl (by omega) (by omega)
                                refine g_callV (n := 1) hk (j118_X12_byteAt l D zt r g I10856 A10856 L10856 y15172 hV10856 (by omega)) (SP.same _) (fun _ h => h) (gi_V (List.mem_cons_of_mem _ (List.mem_append_left _ (List.mem_of_getElem? (i := 1) rfl))) (List.mem_cons_of_mem _ (List.mem_append_left _ (List.mem_of_getElem? (i := 2) rfl))) (List.mem_cons_of_mem _ (List.mem_append_left _ (List.mem_of_getElem? (i := 3) rfl))) (List.mem_cons_of_mem _ (List.mem_append_left _ (List.mem_of_getElem? (i := 4) rfl))) (gi_sub (fun w h => (List.mem_cons_of_mem _ (List.mem_append_right _ (List.mem_append_right _ (List.mem_append_left _ h))))) zg_j118_X12_byteAt)) rfl rfl rfl (by decide +kernel) ⟨Nat.le_of_ble_eq_true rfl, Nat.le_of_ble_eq_true rfl⟩ 0 rfl rfl rfl rfl (Nat.le_of_ble_eq_true rfl) ⟨Nat.le_of_ble_eq_true rfl, Nat.le_of_ble_eq_true rfl⟩ dX12_cut_110 (fun v ty' w' hp hk' => ?_)
                                rcases hp with ⟨hC, rfl, rfl⟩ | ⟨y15175, c15174, c15176, c15177, hC, rfl, rfl⟩
                                · skip
                                  replace hF := FE.pos hF (fe_2 hC)
                                  show GW κ 8 0 0 (wM r g I10856 A10856 L10856) 113 [(4, .long x14497), (3, .int x14498), (2, .int y13776), (1, .int x10854), (0, .ref (r 0))] [.int 0, .long x14497]
                                  have k15178 : (0 : Int32).toInt = 0 := rfl
                                  refine g_callS (n := 2) hk (j123_X12_appends l D zt r g I10856 A10856 L10856 x14497 0 hV10856) (SP.same _) (fun _ h => h) (gi_S (List.mem_cons_of_mem _ (List.mem_append_left _ (List.mem_of_getElem? (i := 17) rfl))) (List.mem_cons_of_mem _ (List.mem_append_left _ (List.mem_of_getElem? (i := 18) rfl))) (List.mem_cons_of_mem _ (List.mem_append_left _ (List.mem_of_getElem? (i := 4) rfl))) (gi_sub (fun w h => (List.mem_cons_of_mem _ (List.mem_append_right _ (List.mem_append_right _ (List.mem_append_right _ (List.mem_append_right _ (List.mem_append_right _ (List.mem_append_right _ (List.mem_append_right _ (List.mem_append_left _ h)))))))))) zg_j123_X12_appends)) rfl rfl rfl (by decide +kernel) ⟨Nat.le_of_ble_eq_true rfl, Nat.le_of_ble_eq_true rfl⟩ rfl rfl (Nat.le_of_ble_eq_true rfl) ⟨Nat.le_of_ble_eq_true rfl, Nat.le_of_ble_eq_true rfl⟩ dX12_cut_113 (fun v ty' w' hp hk' => ?_)
                                  obtain ⟨y15179, hC, rfl, rfl⟩ := hp
                                  replace hF := FE.lt hF (fe_s hC)
                                  show GW κ 8 0 0 (wM r g I10856 A10856 L10856) 116 [(4, .long x14497), (3, .int x14498), (2, .int y13776), (1, .int x10854), (0, .ref (r 0))] [.long y15179]
                                  refine g_lstore (lv' := [(4, .long y15179), (3, .int x14498), (2, .int y13776), (1, .int x10854), (0, .ref (r 0))]) hk dX12_cut_116 (by decide) rfl ?_
                                  obtain ⟨y15180, ey15180⟩ : ∃ y : Int32, y = x14498 + Int32.ofInt 1 := ⟨_, rfl⟩
                                  replace hF := FE.lt hF ey15180
                                  have hy15180 : y15180.toInt = x14498.toInt + 1 := i32_add ey15180 rfl (by decide) (by omega) (by omega)
                                  refine g_iinc (v := y15180) (lv' := [(3, .int y15180), (4, .long y15179), (2, .int y13776), (1, .int x10854), (0, .ref (r 0))]) hk 1 dX12_cut_118 rfl ey15180.symm (by decide) rfl ?_
                                  refine g_goto (tgt := 85) hk dX12_cut_121 (by decide) ?_
                                  exact g_lv (List.forall_mem_cons.mpr ⟨List.mem_of_getElem? (i := 1) rfl, (List.forall_mem_cons.mpr ⟨List.mem_of_getElem? (i := 0) rfl, (List.forall_mem_cons.mpr ⟨List.mem_of_getElem? (i := 2) rfl, (List.forall_mem_cons.mpr ⟨List.mem_of_getElem? (i := 3) rfl, (List.forall_mem_cons.mpr ⟨List.mem_of_getElem? (i := 4) rfl, (fun _ h => absurd h List.not_mem_nil)⟩)⟩)⟩)⟩)⟩) (ih14958 y15179 y15180 (by omega) (by omega) (by omega) (by omega) (by omega) hF)
                                · skip
                                  replace hF := FE.neg hF (fe_ne2 hC (by decide))
                                  replace hF := FE.lt hF (fe_1 hC)
                                  show GW κ 8 0 0 (wM r g I10856 A10856 L10856) 113 [(4, .long x14497), (3, .int x14498), (2, .int y13776), (1, .int x10854), (0, .ref (r 0))] [.int y15175, .long x14497]
                                  refine g_callS (n := 2) hk (j123_X12_appends l D zt r g I10856 A10856 L10856 x14497 y15175 hV10856) (SP.same _) (fun _ h => h) (gi_S (List.mem_cons_of_mem _ (List.mem_append_left _ (List.mem_of_getElem? (i := 17) rfl))) (List.mem_cons_of_mem _ (List.mem_append_left _ (List.mem_of_getElem? (i := 18) rfl))) (List.mem_cons_of_mem _ (List.mem_append_left _ (List.mem_of_getElem? (i := 4) rfl))) (gi_sub (fun w h => (List.mem_cons_of_mem _ (List.mem_append_right _ (List.mem_append_right _ (List.mem_append_right _ (List.mem_append_right _ (List.mem_append_right _ (List.mem_append_right _ (List.mem_append_right _ (List.mem_append_left _ h)))))))))) zg_j123_X12_appends)) rfl rfl rfl (by decide +kernel) ⟨Nat.le_of_ble_eq_true rfl, Nat.le_of_ble_eq_true rfl⟩ rfl rfl (Nat.le_of_ble_eq_true rfl) ⟨Nat.le_of_ble_eq_true rfl, Nat.le_of_ble_eq_true rfl⟩ dX12_cut_113 (fun v ty' w' hp hk' => ?_)
                                  obtain ⟨y15181, hC, rfl, rfl⟩ := hp
                                  replace hF := FE.lt hF (fe_s hC)
                                  show GW κ 8 0 0 (wM r g I10856 A10856 L10856) 116 [(4, .long x14497), (3, .int x14498), (2, .int y13776), (1, .int x10854), (0, .ref (r 0))] [.long y15181]
                                  refine g_lstore (lv' := [(4, .long y15181), (3, .int x14498), (2, .int y13776), (1, .int x10854), (0, .ref (r 0))]) hk dX12_cut_116 (by decide) rfl ?_
                                  obtain ⟨y15182, ey15182⟩ : ∃ y : Int32, y = x14498 + Int32.ofInt 1 := ⟨_, rfl⟩
                                  replace hF := FE.lt hF ey15182
                                  have hy15182 : y15182.toInt = x14498.toInt + 1 := i32_add ey15182 rfl (by decide) (by omega) (by omega)
                                  refine g_iinc (v := y15182) (lv' := [(3, .int y15182), (4, .long y15181), (2, .int y13776), (1, .int x10854), (0, .ref (r 0))]) hk 1 dX12_cut_118 rfl ey15182.symm (by decide) rfl ?_
                                  refine g_goto (tgt := 85) hk dX12_cut_121 (by decide) ?_
                                  exact g_lv (List.forall_mem_cons.mpr ⟨List.mem_of_getElem? (i := 1) rfl, (List.forall_mem_cons.mpr ⟨List.mem_of_getElem? (i := 0) rfl, (List.forall_mem_cons.mpr ⟨List.mem_of_getElem? (i := 2) rfl, (List.forall_mem_cons.mpr ⟨List.mem_of_getElem? (i := 3) rfl, (List.forall_mem_cons.mpr ⟨List.mem_of_getElem? (i := 4) rfl, (fun _ h => absurd h List.not_mem_nil)⟩)⟩)⟩)⟩)⟩) (ih14958 y15181 y15182 (by omega) (by omega) (by omega) (by omega) (by omega) hF)
                      have k15183 : (0 : Int32).toInt = 0 := rfl
                      have b15185 := Int32.le_toInt x10854
                      have b15186 := Int32.toInt_lt x10854
                      have b15187 := Int32.le_toInt (0 : Int32)
                      have b15188 := Int32.toInt_lt (0 : Int32)
                      have n15184a : 2001 - x10854.toInt - (0 : Int32).toInt < (FU : Int) := by have := FU_eq; omega
                      have n15184b : 0 < FU := by have := FU_eq; omega
                      exact lp14954 FU 0 0 (by omega) (by omega) (by omega) n15184a n15184b hF
                  · skip
                    replace hF := FE.neg hF c13827
                    obtain ⟨y15189, ey15189⟩ : ∃ y : Int32, y = x10854 + Int32.ofInt 1 := ⟨_, rfl⟩
                    replace hF := FE.lt hF ey15189
                    have hy15189 : y15189.toInt = x10854.toInt + 1 := i32_add ey15189 rfl (by decide) (by omega) (by omega)
                    refine g_iinc (v := y15189) (lv' := [(1, .int y15189), (2, .int y13776), (0, .ref (r 0))]) hk 1 dX12_cut_67 rfl ey15189.symm (by decide) rfl ?_
                    refine g_goto (tgt := 291) hk dX12_cut_70 (by decide) ?_
                    refine g_goto (tgt := 7) hk dX12_cut_291 (by decide) ?_
                    exact g_lv (List.forall_mem_cons.mpr ⟨List.mem_of_getElem? (i := 0) rfl, (List.forall_mem_cons.mpr ⟨List.mem_of_getElem? (i := 2) rfl, (fun _ h => absurd h List.not_mem_nil)⟩)⟩) (ih13771 y15189 I10856 A10856 L10856 (show Md [3] (upd I 3 0) I10856 from Md.tr hI10856 (show Md [3] I10856 I10856 from Md.rf) rfl) (show Md [2, 3, 4] A A10856 from Md.tr hA10856 (show Md [2, 3, 4] A10856 A10856 from Md.rf) rfl) hV10856 (by omega) (by omega) (by omega) (by omega) hF)
          · skip
            replace hF := FE.neg hF c13820
            refine g_aload_n hk dX12_cut_31 rfl ?_
            refine g_iconst (v := 0) hk dX12_cut_32 (by decide) ?_
            refine g_aload_n hk dX12_cut_33 rfl ?_
            refine gM_i2 (v := (I 2)) hk hin12 (List.mem_cons_of_mem _ (List.mem_append_left _ (List.mem_of_getElem? (i := 5) rfl))) dX12_cut_34 (hI10856 2 rfl) ?_
            refine g_iconst (v := 0) hk dX12_cut_37 (by decide) ?_
            refine g_lconst (v := 0) hk dX12_cut_38 (by decide) ?_
            have k15190 : (0 : Int32).toInt = 0 := rfl
            refine g_callV (n := 4) hk (j122_X12_token l D zt r g I10856 A10856 L10856 0 (I 2) 0 0 hV10856 (by omega)) (SP.same _) (fun _ h => h) (gi_V (List.mem_cons_of_mem _ (List.mem_append_left _ (List.mem_of_getElem? (i := 13) rfl))) (List.mem_cons_of_mem _ (List.mem_append_left _ (List.mem_of_getElem? (i := 14) rfl))) (List.mem_cons_of_mem _ (List.mem_append_left _ (List.mem_of_getElem? (i := 15) rfl))) (List.mem_cons_of_mem _ (List.mem_append_left _ (List.mem_of_getElem? (i := 4) rfl))) (gi_sub (fun w h => (List.mem_cons_of_mem _ (List.mem_append_right _ (List.mem_append_right _ (List.mem_append_right _ (List.mem_append_right _ (List.mem_append_right _ (List.mem_append_right _ (List.mem_append_left _ h))))))))) zg_j122_X12_token)) rfl rfl rfl (by decide +kernel) ⟨Nat.le_of_ble_eq_true rfl, Nat.le_of_ble_eq_true rfl⟩ 0 rfl rfl rfl rfl (Nat.le_of_ble_eq_true rfl) ⟨Nat.le_of_ble_eq_true rfl, Nat.le_of_ble_eq_true rfl⟩ dX12_cut_39 (fun v ty' w' hp hk' => ?_)
            obtain ⟨I15192, A15192, L15192, hI15192, hA15192, hV15192, r15193, hC, rfl, rfl⟩ := hp
            replace hF := FE.bdM hF hC
            have f15194 := IvM_f3 hV15192
            show GW κ 8 0 0 (wM r g I15192 A15192 L15192) 42 [(2, .int y13776), (1, .int x10854), (0, .ref (r 0))] []
            exact g_vret hk hR ⟨I15192, A15192, L15192, (show Md [3] I I15192 from (Md.tr (Md.tr (Md.up Md.rf rfl) hI10856 rfl) hI15192 rfl)), (show Md [2, 3, 4] A A15192 from (Md.tr (Md.tr Md.rf hA10856 rfl) hA15192 rfl)), hV15192, hF, rfl, rfl⟩ dX12_cut_42
  have k15195 : (0 : Int32).toInt = 0 := rfl
  have b15197 := Int32.le_toInt (0 : Int32)
  have b15198 := Int32.toInt_lt (0 : Int32)
  have n15196a : 2001 - (0 : Int32).toInt + (402 - (0 : Int32).toInt) < (FU : Int) := by have := FU_eq; omega
  have n15196b : 0 < FU := by have := FU_eq; omega
  exact lp13767 FU 0 (upd I 3 0) A L Md.rf Md.rf ⟨(IvM_f1 (I := I) (A := A) hIv), (IvM_f2 (I := I) (A := A) hIv), (show 0 ≤ (0 : Int32).toInt ∧ (0 : Int32).toInt ≤ 401 from ⟨by decide, by decide⟩), (IvM_f4 (I := I) (A := A) hIv), (IvM_f6 (I := I) (A := A) hIv), (IvM_f8 (I := I) (A := A) hIv), (IvM_f15 (I := I) (A := A) hIv), (IvM_f16 (I := I) (A := A) hIv), (IvM_f17 (I := I) (A := A) hIv), (IvM_f18 (I := I) (A := A) hIv), (IvM_f22 (I := I) (A := A) hIv), (IvM_f23 (I := I) (A := A) hIv), (IvM_f24 (I := I) (A := A) hIv), (IvM_a11 (I := I) (A := A) hIv), (IvM_a26 (I := I) (A := A) hIv), (IvM_s8_0 (I := I) (A := A) hIv), (IvM_s8_1 (I := I) (A := A) hIv), (IvM_s10_0 (I := I) (A := A) hIv), (IvM_s10_1 (I := I) (A := A) hIv), (IvM_s17_0 (I := I) (A := A) hIv), (IvM_s17_164 (I := I) (A := A) hIv), (IvM_lv (I := I) (A := A) hIv), (IvM_sd (I := I) (A := A) hIv), (IvM_nq (I := I) (A := A) hIv), (IvM_hr (I := I) (A := A) hIv), (IvM_hh (I := I) (A := A) hIv), trivial⟩ (by omega) (by omega) (by first | exact n15196a | (rw [show ((upd I 3 0) 3) = (0 : Int32) from rfl] <;> exact n15196a)) n15196b hF
def wo_j124_X12_plain : List Cond := [Cond.fieldLink RX12 43 "WarpDeskModel" "placesTold" "[I", Cond.fieldLink RX12 49 "WarpDeskModel" "queries" "[I", Cond.fieldLink RX12 58 "WarpDeskModel" "bandTold" "[I", Cond.fieldLink RX12 61 "WarpDeskModel" "levelTold" "[I", Cond.fieldLink RX12 64 "WarpDeskModel" "costTold" "[I", Cond.fieldLink RX12 67 "WarpDeskModel" "apartTold" "[I"]
def wz_j124_X12_plain : List Cond := .code yX12_plain cX12_plain 2 none :: (wo_j124_X12_plain ++ (wsX120 ++ ([] : List Cond)))
theorem zg_j124_X12_plain : ∀ w ∈ wz_j124_X12_plain, goodWord w = true := zg_cons rfl (zg_app (by decide +kernel) (zg_app zgU_wsX120 zg_nil))
theorem zi_j124_X12_plain : ∀ w ∈ wz_j124_X12_plain, w ∈ lw_tbl := zi_cons zw_1364 (zi_app (zi_cons zw_1404 (zi_cons zw_1406 (zi_cons zw_1409 (zi_cons zw_1410 (zi_cons zw_1411 (zi_cons zw_1412 zi_nil)))))) (zi_app inX12 zi_nil))
set_option maxHeartbeats 4000000 in
set_option maxRecDepth 100000 in
theorem j124_X12_plain (l : Launch) (D : va_G) (zt : Nat × Nat × Nat × (Nat → Nat) × (Nat → Nat)) (r : Nat → Nat) (g : Nat → ClassId) (I : Nat → Int32) (A : Nat → Nat → Int32) (L : Nat → Nat → Int64) (z1 : Int32)  (hp0 : 0 ≤ z1.toInt) (hp1 : z1.toInt ≤ 1) : GM l D zt (tyM g) yX12_plain wz_j124_X12_plain ({ frames := 0, cells := 0, slots := 0, locals := 0 } : Room) [.ref (r 0), .int z1] (wM r g I A L) (fun v _ w' => v = none ∧ w' = wM r g I (up3 (up3 (up3 (up3 (up3 (up3 A 8 (z1.toNatClampNeg) 0) 10 (z1.toNatClampNeg) 0) 13 (z1.toNatClampNeg) 2) 14 (z1.toNatClampNeg) 0) 15 (z1.toNatClampNeg) 0) 16 (z1.toNatClampNeg) 8) L) 0 0 := by
  refine GM.of (cc := cX12_plain) (maxL := 2) (ret := none) (own := RX12) (lv := [(0, .ref (r 0)), (1, .int z1)]) (by decide) rfl rfl (Nat.le_of_ble_eq_true rfl) rfl (fun κ sz hk hR hN => ?_)
  have hin12 : ∀ w ∈ u_ws RX12 TX12 55, w ∈ wz_j124_X12_plain := fun w h => (List.mem_cons_of_mem _ (List.mem_append_right _ (List.mem_append_left _ h)))
  refine g_aload_n hk dX12_plain_0 rfl ?_
  refine gM_r0_26 hk hin12 (List.mem_cons_of_mem _ (List.mem_append_left _ (List.mem_of_getElem? (i := 0) rfl))) dX12_plain_1 ?_
  refine g_iload_n hk dX12_plain_4 rfl ?_
  refine g_iconst (v := 0) hk dX12_plain_5 (by decide) ?_
  have k15203 : (0 : Int32).toInt = 0 := rfl
  refine sM_8 (j := z1.toNatClampNeg) hk (vp_in_iff.mpr ⟨by omega, by omega⟩) rfl dX12_plain_6 ?_
  refine g_aload_n hk dX12_plain_7 rfl ?_
  refine gM_r0_28 hk hin12 (List.mem_cons_of_mem _ (List.mem_append_left _ (List.mem_of_getElem? (i := 1) rfl))) dX12_plain_8 ?_
  refine g_iload_n hk dX12_plain_11 rfl ?_
  refine g_iconst (v := 0) hk dX12_plain_12 (by decide) ?_
  refine sM_10 (j := z1.toNatClampNeg) hk (vp_in_iff.mpr ⟨by omega, by omega⟩) rfl dX12_plain_13 ?_
  refine g_aload_n hk dX12_plain_14 rfl ?_
  refine gM_r0_31 hk hin12 (List.mem_cons_of_mem _ (List.mem_append_left _ (List.mem_of_getElem? (i := 2) rfl))) dX12_plain_15 ?_
  refine g_iload_n hk dX12_plain_18 rfl ?_
  refine g_iconst (v := 2) hk dX12_plain_19 (by decide) ?_
  have k15204 : (2 : Int32).toInt = 2 := rfl
  refine sM_13 (j := z1.toNatClampNeg) hk (vp_in_iff.mpr ⟨by omega, by omega⟩) rfl dX12_plain_20 ?_
  refine g_aload_n hk dX12_plain_21 rfl ?_
  refine gM_r0_32 hk hin12 (List.mem_cons_of_mem _ (List.mem_append_left _ (List.mem_of_getElem? (i := 3) rfl))) dX12_plain_22 ?_
  refine g_iload_n hk dX12_plain_25 rfl ?_
  refine g_iconst (v := 0) hk dX12_plain_26 (by decide) ?_
  refine sM_14 (j := z1.toNatClampNeg) hk (vp_in_iff.mpr ⟨by omega, by omega⟩) rfl dX12_plain_27 ?_
  refine g_aload_n hk dX12_plain_28 rfl ?_
  refine gM_r0_33 hk hin12 (List.mem_cons_of_mem _ (List.mem_append_left _ (List.mem_of_getElem? (i := 4) rfl))) dX12_plain_29 ?_
  refine g_iload_n hk dX12_plain_32 rfl ?_
  refine g_iconst (v := 0) hk dX12_plain_33 (by decide) ?_
  refine sM_15 (j := z1.toNatClampNeg) hk (vp_in_iff.mpr ⟨by omega, by omega⟩) rfl dX12_plain_34 ?_
  refine g_aload_n hk dX12_plain_35 rfl ?_
  refine gM_r0_34 hk hin12 (List.mem_cons_of_mem _ (List.mem_append_left _ (List.mem_of_getElem? (i := 5) rfl))) dX12_plain_36 ?_
  refine g_iload_n hk dX12_plain_39 rfl ?_
  refine g_bipush (v := 8) hk dX12_plain_40 (by decide) ?_
  have k15205 : (8 : Int32).toInt = 8 := rfl
  refine sM_16 (j := z1.toNatClampNeg) hk (vp_in_iff.mpr ⟨by omega, by omega⟩) rfl dX12_plain_42 ?_
  exact g_vret hk hR ⟨rfl, rfl⟩ dX12_plain_43
noncomputable def fM12_is (I : Nat → Int32) (A : Nat → Nat → Int32) (L : Nat → Nat → Int64) (z1 : Int32) : Int32 := if (I 6).toInt ≠ 0 then 0 else if (A 2 (I 4).toNatClampNeg).toInt ≠ z1.toInt then 0 else 1
def wo_j125_X12_is : List Cond := [Cond.fieldLink RX12 161 "WarpDeskModel" "fault" "I", Cond.fieldLink RX12 20 "WarpDeskModel" "tKind" "[I", Cond.fieldLink RX12 164 "WarpDeskModel" "t" "I"]
def wz_j125_X12_is : List Cond := .code yX12_is cX12_is 2 (some .boolean) :: (wo_j125_X12_is ++ (wsX120 ++ ([] : List Cond)))
theorem zg_j125_X12_is : ∀ w ∈ wz_j125_X12_is, goodWord w = true := zg_cons rfl (zg_app (by decide +kernel) (zg_app zgU_wsX120 zg_nil))
theorem zi_j125_X12_is : ∀ w ∈ wz_j125_X12_is, w ∈ lw_tbl := zi_cons zw_1586 (zi_app (zi_cons zw_1391 (zi_cons zw_1384 (zi_cons zw_1390 zi_nil))) (zi_app inX12 zi_nil))
set_option maxHeartbeats 4000000 in
set_option maxRecDepth 100000 in
theorem j125_X12_is (l : Launch) (D : va_G) (zt : Nat × Nat × Nat × (Nat → Nat) × (Nat → Nat)) (r : Nat → Nat) (g : Nat → ClassId) (I : Nat → Int32) (A : Nat → Nat → Int32) (L : Nat → Nat → Int64) (z1 : Int32) (hIv : IvM I A) : GM l D zt (tyM g) yX12_is wz_j125_X12_is ({ frames := 0, cells := 0, slots := 0, locals := 0 } : Room) [.ref (r 0), .int z1] (wM r g I A L) (fun v _ w' => ((Fc ((I 6).toInt ≠ 0 ∨ (A 2 (I 4).toNatClampNeg).toInt ≠ z1.toInt)) ∧ FE (fM12_is I A L z1) (0) ∧ v = some (.int 0) ∧ w' = wM r g I A L) ∨ (((I 6).toInt = 0 ∧ (A 2 (I 4).toNatClampNeg).toInt = z1.toInt) ∧ FE (fM12_is I A L z1) (1) ∧ v = some (.int 1) ∧ w' = wM r g I A L)) 0 0 := by
  refine GM.of (cc := cX12_is) (maxL := 2) (ret := (some .boolean)) (own := RX12) (lv := [(0, .ref (r 0)), (1, .int z1)]) (by decide) rfl rfl (Nat.le_of_ble_eq_true rfl) rfl (fun κ sz hk hR hN => ?_)
  have hin12 : ∀ w ∈ u_ws RX12 TX12 55, w ∈ wz_j125_X12_is := fun w h => (List.mem_cons_of_mem _ (List.mem_append_right _ (List.mem_append_left _ h)))
  have hF : FE (fM12_is I A L z1) (fM12_is I A L z1) := FE.rf
  refine g_aload_n hk dX12_is_0 rfl ?_
  refine gM_i6 (v := (I 6)) hk hin12 (List.mem_cons_of_mem _ (List.mem_append_left _ (List.mem_of_getElem? (i := 0) rfl))) dX12_is_1 rfl ?_
  have f15210 := IvM_f6 hIv
  refine g_if_ne (tgt := 24) (a := (I 6).toInt) hk dX12_is_4 (by decide) rfl (fun c15211 => ?_) (fun c15211 => ?_)
  · skip
    replace hF := FE.pos hF c15211
    refine g_iconst (v := 0) hk dX12_is_24 (by decide) ?_
    exact g_iret hk hR rfl (Or.inl ⟨(fc (by omega)), hF, rfl, rfl⟩) dX12_is_25
  · skip
    replace hF := FE.neg hF c15211
    refine g_aload_n hk dX12_is_7 rfl ?_
    refine gM_r0_5 hk hin12 (List.mem_cons_of_mem _ (List.mem_append_left _ (List.mem_of_getElem? (i := 1) rfl))) dX12_is_8 ?_
    refine g_aload_n hk dX12_is_11 rfl ?_
    refine gM_i4 (v := (I 4)) hk hin12 (List.mem_cons_of_mem _ (List.mem_append_left _ (List.mem_of_getElem? (i := 2) rfl))) dX12_is_12 rfl ?_
    have f15212 := IvM_f4 hIv
    refine lM_2 (v := (A 2 (I 4).toNatClampNeg)) hk (vp_in_iff.mpr ⟨by omega, by omega⟩) rfl dX12_is_15 ?_
    refine g_iload_n hk dX12_is_16 rfl ?_
    have b15213l := Int32.le_toInt (A 2 (I 4).toNatClampNeg)
    have b15213h := Int32.toInt_lt (A 2 (I 4).toNatClampNeg)
    have b15214l := Int32.le_toInt z1
    have b15214h := Int32.toInt_lt z1
    refine g_icmp_ne (tgt := 24) (a := (A 2 (I 4).toNatClampNeg).toInt) (b := z1.toInt) hk dX12_is_17 (by decide) rfl rfl (fun c15215 => ?_) (fun c15215 => ?_)
    · skip
      replace hF := FE.pos hF c15215
      refine g_iconst (v := 0) hk dX12_is_24 (by decide) ?_
      exact g_iret hk hR rfl (Or.inl ⟨(fc (by omega)), hF, rfl, rfl⟩) dX12_is_25
    · skip
      replace hF := FE.neg hF c15215
      refine g_iconst (v := 1) hk dX12_is_20 (by decide) ?_
      refine g_goto (tgt := 25) hk dX12_is_21 (by decide) ?_
      exact g_iret hk hR rfl (Or.inr (⟨(by omega), hF, rfl, rfl⟩)) dX12_is_25
noncomputable def fM12_fail (I : Nat → Int32) (A : Nat → Nat → Int32) (L : Nat → Nat → Int64) (z1 : Int32) : Int32 × (Nat → Int32) × (Nat → Nat → Int32) × (Nat → Nat → Int64) := if (I 6).toInt ≤ 0 then (0, (upd (upd (upd I 6 z1) 7 (A 3 (I 4).toNatClampNeg)) 12 (I 11)), A, L) else (0, I, A, L)
def wo_j128_X12_fail : List Cond := [Cond.fieldLink RX12 161 "WarpDeskModel" "fault" "I", Cond.fieldLink RX12 24 "WarpDeskModel" "tPlace" "[I", Cond.fieldLink RX12 164 "WarpDeskModel" "t" "I", Cond.fieldLink RX12 167 "WarpDeskModel" "faultPlace" "I", Cond.fieldLink RX12 170 "WarpDeskModel" "here" "I", Cond.fieldLink RX12 173 "WarpDeskModel" "faultCause" "I"]
def wz_j128_X12_fail : List Cond := .code yX12_fail cX12_fail 2 none :: (wo_j128_X12_fail ++ (wsX120 ++ ([] : List Cond)))
theorem zg_j128_X12_fail : ∀ w ∈ wz_j128_X12_fail, goodWord w = true := zg_cons rfl (zg_app (by decide +kernel) (zg_app zgU_wsX120 zg_nil))
theorem zi_j128_X12_fail : ∀ w ∈ wz_j128_X12_fail, w ∈ lw_tbl := zi_cons zw_1598 (zi_app (zi_cons zw_1391 (zi_cons zw_1385 (zi_cons zw_1390 (zi_cons zw_1392 (zi_cons zw_1396 (zi_cons zw_1397 zi_nil)))))) (zi_app inX12 zi_nil))
set_option maxHeartbeats 4000000 in
set_option maxRecDepth 100000 in
theorem j128_X12_fail (l : Launch) (D : va_G) (zt : Nat × Nat × Nat × (Nat → Nat) × (Nat → Nat)) (r : Nat → Nat) (g : Nat → ClassId) (I : Nat → Int32) (A : Nat → Nat → Int32) (L : Nat → Nat → Int64) (z1 : Int32) (hIv : IvM I A) (hp0 : 1 ≤ z1.toInt) (hp1 : z1.toInt ≤ 9) : GM l D zt (tyM g) yX12_fail wz_j128_X12_fail ({ frames := 0, cells := 0, slots := 0, locals := 0 } : Room) [.ref (r 0), .int z1] (wM r g I A L) (fun v _ w' => ∃ (I' : Nat → Int32) (A' : Nat → Nat → Int32) (L' : Nat → Nat → Int64), Md [6, 7, 12] I I' ∧ Md [] A A' ∧ IvM I' A' ∧ ((I 6).toInt ≤ (I' 6).toInt) ∧ ((I 8).toInt ≤ 9 * (I' 8).toInt) ∧ (0 < (I' 6).toInt) ∧ (L' = L) ∧ FE (fM12_fail I A L z1) (0, I', A', L') ∧ v = none ∧ w' = wM r g I' A' L') 0 0 := by
  refine GM.of (cc := cX12_fail) (maxL := 2) (ret := none) (own := RX12) (lv := [(0, .ref (r 0)), (1, .int z1)]) (by decide) rfl rfl (Nat.le_of_ble_eq_true rfl) rfl (fun κ sz hk hR hN => ?_)
  have hin12 : ∀ w ∈ u_ws RX12 TX12 55, w ∈ wz_j128_X12_fail := fun w h => (List.mem_cons_of_mem _ (List.mem_append_right _ (List.mem_append_left _ h)))
  have hF : FE (fM12_fail I A L z1) (fM12_fail I A L z1) := FE.rf
  refine g_aload_n hk dX12_fail_0 rfl ?_
  refine gM_i6 (v := (I 6)) hk hin12 (List.mem_cons_of_mem _ (List.mem_append_left _ (List.mem_of_getElem? (i := 0) rfl))) dX12_fail_1 rfl ?_
  have f15232 := IvM_f6 hIv
  refine g_if_le (tgt := 8) (a := (I 6).toInt) hk dX12_fail_4 (by decide) rfl (fun c15233 => ?_) (fun c15233 => ?_)
  · skip
    replace hF := FE.pos hF c15233
    refine g_aload_n hk dX12_fail_8 rfl ?_
    refine g_iload_n hk dX12_fail_9 rfl ?_
    refine pM_i6 hk hin12 (List.mem_cons_of_mem _ (List.mem_append_left _ (List.mem_of_getElem? (i := 0) rfl))) dX12_fail_10 ?_
    refine g_aload_n hk dX12_fail_13 rfl ?_
    refine g_aload_n hk dX12_fail_14 rfl ?_
    refine gM_r0_6 hk hin12 (List.mem_cons_of_mem _ (List.mem_append_left _ (List.mem_of_getElem? (i := 1) rfl))) dX12_fail_15 ?_
    refine g_aload_n hk dX12_fail_18 rfl ?_
    refine gM_i4 (v := (I 4)) hk hin12 (List.mem_cons_of_mem _ (List.mem_append_left _ (List.mem_of_getElem? (i := 2) rfl))) dX12_fail_19 rfl ?_
    have f15234 := IvM_f4 hIv
    refine lM_3 (v := (A 3 (I 4).toNatClampNeg)) hk (vp_in_iff.mpr ⟨by omega, by omega⟩) rfl dX12_fail_22 ?_
    refine pM_i7 hk hin12 (List.mem_cons_of_mem _ (List.mem_append_left _ (List.mem_of_getElem? (i := 3) rfl))) dX12_fail_23 ?_
    refine g_aload_n hk dX12_fail_26 rfl ?_
    refine g_aload_n hk dX12_fail_27 rfl ?_
    refine gM_i11 (v := (I 11)) hk hin12 (List.mem_cons_of_mem _ (List.mem_append_left _ (List.mem_of_getElem? (i := 4) rfl))) dX12_fail_28 rfl ?_
    refine pM_i12 hk hin12 (List.mem_cons_of_mem _ (List.mem_append_left _ (List.mem_of_getElem? (i := 5) rfl))) dX12_fail_31 ?_
    have f15235 := IvM_f8 hIv
    exact g_vret hk hR ⟨(upd (upd (upd I 6 z1) 7 (A 3 (I 4).toNatClampNeg)) 12 (I 11)), A, L, (show Md [6, 7, 12] I (upd (upd (upd I 6 z1) 7 (A 3 (I 4).toNatClampNeg)) 12 (I 11)) from (Md.up (Md.up (Md.up Md.rf rfl) rfl) rfl)), (show Md [] A A from Md.rf), ⟨(IvM_f1 (I := I) (A := A) hIv), (IvM_f2 (I := I) (A := A) hIv), (IvM_f3 (I := I) (A := A) hIv), (IvM_f4 (I := I) (A := A) hIv), (show 0 ≤ z1.toInt ∧ z1.toInt ≤ 9 from ⟨by omega, by omega⟩), (IvM_f8 (I := I) (A := A) hIv), (IvM_f15 (I := I) (A := A) hIv), (IvM_f16 (I := I) (A := A) hIv), (IvM_f17 (I := I) (A := A) hIv), (IvM_f18 (I := I) (A := A) hIv), (IvM_f22 (I := I) (A := A) hIv), (IvM_f23 (I := I) (A := A) hIv), (IvM_f24 (I := I) (A := A) hIv), (IvM_a11 (I := I) (A := A) hIv), (IvM_a26 (I := I) (A := A) hIv), (IvM_s8_0 (I := I) (A := A) hIv), (IvM_s8_1 (I := I) (A := A) hIv), (IvM_s10_0 (I := I) (A := A) hIv), (IvM_s10_1 (I := I) (A := A) hIv), (IvM_s17_0 (I := I) (A := A) hIv), (IvM_s17_164 (I := I) (A := A) hIv), (IvM_lv (I := I) (A := A) hIv), (Or.inl (show z1.toInt ≠ 0 from by omega)), (IvM_nq (I := I) (A := A) hIv), (IvM_hr (I := I) (A := A) hIv), (IvM_hh (I := I) (A := A) hIv), trivial⟩, (by rw [show ((upd (upd (upd I 6 z1) 7 (A 3 (I 4).toNatClampNeg)) 12 (I 11)) 6) = z1 from rfl] <;> omega), (by rw [show ((upd (upd (upd I 6 z1) 7 (A 3 (I 4).toNatClampNeg)) 12 (I 11)) 8) = (I 8) from rfl] <;> omega), (by rw [show ((upd (upd (upd I 6 z1) 7 (A 3 (I 4).toNatClampNeg)) 12 (I 11)) 6) = z1 from rfl] <;> omega), (show L = L from rfl), hF, rfl, rfl⟩ dX12_fail_34
  · skip
    replace hF := FE.neg hF c15233
    have f15236 := IvM_f8 hIv
    exact g_vret hk hR ⟨I, A, L, (show Md [6, 7, 12] I I from Md.rf), (show Md [] A A from Md.rf), hIv, (by omega), (by omega), (by omega), (show L = L from rfl), hF, rfl, rfl⟩ dX12_fail_7
noncomputable def fM12_goesOn (I : Nat → Int32) (A : Nat → Nat → Int32) (L : Nat → Nat → Int64) : Int32 × (Nat → Int32) × (Nat → Nat → Int32) × (Nat → Nat → Int64) := if (I 4).toInt ≠ 400 then f_lt ((I 4) + (1 : Int32)) fun y15229 => (0, (upd I 4 y15229), A, L) else f_bdM (fM12_fail I A L 2) fun _ I15239 A15239 L15239 => (0, I15239, A15239, L15239)
def wo_j127_X12_goesOn : List Cond := [Cond.fieldLink RX12 164 "WarpDeskModel" "t" "I", Cond.methodLink RX12 185 yX12_fail, Cond.instanceMethod yX12_fail, Cond.selects RX12 yX12_fail yX12_fail, Cond.initialized RX12]
def wz_j127_X12_goesOn : List Cond := .code yX12_goesOn cX12_goesOn 1 none :: (wo_j127_X12_goesOn ++ (wsX120 ++ (wz_j128_X12_fail ++ ([] : List Cond))))
theorem zg_j127_X12_goesOn : ∀ w ∈ wz_j127_X12_goesOn, goodWord w = true := zg_cons rfl (zg_app (by decide +kernel) (zg_app zgU_wsX120 (zg_app zg_j128_X12_fail zg_nil)))
theorem zi_j127_X12_goesOn : ∀ w ∈ wz_j127_X12_goesOn, w ∈ lw_tbl := zi_cons zw_1594 (zi_app (zi_cons zw_1390 (zi_cons zw_1595 (zi_cons zw_1597 (zi_cons zw_55 (zi_cons zw_115 zi_nil))))) (zi_app inX12 (zi_app zi_j128_X12_fail zi_nil)))
set_option maxHeartbeats 4000000 in
set_option maxRecDepth 100000 in
theorem j127_X12_goesOn (l : Launch) (D : va_G) (zt : Nat × Nat × Nat × (Nat → Nat) × (Nat → Nat)) (r : Nat → Nat) (g : Nat → ClassId) (I : Nat → Int32) (A : Nat → Nat → Int32) (L : Nat → Nat → Int64) (hIv : IvM I A) : GM l D zt (tyM g) yX12_goesOn wz_j127_X12_goesOn ({ frames := 1, cells := 0, slots := 0, locals := 21 } : Room) [.ref (r 0)] (wM r g I A L) (fun v _ w' => ∃ (I' : Nat → Int32) (A' : Nat → Nat → Int32) (L' : Nat → Nat → Int64), Md [4, 6, 7, 12] I I' ∧ Md [] A A' ∧ IvM I' A' ∧ ((I 4).toInt ≤ (I' 4).toInt) ∧ ((I 6).toInt ≤ (I' 6).toInt) ∧ ((I 8).toInt ≤ 9 * (I' 8).toInt) ∧ ((I 4).toInt < (I' 4).toInt + (I' 6).toInt) ∧ (L' = L) ∧ FE (fM12_goesOn I A L) (0, I', A', L') ∧ v = none ∧ w' = wM r g I' A' L') 0 0 := by
  refine GM.of (cc := cX12_goesOn) (maxL := 1) (ret := none) (own := RX12) (lv := [(0, .ref (r 0))]) (by decide) rfl rfl (Nat.le_of_ble_eq_true rfl) rfl (fun κ sz hk hR hN => ?_)
  have hin12 : ∀ w ∈ u_ws RX12 TX12 55, w ∈ wz_j127_X12_goesOn := fun w h => (List.mem_cons_of_mem _ (List.mem_append_right _ (List.mem_append_left _ h)))
  have hF : FE (fM12_goesOn I A L) (fM12_goesOn I A L) := FE.rf
  refine g_aload_n hk dX12_goesOn_0 rfl ?_
  refine gM_i4 (v := (I 4)) hk hin12 (List.mem_cons_of_mem _ (List.mem_append_left _ (List.mem_of_getElem? (i := 0) rfl))) dX12_goesOn_1 rfl ?_
  have f15227 := IvM_f4 hIv
  refine g_sipush (v := 400) hk dX12_goesOn_4 (by decide) ?_
  refine g_icmp_ne (tgt := 18) (a := (I 4).toInt) (b := 400) hk dX12_goesOn_7 (by decide) rfl rfl (fun c15228 => ?_) (fun c15228 => ?_)
  · skip
    replace hF := FE.pos hF c15228
    refine g_aload_n hk dX12_goesOn_18 rfl ?_
    refine g_dup hk dX12_goesOn_19 rfl ?_
    refine gM_i4 (v := (I 4)) hk hin12 (List.mem_cons_of_mem _ (List.mem_append_left _ (List.mem_of_getElem? (i := 0) rfl))) dX12_goesOn_20 rfl ?_
    refine g_iconst (v := 1) hk dX12_goesOn_23 (by decide) ?_
    refine g_iadd hk dX12_goesOn_24 ?_
    refine g_topi (fun y15229 ey15229 => ?_)
    replace hF := FE.lt hF ey15229
    have hy15229 : y15229.toInt = (I 4).toInt + 1 := i32_add ey15229 rfl rfl (by omega) (by omega)
    refine pM_i4 hk hin12 (List.mem_cons_of_mem _ (List.mem_append_left _ (List.mem_of_getElem? (i := 0) rfl))) dX12_goesOn_25 ?_
    have f15230 := IvM_f6 hIv
    have f15231 := IvM_f8 hIv
    exact g_vret hk hR ⟨(upd I 4 y15229), A, L, (show Md [4, 6, 7, 12] I (upd I 4 y15229) from (Md.up Md.rf rfl)), (show Md [] A A from Md.rf), ⟨(IvM_f1 (I := I) (A := A) hIv), (IvM_f2 (I := I) (A := A) hIv), (IvM_f3 (I := I) (A := A) hIv), (show 0 ≤ y15229.toInt ∧ y15229.toInt ≤ 400 from ⟨by omega, by omega⟩), (IvM_f6 (I := I) (A := A) hIv), (IvM_f8 (I := I) (A := A) hIv), (IvM_f15 (I := I) (A := A) hIv), (IvM_f16 (I := I) (A := A) hIv), (IvM_f17 (I := I) (A := A) hIv), (IvM_f18 (I := I) (A := A) hIv), (IvM_f22 (I := I) (A := A) hIv), (IvM_f23 (I := I) (A := A) hIv), (IvM_f24 (I := I) (A := A) hIv), (IvM_a11 (I := I) (A := A) hIv), (IvM_a26 (I := I) (A := A) hIv), (IvM_s8_0 (I := I) (A := A) hIv), (IvM_s8_1 (I := I) (A := A) hIv), (IvM_s10_0 (I := I) (A := A) hIv), (IvM_s10_1 (I := I) (A := A) hIv), (IvM_s17_0 (I := I) (A := A) hIv), (IvM_s17_164 (I := I) (A := A) hIv), (IvM_lv (I := I) (A := A) hIv), (IvM_sd (I := I) (A := A) hIv), (IvM_nq (I := I) (A := A) hIv), (IvM_hr (I := I) (A := A) hIv), (IvM_hh (I := I) (A := A) hIv), trivial⟩, (by rw [show ((upd I 4 y15229) 4) = y15229 from rfl] <;> omega), (by rw [show ((upd I 4 y15229) 6) = (I 6) from rfl] <;> omega), (by rw [show ((upd I 4 y15229) 8) = (I 8) from rfl] <;> omega), (by rw [show ((upd I 4 y15229) 4) = y15229 from rfl, show ((upd I 4 y15229) 6) = (I 6) from rfl] <;> omega), (show L = L from rfl), hF, rfl, rfl⟩ dX12_goesOn_28
  · skip
    replace hF := FE.neg hF c15228
    refine g_aload_n hk dX12_goesOn_10 rfl ?_
    refine g_iconst (v := 2) hk dX12_goesOn_11 (by decide) ?_
    have k15237 : (2 : Int32).toInt = 2 := rfl
    refine g_callV (n := 1) hk (j128_X12_fail l D zt r g I A L 2 hIv (by decide) (by decide)) (SP.same _) (fun _ h => h) (gi_V (List.mem_cons_of_mem _ (List.mem_append_left _ (List.mem_of_getElem? (i := 1) rfl))) (List.mem_cons_of_mem _ (List.mem_append_left _ (List.mem_of_getElem? (i := 2) rfl))) (List.mem_cons_of_mem _ (List.mem_append_left _ (List.mem_of_getElem? (i := 3) rfl))) (List.mem_cons_of_mem _ (List.mem_append_left _ (List.mem_of_getElem? (i := 4) rfl))) (gi_sub (fun w h => (List.mem_cons_of_mem _ (List.mem_append_right _ (List.mem_append_right _ (List.mem_append_left _ h))))) zg_j128_X12_fail)) rfl rfl rfl (by decide +kernel) ⟨Nat.le_of_ble_eq_true rfl, Nat.le_of_ble_eq_true rfl⟩ 0 rfl rfl rfl rfl (Nat.le_of_ble_eq_true rfl) ⟨Nat.le_of_ble_eq_true rfl, Nat.le_of_ble_eq_true rfl⟩ dX12_goesOn_12 (fun v ty' w' hp hk' => ?_)
    obtain ⟨I15239, A15239, L15239, hI15239, hA15239, hV15239, r15240, r15241, r15242, hL15239, hC, rfl, rfl⟩ := hp
    replace hF := FE.bdM hF hC
    have f15243 := IvM_f6 hIv
    have f15244 := IvM_f6 hV15239
    have f15245 := IvM_f8 hIv
    rw [show (I15239 8) = (I 8) from (hI15239 8 rfl)] at r15241
    show GW κ 1 0 0 (wM r g I15239 A15239 L15239) 15 [(0, .ref (r 0))] []
    refine g_goto (tgt := 28) hk dX12_goesOn_15 (by decide) ?_
    exact g_vret hk hR ⟨I15239, A15239, L15239, (show Md [4, 6, 7, 12] I I15239 from (Md.tr Md.rf hI15239 rfl)), (show Md [] A A15239 from (Md.tr Md.rf hA15239 rfl)), hV15239, (by rw [show (I15239 4) = (I 4) from (hI15239 4 rfl)] <;> omega), (by omega), (by rw [show (I15239 8) = (I 8) from (hI15239 8 rfl)] <;> omega), (by rw [show (I15239 4) = (I 4) from (hI15239 4 rfl)] <;> omega), (show L15239 = L from hL15239), hF, rfl, rfl⟩ dX12_goesOn_28
noncomputable def fM12_isReading (I : Nat → Int32) (A : Nat → Nat → Int32) (L : Nat → Nat → Int64) : Int32 := if fM12_is I A L 9 = 0 then if fM12_is I A L 2 = 0 then 0 else 1 else 1
def wo_j130_X12_isReading : List Cond := [Cond.methodLink RX12 188 yX12_is, Cond.instanceMethod yX12_is, Cond.selects RX12 yX12_is yX12_is, Cond.initialized RX12]
def wz_j130_X12_isReading : List Cond := .code yX12_isReading cX12_isReading 1 (some .boolean) :: (wo_j130_X12_isReading ++ (wz_j125_X12_is ++ ([] : List Cond)))
theorem zg_j130_X12_isReading : ∀ w ∈ wz_j130_X12_isReading, goodWord w = true := zg_cons rfl (zg_app (by decide +kernel) (zg_app zg_j125_X12_is zg_nil))
theorem zi_j130_X12_isReading : ∀ w ∈ wz_j130_X12_isReading, w ∈ lw_tbl := zi_cons zw_1606 (zi_app (zi_cons zw_1583 (zi_cons zw_1585 (zi_cons zw_52 (zi_cons zw_115 zi_nil)))) (zi_app zi_j125_X12_is zi_nil))
set_option maxHeartbeats 4000000 in
set_option maxRecDepth 100000 in
theorem j130_X12_isReading (l : Launch) (D : va_G) (zt : Nat × Nat × Nat × (Nat → Nat) × (Nat → Nat)) (r : Nat → Nat) (g : Nat → ClassId) (I : Nat → Int32) (A : Nat → Nat → Int32) (L : Nat → Nat → Int64) (hIv : IvM I A) : GM l D zt (tyM g) yX12_isReading wz_j130_X12_isReading ({ frames := 1, cells := 0, slots := 0, locals := 21 } : Room) [.ref (r 0)] (wM r g I A L) (fun v _ w' => (FE (fM12_isReading I A L) (0) ∧ v = some (.int 0) ∧ w' = wM r g I A L) ∨ (FE (fM12_isReading I A L) (1) ∧ v = some (.int 1) ∧ w' = wM r g I A L)) 0 0 := by
  refine GM.of (cc := cX12_isReading) (maxL := 1) (ret := (some .boolean)) (own := RX12) (lv := [(0, .ref (r 0))]) (by decide) rfl rfl (Nat.le_of_ble_eq_true rfl) rfl (fun κ sz hk hR hN => ?_)
  have hF : FE (fM12_isReading I A L) (fM12_isReading I A L) := FE.rf
  refine g_aload_n hk dX12_isReading_0 rfl ?_
  refine g_bipush (v := 9) hk dX12_isReading_1 (by decide) ?_
  have k15259 : (9 : Int32).toInt = 9 := rfl
  refine g_callV (n := 1) hk (j125_X12_is l D zt r g I A L 9 hIv) (SP.same _) (fun _ h => h) (gi_V (List.mem_cons_of_mem _ (List.mem_append_left _ (List.mem_of_getElem? (i := 0) rfl))) (List.mem_cons_of_mem _ (List.mem_append_left _ (List.mem_of_getElem? (i := 1) rfl))) (List.mem_cons_of_mem _ (List.mem_append_left _ (List.mem_of_getElem? (i := 2) rfl))) (List.mem_cons_of_mem _ (List.mem_append_left _ (List.mem_of_getElem? (i := 3) rfl))) (gi_sub (fun w h => (List.mem_cons_of_mem _ (List.mem_append_right _ (List.mem_append_left _ h)))) zg_j125_X12_is)) rfl rfl rfl (by decide +kernel) ⟨Nat.le_of_ble_eq_true rfl, Nat.le_of_ble_eq_true rfl⟩ 0 rfl rfl rfl rfl (Nat.le_of_ble_eq_true rfl) ⟨Nat.le_of_ble_eq_true rfl, Nat.le_of_ble_eq_true rfl⟩ dX12_isReading_3 (fun v ty' w' hp hk' => ?_)
  rcases hp with ⟨c15260, hC, rfl, rfl⟩ | ⟨c15262, hC, rfl, rfl⟩
  · skip
    replace hF := FE.pos hF hC
    have f15264 := IvM_f6 hIv
    show GW κ 1 0 0 (wM r g I A L) 6 [(0, .ref (r 0))] [.int 0]
    refine g_if_ne (tgt := 17) (a := 0) hk dX12_isReading_6 (by decide) rfl (fun z9 => absurd z9 (show ¬ ((0 : Int) ≠ (0 : Int)) from by decide)) (fun _ => ?_)
    refine g_aload_n hk dX12_isReading_9 rfl ?_
    refine g_iconst (v := 2) hk dX12_isReading_10 (by decide) ?_
    have k15265 : (2 : Int32).toInt = 2 := rfl
    refine g_callV (n := 1) hk (j125_X12_is l D zt r g I A L 2 hIv) (SP.same _) (fun _ h => h) (gi_V (List.mem_cons_of_mem _ (List.mem_append_left _ (List.mem_of_getElem? (i := 0) rfl))) (List.mem_cons_of_mem _ (List.mem_append_left _ (List.mem_of_getElem? (i := 1) rfl))) (List.mem_cons_of_mem _ (List.mem_append_left _ (List.mem_of_getElem? (i := 2) rfl))) (List.mem_cons_of_mem _ (List.mem_append_left _ (List.mem_of_getElem? (i := 3) rfl))) (gi_sub (fun w h => (List.mem_cons_of_mem _ (List.mem_append_right _ (List.mem_append_left _ h)))) zg_j125_X12_is)) rfl rfl rfl (by decide +kernel) ⟨Nat.le_of_ble_eq_true rfl, Nat.le_of_ble_eq_true rfl⟩ 0 rfl rfl rfl rfl (Nat.le_of_ble_eq_true rfl) ⟨Nat.le_of_ble_eq_true rfl, Nat.le_of_ble_eq_true rfl⟩ dX12_isReading_11 (fun v ty' w' hp hk' => ?_)
    rcases hp with ⟨c15266, hC, rfl, rfl⟩ | ⟨c15268, hC, rfl, rfl⟩
    · skip
      replace hF := FE.pos hF hC
      show GW κ 1 0 0 (wM r g I A L) 14 [(0, .ref (r 0))] [.int 0]
      refine g_if_eq (tgt := 21) (a := 0) hk dX12_isReading_14 (by decide) rfl (fun _ => ?_) (fun z9 => absurd (show (0 : Int) = (0 : Int) from by decide) z9)
      refine g_iconst (v := 0) hk dX12_isReading_21 (by decide) ?_
      exact g_iret hk hR rfl (Or.inl ⟨hF, rfl, rfl⟩) dX12_isReading_22
    · skip
      replace hF := FE.neg hF (fe_ne hC (by decide))
      show GW κ 1 0 0 (wM r g I A L) 14 [(0, .ref (r 0))] [.int 1]
      refine g_if_eq (tgt := 21) (a := 1) hk dX12_isReading_14 (by decide) rfl (fun z9 => absurd z9 (show ¬ ((1 : Int) = (0 : Int)) from by decide)) (fun _ => ?_)
      refine g_iconst (v := 1) hk dX12_isReading_17 (by decide) ?_
      refine g_goto (tgt := 22) hk dX12_isReading_18 (by decide) ?_
      exact g_iret hk hR rfl (Or.inr (⟨hF, rfl, rfl⟩)) dX12_isReading_22
  · skip
    replace hF := FE.neg hF (fe_ne hC (by decide))
    have f15270 := IvM_f6 hIv
    show GW κ 1 0 0 (wM r g I A L) 6 [(0, .ref (r 0))] [.int 1]
    refine g_if_ne (tgt := 17) (a := 1) hk dX12_isReading_6 (by decide) rfl (fun _ => ?_) (fun z9 => absurd (show (1 : Int) ≠ (0 : Int) from by decide) z9)
    refine g_iconst (v := 1) hk dX12_isReading_17 (by decide) ?_
    refine g_goto (tgt := 22) hk dX12_isReading_18 (by decide) ?_
    exact g_iret hk hR rfl (Or.inr (⟨hF, rfl, rfl⟩)) dX12_isReading_22
noncomputable def fM12_must (I : Nat → Int32) (A : Nat → Nat → Int32) (L : Nat → Nat → Int64) (z1 : Int32) : Int32 × (Nat → Int32) × (Nat → Nat → Int32) × (Nat → Nat → Int64) := if fM12_is I A L z1 = 0 then f_bdM (fM12_fail I A L 1) fun _ I15287 A15287 L15287 => (0, I15287, A15287, L15287) else f_bdM (fM12_goesOn I A L) fun _ I15297 A15297 L15297 => (0, I15297, A15297, L15297)
def wo_j131_X12_must : List Cond := [Cond.methodLink RX12 188 yX12_is, Cond.instanceMethod yX12_is, Cond.selects RX12 yX12_is yX12_is, Cond.initialized RX12, Cond.methodLink RX12 185 yX12_fail, Cond.instanceMethod yX12_fail, Cond.selects RX12 yX12_fail yX12_fail, Cond.methodLink RX12 191 yX12_goesOn, Cond.instanceMethod yX12_goesOn, Cond.selects RX12 yX12_goesOn yX12_goesOn]
def wz_j131_X12_must : List Cond := .code yX12_must cX12_must 2 none :: (wo_j131_X12_must ++ (wz_j125_X12_is ++ (wz_j128_X12_fail ++ (wz_j127_X12_goesOn ++ ([] : List Cond)))))
theorem zg_j131_X12_must : ∀ w ∈ wz_j131_X12_must, goodWord w = true := zg_cons rfl (zg_app (by decide +kernel) (zg_app zg_j125_X12_is (zg_app zg_j128_X12_fail (zg_app zg_j127_X12_goesOn zg_nil))))
theorem zi_j131_X12_must : ∀ w ∈ wz_j131_X12_must, w ∈ lw_tbl := zi_cons zw_1623 (zi_app (zi_cons zw_1583 (zi_cons zw_1585 (zi_cons zw_52 (zi_cons zw_115 (zi_cons zw_1595 (zi_cons zw_1597 (zi_cons zw_55 (zi_cons zw_1591 (zi_cons zw_1593 (zi_cons zw_54 zi_nil)))))))))) (zi_app zi_j125_X12_is (zi_app zi_j128_X12_fail (zi_app zi_j127_X12_goesOn zi_nil))))
set_option maxHeartbeats 4000000 in
set_option maxRecDepth 100000 in
theorem j131_X12_must (l : Launch) (D : va_G) (zt : Nat × Nat × Nat × (Nat → Nat) × (Nat → Nat)) (r : Nat → Nat) (g : Nat → ClassId) (I : Nat → Int32) (A : Nat → Nat → Int32) (L : Nat → Nat → Int64) (z1 : Int32) (hIv : IvM I A) : GM l D zt (tyM g) yX12_must wz_j131_X12_must ({ frames := 2, cells := 0, slots := 0, locals := 41 } : Room) [.ref (r 0), .int z1] (wM r g I A L) (fun v _ w' => ∃ (I' : Nat → Int32) (A' : Nat → Nat → Int32) (L' : Nat → Nat → Int64), Md [4, 6, 7, 12] I I' ∧ Md [] A A' ∧ IvM I' A' ∧ ((I 4).toInt ≤ (I' 4).toInt) ∧ ((I 6).toInt ≤ (I' 6).toInt) ∧ ((I 8).toInt ≤ 9 * (I' 8).toInt) ∧ ((I 4).toInt < (I' 4).toInt + (I' 6).toInt) ∧ (Fc (0 < (I' 6).toInt ∨ ((I 6).toInt = 0 ∧ (A 2 (I 4).toNatClampNeg).toInt = z1.toInt))) ∧ (L' = L) ∧ FE (fM12_must I A L z1) (0, I', A', L') ∧ v = none ∧ w' = wM r g I' A' L') 0 0 := by
  refine GM.of (cc := cX12_must) (maxL := 2) (ret := none) (own := RX12) (lv := [(0, .ref (r 0)), (1, .int z1)]) (by decide) rfl rfl (Nat.le_of_ble_eq_true rfl) rfl (fun κ sz hk hR hN => ?_)
  have hF : FE (fM12_must I A L z1) (fM12_must I A L z1) := FE.rf
  refine g_aload_n hk dX12_must_0 rfl ?_
  refine g_iload_n hk dX12_must_1 rfl ?_
  refine g_callV (n := 1) hk (j125_X12_is l D zt r g I A L z1 hIv) (SP.same _) (fun _ h => h) (gi_V (List.mem_cons_of_mem _ (List.mem_append_left _ (List.mem_of_getElem? (i := 0) rfl))) (List.mem_cons_of_mem _ (List.mem_append_left _ (List.mem_of_getElem? (i := 1) rfl))) (List.mem_cons_of_mem _ (List.mem_append_left _ (List.mem_of_getElem? (i := 2) rfl))) (List.mem_cons_of_mem _ (List.mem_append_left _ (List.mem_of_getElem? (i := 3) rfl))) (gi_sub (fun w h => (List.mem_cons_of_mem _ (List.mem_append_right _ (List.mem_append_left _ h)))) zg_j125_X12_is)) rfl rfl rfl (by decide +kernel) ⟨Nat.le_of_ble_eq_true rfl, Nat.le_of_ble_eq_true rfl⟩ 0 rfl rfl rfl rfl (Nat.le_of_ble_eq_true rfl) ⟨Nat.le_of_ble_eq_true rfl, Nat.le_of_ble_eq_true rfl⟩ dX12_must_2 (fun v ty' w' hp hk' => ?_)
  rcases hp with ⟨c15279, hC, rfl, rfl⟩ | ⟨c15281, hC, rfl, rfl⟩
  · skip
    replace hF := FE.pos hF hC
    have f15283 := IvM_f6 hIv
    have b15284l := Int32.le_toInt z1
    have b15284h := Int32.toInt_lt z1
    show GW κ 2 0 0 (wM r g I A L) 5 [(0, .ref (r 0)), (1, .int z1)] [.int 0]
    refine g_if_eq (tgt := 15) (a := 0) hk dX12_must_5 (by decide) rfl (fun _ => ?_) (fun z9 => absurd (show (0 : Int) = (0 : Int) from by decide) z9)
    refine g_aload_n hk dX12_must_15 rfl ?_
    refine g_iconst (v := 1) hk dX12_must_16 (by decide) ?_
    have k15285 : (1 : Int32).toInt = 1 := rfl
    refine g_callV (n := 1) hk (j128_X12_fail l D zt r g I A L 1 hIv (by decide) (by decide)) (SP.same _) (fun _ h => h) (gi_V (List.mem_cons_of_mem _ (List.mem_append_left _ (List.mem_of_getElem? (i := 4) rfl))) (List.mem_cons_of_mem _ (List.mem_append_left _ (List.mem_of_getElem? (i := 5) rfl))) (List.mem_cons_of_mem _ (List.mem_append_left _ (List.mem_of_getElem? (i := 6) rfl))) (List.mem_cons_of_mem _ (List.mem_append_left _ (List.mem_of_getElem? (i := 3) rfl))) (gi_sub (fun w h => (List.mem_cons_of_mem _ (List.mem_append_right _ (List.mem_append_right _ (List.mem_append_left _ h))))) zg_j128_X12_fail)) rfl rfl rfl (by decide +kernel) ⟨Nat.le_of_ble_eq_true rfl, Nat.le_of_ble_eq_true rfl⟩ 0 rfl rfl rfl rfl (Nat.le_of_ble_eq_true rfl) ⟨Nat.le_of_ble_eq_true rfl, Nat.le_of_ble_eq_true rfl⟩ dX12_must_17 (fun v ty' w' hp hk' => ?_)
    obtain ⟨I15287, A15287, L15287, hI15287, hA15287, hV15287, r15288, r15289, r15290, hL15287, hC, rfl, rfl⟩ := hp
    replace hF := FE.bdM hF hC
    have f15291 := IvM_f6 hV15287
    have f15292 := IvM_f8 hIv
    rw [show (I15287 8) = (I 8) from (hI15287 8 rfl)] at r15289
    show GW κ 2 0 0 (wM r g I15287 A15287 L15287) 20 [(0, .ref (r 0)), (1, .int z1)] []
    have f15293 := IvM_f4 hIv
    exact g_vret hk hR ⟨I15287, A15287, L15287, (show Md [4, 6, 7, 12] I I15287 from (Md.tr Md.rf hI15287 rfl)), (show Md [] A A15287 from (Md.tr Md.rf hA15287 rfl)), hV15287, (by rw [show (I15287 4) = (I 4) from (hI15287 4 rfl)] <;> omega), (by omega), (by rw [show (I15287 8) = (I 8) from (hI15287 8 rfl)] <;> omega), (by rw [show (I15287 4) = (I 4) from (hI15287 4 rfl)] <;> omega), (by have u0 : (I 6).toInt ≠ 0 ∨ (A 2 (I 4).toNatClampNeg).toInt ≠ z1.toInt := c15279; refine fc ?_; omega), (show L15287 = L from hL15287), hF, rfl, rfl⟩ dX12_must_20
  · skip
    replace hF := FE.neg hF (fe_ne hC (by decide))
    have f15294 := IvM_f6 hIv
    have b15295l := Int32.le_toInt z1
    have b15295h := Int32.toInt_lt z1
    show GW κ 2 0 0 (wM r g I A L) 5 [(0, .ref (r 0)), (1, .int z1)] [.int 1]
    refine g_if_eq (tgt := 15) (a := 1) hk dX12_must_5 (by decide) rfl (fun z9 => absurd z9 (show ¬ ((1 : Int) = (0 : Int)) from by decide)) (fun _ => ?_)
    refine g_aload_n hk dX12_must_8 rfl ?_
    refine g_callV (n := 0) hk (j127_X12_goesOn l D zt r g I A L  hIv) (SP.same _) (fun _ h => h) (gi_V (List.mem_cons_of_mem _ (List.mem_append_left _ (List.mem_of_getElem? (i := 7) rfl))) (List.mem_cons_of_mem _ (List.mem_append_left _ (List.mem_of_getElem? (i := 8) rfl))) (List.mem_cons_of_mem _ (List.mem_append_left _ (List.mem_of_getElem? (i := 9) rfl))) (List.mem_cons_of_mem _ (List.mem_append_left _ (List.mem_of_getElem? (i := 3) rfl))) (gi_sub (fun w h => (List.mem_cons_of_mem _ (List.mem_append_right _ (List.mem_append_right _ (List.mem_append_right _ (List.mem_append_left _ h)))))) zg_j127_X12_goesOn)) rfl rfl rfl (by decide +kernel) ⟨Nat.le_of_ble_eq_true rfl, Nat.le_of_ble_eq_true rfl⟩ 0 rfl rfl rfl rfl (Nat.le_of_ble_eq_true rfl) ⟨Nat.le_of_ble_eq_true rfl, Nat.le_of_ble_eq_true rfl⟩ dX12_must_9 (fun v ty' w' hp hk' => ?_)
    obtain ⟨I15297, A15297, L15297, hI15297, hA15297, hV15297, r15298, r15299, r15300, r15301, hL15297, hC, rfl, rfl⟩ := hp
    replace hF := FE.bdM hF hC
    have f15302 := IvM_f4 hIv
    have f15303 := IvM_f4 hV15297
    have f15304 := IvM_f6 hV15297
    have f15305 := IvM_f8 hIv
    rw [show (I15297 8) = (I 8) from (hI15297 8 rfl)] at r15300
    show GW κ 2 0 0 (wM r g I15297 A15297 L15297) 12 [(0, .ref (r 0)), (1, .int z1)] []
    refine g_goto (tgt := 20) hk dX12_must_12 (by decide) ?_
    exact g_vret hk hR ⟨I15297, A15297, L15297, (show Md [4, 6, 7, 12] I I15297 from (Md.tr Md.rf hI15297 rfl)), (show Md [] A A15297 from (Md.tr Md.rf hA15297 rfl)), hV15297, (by omega), (by omega), (by rw [show (I15297 8) = (I 8) from (hI15297 8 rfl)] <;> omega), (by omega), (by refine fc ?_; omega), (show L15297 = L from hL15297), hF, rfl, rfl⟩ dX12_must_20
noncomputable def fM12_wrong (I : Nat → Int32) (A : Nat → Nat → Int32) (L : Nat → Nat → Int64) (z1 : Int32) (z2 : Int32) : Int32 × (Nat → Int32) × (Nat → Nat → Int32) × (Nat → Nat → Int64) := if 0 < (I 6).toInt then (0, I, A, L) else if (I 8).toInt = 0 then (0, (upd (upd (upd I 8 z1) 9 (A 3 z2.toNatClampNeg)) 13 (I 11)), A, L) else if (I 9).toInt < (A 3 z2.toNatClampNeg).toInt then (0, I, A, L) else if (A 3 z2.toNatClampNeg).toInt ≠ (I 9).toInt then (0, (upd (upd (upd I 8 z1) 9 (A 3 z2.toNatClampNeg)) 13 (I 11)), A, L) else if z1.toInt < (I 8).toInt then (0, (upd (upd (upd I 8 z1) 9 (A 3 z2.toNatClampNeg)) 13 (I 11)), A, L) else (0, I, A, L)
def wo_j134_X12_wrong : List Cond := [Cond.fieldLink RX12 24 "WarpDeskModel" "tPlace" "[I", Cond.fieldLink RX12 161 "WarpDeskModel" "fault" "I", Cond.fieldLink RX12 176 "WarpDeskModel" "worst" "I", Cond.fieldLink RX12 179 "WarpDeskModel" "worstPlace" "I", Cond.fieldLink RX12 170 "WarpDeskModel" "here" "I", Cond.fieldLink RX12 182 "WarpDeskModel" "worstCause" "I"]
def wz_j134_X12_wrong : List Cond := .code yX12_wrong cX12_wrong 4 none :: (wo_j134_X12_wrong ++ (wsX120 ++ ([] : List Cond)))
theorem zg_j134_X12_wrong : ∀ w ∈ wz_j134_X12_wrong, goodWord w = true := zg_cons rfl (zg_app (by decide +kernel) (zg_app zgU_wsX120 zg_nil))
theorem zi_j134_X12_wrong : ∀ w ∈ wz_j134_X12_wrong, w ∈ lw_tbl := zi_cons zw_1619 (zi_app (zi_cons zw_1385 (zi_cons zw_1391 (zi_cons zw_1393 (zi_cons zw_1394 (zi_cons zw_1396 (zi_cons zw_1398 zi_nil)))))) (zi_app inX12 zi_nil))
set_option maxHeartbeats 4000000 in
set_option maxRecDepth 100000 in
theorem j134_X12_wrong (l : Launch) (D : va_G) (zt : Nat × Nat × Nat × (Nat → Nat) × (Nat → Nat)) (r : Nat → Nat) (g : Nat → ClassId) (I : Nat → Int32) (A : Nat → Nat → Int32) (L : Nat → Nat → Int64) (z1 : Int32) (z2 : Int32) (hIv : IvM I A) (hp0 : 1 ≤ z1.toInt) (hp1 : z1.toInt ≤ 9) (hp2 : 0 ≤ z2.toInt) (hp3 : z2.toInt ≤ 400) : GM l D zt (tyM g) yX12_wrong wz_j134_X12_wrong ({ frames := 0, cells := 0, slots := 0, locals := 0 } : Room) [.ref (r 0), .int z1, .int z2] (wM r g I A L) (fun v _ w' => ∃ (I' : Nat → Int32) (A' : Nat → Nat → Int32) (L' : Nat → Nat → Int64), Md [8, 9, 13] I I' ∧ Md [] A A' ∧ IvM I' A' ∧ ((I 6).toInt ≤ (I' 6).toInt) ∧ ((I 8).toInt ≤ 9 * (I' 8).toInt) ∧ (1 ≤ (I' 6).toInt + (I' 8).toInt) ∧ (L' = L) ∧ FE (fM12_wrong I A L z1 z2) (0, I', A', L') ∧ v = none ∧ w' = wM r g I' A' L') 0 0 := by
  refine GM.of (cc := cX12_wrong) (maxL := 4) (ret := none) (own := RX12) (lv := [(0, .ref (r 0)), (1, .int z1), (2, .int z2)]) (by decide) rfl rfl (Nat.le_of_ble_eq_true rfl) rfl (fun κ sz hk hR hN => ?_)
  have hin12 : ∀ w ∈ u_ws RX12 TX12 55, w ∈ wz_j134_X12_wrong := fun w h => (List.mem_cons_of_mem _ (List.mem_append_right _ (List.mem_append_left _ h)))
  have hF : FE (fM12_wrong I A L z1 z2) (fM12_wrong I A L z1 z2) := FE.rf
  refine g_aload_n hk dX12_wrong_0 rfl ?_
  refine gM_r0_6 hk hin12 (List.mem_cons_of_mem _ (List.mem_append_left _ (List.mem_of_getElem? (i := 0) rfl))) dX12_wrong_1 ?_
  refine g_iload_n hk dX12_wrong_4 rfl ?_
  refine lM_3 (v := (A 3 z2.toNatClampNeg)) hk (vp_in_iff.mpr ⟨by omega, by omega⟩) rfl dX12_wrong_5 ?_
  refine g_istore_n (lv' := [(3, .int (A 3 z2.toNatClampNeg)), (0, .ref (r 0)), (1, .int z1), (2, .int z2)]) hk dX12_wrong_6 (by decide) rfl ?_
  refine g_aload_n hk dX12_wrong_7 rfl ?_
  refine gM_i6 (v := (I 6)) hk hin12 (List.mem_cons_of_mem _ (List.mem_append_left _ (List.mem_of_getElem? (i := 1) rfl))) dX12_wrong_8 rfl ?_
  have f15369 := IvM_f6 hIv
  refine g_if_gt (tgt := 45) (a := (I 6).toInt) hk dX12_wrong_11 (by decide) rfl (fun c15370 => ?_) (fun c15370 => ?_)
  · skip
    replace hF := FE.pos hF c15370
    have f15371 := IvM_f8 hIv
    exact g_vret hk hR ⟨I, A, L, (show Md [8, 9, 13] I I from Md.rf), (show Md [] A A from Md.rf), hIv, (by omega), (by omega), (by omega), (show L = L from rfl), hF, rfl, rfl⟩ dX12_wrong_45
  · skip
    replace hF := FE.neg hF c15370
    refine g_aload_n hk dX12_wrong_14 rfl ?_
    refine gM_i8 (v := (I 8)) hk hin12 (List.mem_cons_of_mem _ (List.mem_append_left _ (List.mem_of_getElem? (i := 2) rfl))) dX12_wrong_15 rfl ?_
    have f15372 := IvM_f8 hIv
    refine g_if_eq (tgt := 46) (a := (I 8).toInt) hk dX12_wrong_18 (by decide) rfl (fun c15373 => ?_) (fun c15373 => ?_)
    · skip
      replace hF := FE.pos hF c15373
      refine g_aload_n hk dX12_wrong_46 rfl ?_
      refine g_iload_n hk dX12_wrong_47 rfl ?_
      refine pM_i8 hk hin12 (List.mem_cons_of_mem _ (List.mem_append_left _ (List.mem_of_getElem? (i := 2) rfl))) dX12_wrong_48 ?_
      refine g_aload_n hk dX12_wrong_51 rfl ?_
      refine g_iload_n hk dX12_wrong_52 rfl ?_
      refine pM_i9 hk hin12 (List.mem_cons_of_mem _ (List.mem_append_left _ (List.mem_of_getElem? (i := 3) rfl))) dX12_wrong_53 ?_
      refine g_aload_n hk dX12_wrong_56 rfl ?_
      refine g_aload_n hk dX12_wrong_57 rfl ?_
      refine gM_i11 (v := (I 11)) hk hin12 (List.mem_cons_of_mem _ (List.mem_append_left _ (List.mem_of_getElem? (i := 4) rfl))) dX12_wrong_58 rfl ?_
      refine pM_i13 hk hin12 (List.mem_cons_of_mem _ (List.mem_append_left _ (List.mem_of_getElem? (i := 5) rfl))) dX12_wrong_61 ?_
      exact g_vret hk hR ⟨(upd (upd (upd I 8 z1) 9 (A 3 z2.toNatClampNeg)) 13 (I 11)), A, L, (show Md [8, 9, 13] I (upd (upd (upd I 8 z1) 9 (A 3 z2.toNatClampNeg)) 13 (I 11)) from (Md.up (Md.up (Md.up Md.rf rfl) rfl) rfl)), (show Md [] A A from Md.rf), ⟨(IvM_f1 (I := I) (A := A) hIv), (IvM_f2 (I := I) (A := A) hIv), (IvM_f3 (I := I) (A := A) hIv), (IvM_f4 (I := I) (A := A) hIv), (IvM_f6 (I := I) (A := A) hIv), (show 0 ≤ z1.toInt ∧ z1.toInt ≤ 9 from ⟨by omega, by omega⟩), (IvM_f15 (I := I) (A := A) hIv), (IvM_f16 (I := I) (A := A) hIv), (IvM_f17 (I := I) (A := A) hIv), (IvM_f18 (I := I) (A := A) hIv), (IvM_f22 (I := I) (A := A) hIv), (IvM_f23 (I := I) (A := A) hIv), (IvM_f24 (I := I) (A := A) hIv), (IvM_a11 (I := I) (A := A) hIv), (IvM_a26 (I := I) (A := A) hIv), (IvM_s8_0 (I := I) (A := A) hIv), (IvM_s8_1 (I := I) (A := A) hIv), (IvM_s10_0 (I := I) (A := A) hIv), (IvM_s10_1 (I := I) (A := A) hIv), (IvM_s17_0 (I := I) (A := A) hIv), (IvM_s17_164 (I := I) (A := A) hIv), (IvM_lv (I := I) (A := A) hIv), (Or.inr (Or.inl (show z1.toInt ≠ 0 from by omega))), (IvM_nq (I := I) (A := A) hIv), (IvM_hr (I := I) (A := A) hIv), (IvM_hh (I := I) (A := A) hIv), trivial⟩, (by rw [show ((upd (upd (upd I 8 z1) 9 (A 3 z2.toNatClampNeg)) 13 (I 11)) 6) = (I 6) from rfl] <;> omega), (by rw [show ((upd (upd (upd I 8 z1) 9 (A 3 z2.toNatClampNeg)) 13 (I 11)) 8) = z1 from rfl] <;> omega), (by rw [show ((upd (upd (upd I 8 z1) 9 (A 3 z2.toNatClampNeg)) 13 (I 11)) 6) = (I 6) from rfl, show ((upd (upd (upd I 8 z1) 9 (A 3 z2.toNatClampNeg)) 13 (I 11)) 8) = z1 from rfl] <;> omega), (show L = L from rfl), hF, rfl, rfl⟩ dX12_wrong_64
    · skip
      replace hF := FE.neg hF c15373
      refine g_iload_n hk dX12_wrong_21 rfl ?_
      refine g_aload_n hk dX12_wrong_22 rfl ?_
      refine gM_i9 (v := (I 9)) hk hin12 (List.mem_cons_of_mem _ (List.mem_append_left _ (List.mem_of_getElem? (i := 3) rfl))) dX12_wrong_23 rfl ?_
      have b15374l := Int32.le_toInt (A 3 z2.toNatClampNeg)
      have b15374h := Int32.toInt_lt (A 3 z2.toNatClampNeg)
      have b15375l := Int32.le_toInt (I 9)
      have b15375h := Int32.toInt_lt (I 9)
      refine g_icmp_gt (tgt := 45) (a := (A 3 z2.toNatClampNeg).toInt) (b := (I 9).toInt) hk dX12_wrong_26 (by decide) rfl rfl (fun c15376 => ?_) (fun c15376 => ?_)
      · skip
        replace hF := FE.pos hF c15376
        exact g_vret hk hR ⟨I, A, L, (show Md [8, 9, 13] I I from Md.rf), (show Md [] A A from Md.rf), hIv, (by omega), (by omega), (by omega), (show L = L from rfl), hF, rfl, rfl⟩ dX12_wrong_45
      · skip
        replace hF := FE.neg hF c15376
        refine g_iload_n hk dX12_wrong_29 rfl ?_
        refine g_aload_n hk dX12_wrong_30 rfl ?_
        refine gM_i9 (v := (I 9)) hk hin12 (List.mem_cons_of_mem _ (List.mem_append_left _ (List.mem_of_getElem? (i := 3) rfl))) dX12_wrong_31 rfl ?_
        refine g_icmp_ne (tgt := 46) (a := (A 3 z2.toNatClampNeg).toInt) (b := (I 9).toInt) hk dX12_wrong_34 (by decide) rfl rfl (fun c15377 => ?_) (fun c15377 => ?_)
        · skip
          replace hF := FE.pos hF c15377
          refine g_aload_n hk dX12_wrong_46 rfl ?_
          refine g_iload_n hk dX12_wrong_47 rfl ?_
          refine pM_i8 hk hin12 (List.mem_cons_of_mem _ (List.mem_append_left _ (List.mem_of_getElem? (i := 2) rfl))) dX12_wrong_48 ?_
          refine g_aload_n hk dX12_wrong_51 rfl ?_
          refine g_iload_n hk dX12_wrong_52 rfl ?_
          refine pM_i9 hk hin12 (List.mem_cons_of_mem _ (List.mem_append_left _ (List.mem_of_getElem? (i := 3) rfl))) dX12_wrong_53 ?_
          refine g_aload_n hk dX12_wrong_56 rfl ?_
          refine g_aload_n hk dX12_wrong_57 rfl ?_
          refine gM_i11 (v := (I 11)) hk hin12 (List.mem_cons_of_mem _ (List.mem_append_left _ (List.mem_of_getElem? (i := 4) rfl))) dX12_wrong_58 rfl ?_
          refine pM_i13 hk hin12 (List.mem_cons_of_mem _ (List.mem_append_left _ (List.mem_of_getElem? (i := 5) rfl))) dX12_wrong_61 ?_
          exact g_vret hk hR ⟨(upd (upd (upd I 8 z1) 9 (A 3 z2.toNatClampNeg)) 13 (I 11)), A, L, (show Md [8, 9, 13] I (upd (upd (upd I 8 z1) 9 (A 3 z2.toNatClampNeg)) 13 (I 11)) from (Md.up (Md.up (Md.up Md.rf rfl) rfl) rfl)), (show Md [] A A from Md.rf), ⟨(IvM_f1 (I := I) (A := A) hIv), (IvM_f2 (I := I) (A := A) hIv), (IvM_f3 (I := I) (A := A) hIv), (IvM_f4 (I := I) (A := A) hIv), (IvM_f6 (I := I) (A := A) hIv), (show 0 ≤ z1.toInt ∧ z1.toInt ≤ 9 from ⟨by omega, by omega⟩), (IvM_f15 (I := I) (A := A) hIv), (IvM_f16 (I := I) (A := A) hIv), (IvM_f17 (I := I) (A := A) hIv), (IvM_f18 (I := I) (A := A) hIv), (IvM_f22 (I := I) (A := A) hIv), (IvM_f23 (I := I) (A := A) hIv), (IvM_f24 (I := I) (A := A) hIv), (IvM_a11 (I := I) (A := A) hIv), (IvM_a26 (I := I) (A := A) hIv), (IvM_s8_0 (I := I) (A := A) hIv), (IvM_s8_1 (I := I) (A := A) hIv), (IvM_s10_0 (I := I) (A := A) hIv), (IvM_s10_1 (I := I) (A := A) hIv), (IvM_s17_0 (I := I) (A := A) hIv), (IvM_s17_164 (I := I) (A := A) hIv), (IvM_lv (I := I) (A := A) hIv), (Or.inr (Or.inl (show z1.toInt ≠ 0 from by omega))), (IvM_nq (I := I) (A := A) hIv), (IvM_hr (I := I) (A := A) hIv), (IvM_hh (I := I) (A := A) hIv), trivial⟩, (by rw [show ((upd (upd (upd I 8 z1) 9 (A 3 z2.toNatClampNeg)) 13 (I 11)) 6) = (I 6) from rfl] <;> omega), (by rw [show ((upd (upd (upd I 8 z1) 9 (A 3 z2.toNatClampNeg)) 13 (I 11)) 8) = z1 from rfl] <;> omega), (by rw [show ((upd (upd (upd I 8 z1) 9 (A 3 z2.toNatClampNeg)) 13 (I 11)) 6) = (I 6) from rfl, show ((upd (upd (upd I 8 z1) 9 (A 3 z2.toNatClampNeg)) 13 (I 11)) 8) = z1 from rfl] <;> omega), (show L = L from rfl), hF, rfl, rfl⟩ dX12_wrong_64
        · skip
          replace hF := FE.neg hF c15377
          refine g_iload_n hk dX12_wrong_37 rfl ?_
          refine g_aload_n hk dX12_wrong_38 rfl ?_
          refine gM_i8 (v := (I 8)) hk hin12 (List.mem_cons_of_mem _ (List.mem_append_left _ (List.mem_of_getElem? (i := 2) rfl))) dX12_wrong_39 rfl ?_
          refine g_icmp_lt (tgt := 46) (a := z1.toInt) (b := (I 8).toInt) hk dX12_wrong_42 (by decide) rfl rfl (fun c15378 => ?_) (fun c15378 => ?_)
          · skip
            replace hF := FE.pos hF c15378
            refine g_aload_n hk dX12_wrong_46 rfl ?_
            refine g_iload_n hk dX12_wrong_47 rfl ?_
            refine pM_i8 hk hin12 (List.mem_cons_of_mem _ (List.mem_append_left _ (List.mem_of_getElem? (i := 2) rfl))) dX12_wrong_48 ?_
            refine g_aload_n hk dX12_wrong_51 rfl ?_
            refine g_iload_n hk dX12_wrong_52 rfl ?_
            refine pM_i9 hk hin12 (List.mem_cons_of_mem _ (List.mem_append_left _ (List.mem_of_getElem? (i := 3) rfl))) dX12_wrong_53 ?_
            refine g_aload_n hk dX12_wrong_56 rfl ?_
            refine g_aload_n hk dX12_wrong_57 rfl ?_
            refine gM_i11 (v := (I 11)) hk hin12 (List.mem_cons_of_mem _ (List.mem_append_left _ (List.mem_of_getElem? (i := 4) rfl))) dX12_wrong_58 rfl ?_
            refine pM_i13 hk hin12 (List.mem_cons_of_mem _ (List.mem_append_left _ (List.mem_of_getElem? (i := 5) rfl))) dX12_wrong_61 ?_
            exact g_vret hk hR ⟨(upd (upd (upd I 8 z1) 9 (A 3 z2.toNatClampNeg)) 13 (I 11)), A, L, (show Md [8, 9, 13] I (upd (upd (upd I 8 z1) 9 (A 3 z2.toNatClampNeg)) 13 (I 11)) from (Md.up (Md.up (Md.up Md.rf rfl) rfl) rfl)), (show Md [] A A from Md.rf), ⟨(IvM_f1 (I := I) (A := A) hIv), (IvM_f2 (I := I) (A := A) hIv), (IvM_f3 (I := I) (A := A) hIv), (IvM_f4 (I := I) (A := A) hIv), (IvM_f6 (I := I) (A := A) hIv), (show 0 ≤ z1.toInt ∧ z1.toInt ≤ 9 from ⟨by omega, by omega⟩), (IvM_f15 (I := I) (A := A) hIv), (IvM_f16 (I := I) (A := A) hIv), (IvM_f17 (I := I) (A := A) hIv), (IvM_f18 (I := I) (A := A) hIv), (IvM_f22 (I := I) (A := A) hIv), (IvM_f23 (I := I) (A := A) hIv), (IvM_f24 (I := I) (A := A) hIv), (IvM_a11 (I := I) (A := A) hIv), (IvM_a26 (I := I) (A := A) hIv), (IvM_s8_0 (I := I) (A := A) hIv), (IvM_s8_1 (I := I) (A := A) hIv), (IvM_s10_0 (I := I) (A := A) hIv), (IvM_s10_1 (I := I) (A := A) hIv), (IvM_s17_0 (I := I) (A := A) hIv), (IvM_s17_164 (I := I) (A := A) hIv), (IvM_lv (I := I) (A := A) hIv), (Or.inr (Or.inl (show z1.toInt ≠ 0 from by omega))), (IvM_nq (I := I) (A := A) hIv), (IvM_hr (I := I) (A := A) hIv), (IvM_hh (I := I) (A := A) hIv), trivial⟩, (by rw [show ((upd (upd (upd I 8 z1) 9 (A 3 z2.toNatClampNeg)) 13 (I 11)) 6) = (I 6) from rfl] <;> omega), (by rw [show ((upd (upd (upd I 8 z1) 9 (A 3 z2.toNatClampNeg)) 13 (I 11)) 8) = z1 from rfl] <;> omega), (by rw [show ((upd (upd (upd I 8 z1) 9 (A 3 z2.toNatClampNeg)) 13 (I 11)) 6) = (I 6) from rfl, show ((upd (upd (upd I 8 z1) 9 (A 3 z2.toNatClampNeg)) 13 (I 11)) 8) = z1 from rfl] <;> omega), (show L = L from rfl), hF, rfl, rfl⟩ dX12_wrong_64
          · skip
            replace hF := FE.neg hF c15378
            exact g_vret hk hR ⟨I, A, L, (show Md [8, 9, 13] I I from Md.rf), (show Md [] A A from Md.rf), hIv, (by omega), (by omega), (by omega), (show L = L from rfl), hF, rfl, rfl⟩ dX12_wrong_45
noncomputable def fM12_bounded (I : Nat → Int32) (A : Nat → Nat → Int32) (L : Nat → Nat → Int64) (z1 : Int32) (z2 : Int32) : Int32 × (Nat → Int32) × (Nat → Nat → Int32) × (Nat → Nat → Int64) := if 0 < (I 6).toInt then f_bdM (fM12_fail I A L 1) fun _ I15342 A15342 L15342 => (z1, I15342, A15342, L15342) else if fM12_is I A L 2 = 0 then f_bdM (fM12_fail I A L 1) fun _ I15357 A15357 L15357 => (z1, I15357, A15357, L15357) else if (A 4 (I 4).toNatClampNeg).toInt < z1.toInt then f_bdM (fM12_wrong I A L 5 (I 4)) fun _ I15381 A15381 L15381 => f_bdM (fM12_goesOn I15381 A15381 L15381) fun _ I15388 A15388 L15388 => ((A 4 (I 4).toNatClampNeg), I15388, A15388, L15388) else if (A 4 (I 4).toNatClampNeg).toInt ≤ z2.toInt then f_bdM (fM12_goesOn I A L) fun _ I15398 A15398 L15398 => ((A 4 (I 4).toNatClampNeg), I15398, A15398, L15398) else f_bdM (fM12_wrong I A L 5 (I 4)) fun _ I15408 A15408 L15408 => f_bdM (fM12_goesOn I15408 A15408 L15408) fun _ I15415 A15415 L15415 => ((A 4 (I 4).toNatClampNeg), I15415, A15415, L15415)
def wo_j133_X12_bounded : List Cond := [Cond.fieldLink RX12 161 "WarpDeskModel" "fault" "I", Cond.methodLink RX12 185 yX12_fail, Cond.instanceMethod yX12_fail, Cond.selects RX12 yX12_fail yX12_fail, Cond.initialized RX12, Cond.methodLink RX12 188 yX12_is, Cond.instanceMethod yX12_is, Cond.selects RX12 yX12_is yX12_is, Cond.fieldLink RX12 27 "WarpDeskModel" "tValue" "[I", Cond.fieldLink RX12 164 "WarpDeskModel" "t" "I", Cond.methodLink RX12 231 yX12_wrong, Cond.instanceMethod yX12_wrong, Cond.selects RX12 yX12_wrong yX12_wrong, Cond.methodLink RX12 191 yX12_goesOn, Cond.instanceMethod yX12_goesOn, Cond.selects RX12 yX12_goesOn yX12_goesOn]
def wz_j133_X12_bounded : List Cond := .code yX12_bounded cX12_bounded 4 (some .int) :: (wo_j133_X12_bounded ++ (wsX120 ++ (wz_j128_X12_fail ++ (wz_j125_X12_is ++ (wz_j134_X12_wrong ++ (wz_j127_X12_goesOn ++ ([] : List Cond)))))))
theorem zg_j133_X12_bounded : ∀ w ∈ wz_j133_X12_bounded, goodWord w = true := zg_cons rfl (zg_app (by decide +kernel) (zg_app zgU_wsX120 (zg_app zg_j128_X12_fail (zg_app zg_j125_X12_is (zg_app zg_j134_X12_wrong (zg_app zg_j127_X12_goesOn zg_nil))))))
theorem zi_j133_X12_bounded : ∀ w ∈ wz_j133_X12_bounded, w ∈ lw_tbl := zi_cons zw_1615 (zi_app (zi_cons zw_1391 (zi_cons zw_1595 (zi_cons zw_1597 (zi_cons zw_55 (zi_cons zw_115 (zi_cons zw_1583 (zi_cons zw_1585 (zi_cons zw_52 (zi_cons zw_1386 (zi_cons zw_1390 (zi_cons zw_1616 (zi_cons zw_1618 (zi_cons zw_60 (zi_cons zw_1591 (zi_cons zw_1593 (zi_cons zw_54 zi_nil)))))))))))))))) (zi_app inX12 (zi_app zi_j128_X12_fail (zi_app zi_j125_X12_is (zi_app zi_j134_X12_wrong (zi_app zi_j127_X12_goesOn zi_nil))))))
set_option maxHeartbeats 4000000 in
set_option maxRecDepth 100000 in
theorem j133_X12_bounded (l : Launch) (D : va_G) (zt : Nat × Nat × Nat × (Nat → Nat) × (Nat → Nat)) (r : Nat → Nat) (g : Nat → ClassId) (I : Nat → Int32) (A : Nat → Nat → Int32) (L : Nat → Nat → Int64) (z1 : Int32) (z2 : Int32) (hIv : IvM I A) : GM l D zt (tyM g) yX12_bounded wz_j133_X12_bounded ({ frames := 2, cells := 0, slots := 0, locals := 41 } : Room) [.ref (r 0), .int z1, .int z2] (wM r g I A L) (fun v _ w' => ∃ (I' : Nat → Int32) (A' : Nat → Nat → Int32) (L' : Nat → Nat → Int64), Md [4, 6, 7, 8, 9, 12, 13] I I' ∧ Md [] A A' ∧ IvM I' A' ∧ ∃ y0 : Int32, ((I 4).toInt ≤ (I' 4).toInt) ∧ ((I 6).toInt ≤ (I' 6).toInt) ∧ ((I 8).toInt ≤ 9 * (I' 8).toInt) ∧ ((I 4).toInt < (I' 4).toInt + (I' 6).toInt) ∧ (z1.toInt ≤ y0.toInt + 8589934592 * ((I' 6).toInt + (I' 8).toInt)) ∧ (L' = L) ∧ FE (fM12_bounded I A L z1 z2) (y0, I', A', L') ∧ v = some (.int y0) ∧ w' = wM r g I' A' L') 0 0 := by
  refine GM.of (cc := cX12_bounded) (maxL := 4) (ret := (some .int)) (own := RX12) (lv := [(0, .ref (r 0)), (1, .int z1), (2, .int z2)]) (by decide) rfl rfl (Nat.le_of_ble_eq_true rfl) rfl (fun κ sz hk hR hN => ?_)
  have hin12 : ∀ w ∈ u_ws RX12 TX12 55, w ∈ wz_j133_X12_bounded := fun w h => (List.mem_cons_of_mem _ (List.mem_append_right _ (List.mem_append_left _ h)))
  have hF : FE (fM12_bounded I A L z1 z2) (fM12_bounded I A L z1 z2) := FE.rf
  refine g_aload_n hk dX12_bounded_0 rfl ?_
  refine gM_i6 (v := (I 6)) hk hin12 (List.mem_cons_of_mem _ (List.mem_append_left _ (List.mem_of_getElem? (i := 0) rfl))) dX12_bounded_1 rfl ?_
  have f15338 := IvM_f6 hIv
  refine g_if_gt (tgt := 15) (a := (I 6).toInt) hk dX12_bounded_4 (by decide) rfl (fun c15339 => ?_) (fun c15339 => ?_)
  · skip
    replace hF := FE.pos hF c15339
    refine g_aload_n hk dX12_bounded_15 rfl ?_
    refine g_iconst (v := 1) hk dX12_bounded_16 (by decide) ?_
    have k15340 : (1 : Int32).toInt = 1 := rfl
    refine g_callV (n := 1) hk (j128_X12_fail l D zt r g I A L 1 hIv (by decide) (by decide)) (SP.same _) (fun _ h => h) (gi_V (List.mem_cons_of_mem _ (List.mem_append_left _ (List.mem_of_getElem? (i := 1) rfl))) (List.mem_cons_of_mem _ (List.mem_append_left _ (List.mem_of_getElem? (i := 2) rfl))) (List.mem_cons_of_mem _ (List.mem_append_left _ (List.mem_of_getElem? (i := 3) rfl))) (List.mem_cons_of_mem _ (List.mem_append_left _ (List.mem_of_getElem? (i := 4) rfl))) (gi_sub (fun w h => (List.mem_cons_of_mem _ (List.mem_append_right _ (List.mem_append_right _ (List.mem_append_left _ h))))) zg_j128_X12_fail)) rfl rfl rfl (by decide +kernel) ⟨Nat.le_of_ble_eq_true rfl, Nat.le_of_ble_eq_true rfl⟩ 0 rfl rfl rfl rfl (Nat.le_of_ble_eq_true rfl) ⟨Nat.le_of_ble_eq_true rfl, Nat.le_of_ble_eq_true rfl⟩ dX12_bounded_17 (fun v ty' w' hp hk' => ?_)
    obtain ⟨I15342, A15342, L15342, hI15342, hA15342, hV15342, r15343, r15344, r15345, hL15342, hC, rfl, rfl⟩ := hp
    replace hF := FE.bdM hF hC
    have f15346 := IvM_f6 hV15342
    have f15347 := IvM_f8 hIv
    rw [show (I15342 8) = (I 8) from (hI15342 8 rfl)] at r15344
    show GW κ 4 0 0 (wM r g I15342 A15342 L15342) 20 [(0, .ref (r 0)), (1, .int z1), (2, .int z2)] []
    refine g_iload_n hk dX12_bounded_20 rfl ?_
    have b15348l := Int32.le_toInt z1
    have b15348h := Int32.toInt_lt z1
    have f15349 := IvM_f4 hIv
    exact g_iret hk hR rfl ⟨I15342, A15342, L15342, (show Md [4, 6, 7, 8, 9, 12, 13] I I15342 from (Md.tr Md.rf hI15342 rfl)), (show Md [] A A15342 from (Md.tr Md.rf hA15342 rfl)), hV15342, z1, (by rw [show (I15342 4) = (I 4) from (hI15342 4 rfl)] <;> omega), (by omega), (by rw [show (I15342 8) = (I 8) from (hI15342 8 rfl)] <;> omega), (by rw [show (I15342 4) = (I 4) from (hI15342 4 rfl)] <;> omega), (by rw [show (I15342 8) = (I 8) from (hI15342 8 rfl)] <;> omega), (show L15342 = L from hL15342), hF, rfl, rfl⟩ dX12_bounded_21
  · skip
    replace hF := FE.neg hF c15339
    refine g_aload_n hk dX12_bounded_7 rfl ?_
    refine g_iconst (v := 2) hk dX12_bounded_8 (by decide) ?_
    have k15350 : (2 : Int32).toInt = 2 := rfl
    refine g_callV (n := 1) hk (j125_X12_is l D zt r g I A L 2 hIv) (SP.same _) (fun _ h => h) (gi_V (List.mem_cons_of_mem _ (List.mem_append_left _ (List.mem_of_getElem? (i := 5) rfl))) (List.mem_cons_of_mem _ (List.mem_append_left _ (List.mem_of_getElem? (i := 6) rfl))) (List.mem_cons_of_mem _ (List.mem_append_left _ (List.mem_of_getElem? (i := 7) rfl))) (List.mem_cons_of_mem _ (List.mem_append_left _ (List.mem_of_getElem? (i := 4) rfl))) (gi_sub (fun w h => (List.mem_cons_of_mem _ (List.mem_append_right _ (List.mem_append_right _ (List.mem_append_right _ (List.mem_append_left _ h)))))) zg_j125_X12_is)) rfl rfl rfl (by decide +kernel) ⟨Nat.le_of_ble_eq_true rfl, Nat.le_of_ble_eq_true rfl⟩ 0 rfl rfl rfl rfl (Nat.le_of_ble_eq_true rfl) ⟨Nat.le_of_ble_eq_true rfl, Nat.le_of_ble_eq_true rfl⟩ dX12_bounded_9 (fun v ty' w' hp hk' => ?_)
    rcases hp with ⟨c15351, hC, rfl, rfl⟩ | ⟨c15353, hC, rfl, rfl⟩
    · skip
      replace hF := FE.pos hF hC
      show GW κ 4 0 0 (wM r g I A L) 12 [(0, .ref (r 0)), (1, .int z1), (2, .int z2)] [.int 0]
      refine g_if_ne (tgt := 22) (a := 0) hk dX12_bounded_12 (by decide) rfl (fun z9 => absurd z9 (show ¬ ((0 : Int) ≠ (0 : Int)) from by decide)) (fun _ => ?_)
      refine g_aload_n hk dX12_bounded_15 rfl ?_
      refine g_iconst (v := 1) hk dX12_bounded_16 (by decide) ?_
      have k15355 : (1 : Int32).toInt = 1 := rfl
      refine g_callV (n := 1) hk (j128_X12_fail l D zt r g I A L 1 hIv (by decide) (by decide)) (SP.same _) (fun _ h => h) (gi_V (List.mem_cons_of_mem _ (List.mem_append_left _ (List.mem_of_getElem? (i := 1) rfl))) (List.mem_cons_of_mem _ (List.mem_append_left _ (List.mem_of_getElem? (i := 2) rfl))) (List.mem_cons_of_mem _ (List.mem_append_left _ (List.mem_of_getElem? (i := 3) rfl))) (List.mem_cons_of_mem _ (List.mem_append_left _ (List.mem_of_getElem? (i := 4) rfl))) (gi_sub (fun w h => (List.mem_cons_of_mem _ (List.mem_append_right _ (List.mem_append_right _ (List.mem_append_left _ h))))) zg_j128_X12_fail)) rfl rfl rfl (by decide +kernel) ⟨Nat.le_of_ble_eq_true rfl, Nat.le_of_ble_eq_true rfl⟩ 0 rfl rfl rfl rfl (Nat.le_of_ble_eq_true rfl) ⟨Nat.le_of_ble_eq_true rfl, Nat.le_of_ble_eq_true rfl⟩ dX12_bounded_17 (fun v ty' w' hp hk' => ?_)
      obtain ⟨I15357, A15357, L15357, hI15357, hA15357, hV15357, r15358, r15359, r15360, hL15357, hC, rfl, rfl⟩ := hp
      replace hF := FE.bdM hF hC
      have f15361 := IvM_f6 hV15357
      have f15362 := IvM_f8 hIv
      rw [show (I15357 8) = (I 8) from (hI15357 8 rfl)] at r15359
      show GW κ 4 0 0 (wM r g I15357 A15357 L15357) 20 [(0, .ref (r 0)), (1, .int z1), (2, .int z2)] []
      refine g_iload_n hk dX12_bounded_20 rfl ?_
      have b15363l := Int32.le_toInt z1
      have b15363h := Int32.toInt_lt z1
      have f15364 := IvM_f4 hIv
      exact g_iret hk hR rfl ⟨I15357, A15357, L15357, (show Md [4, 6, 7, 8, 9, 12, 13] I I15357 from (Md.tr Md.rf hI15357 rfl)), (show Md [] A A15357 from (Md.tr Md.rf hA15357 rfl)), hV15357, z1, (by rw [show (I15357 4) = (I 4) from (hI15357 4 rfl)] <;> omega), (by omega), (by rw [show (I15357 8) = (I 8) from (hI15357 8 rfl)] <;> omega), (by rw [show (I15357 4) = (I 4) from (hI15357 4 rfl)] <;> omega), (by rw [show (I15357 8) = (I 8) from (hI15357 8 rfl)] <;> omega), (show L15357 = L from hL15357), hF, rfl, rfl⟩ dX12_bounded_21
    · skip
      replace hF := FE.neg hF (fe_ne hC (by decide))
      show GW κ 4 0 0 (wM r g I A L) 12 [(0, .ref (r 0)), (1, .int z1), (2, .int z2)] [.int 1]
      refine g_if_ne (tgt := 22) (a := 1) hk dX12_bounded_12 (by decide) rfl (fun _ => ?_) (fun z9 => absurd (show (1 : Int) ≠ (0 : Int) from by decide) z9)
      refine g_aload_n hk dX12_bounded_22 rfl ?_
      refine gM_r0_7 hk hin12 (List.mem_cons_of_mem _ (List.mem_append_left _ (List.mem_of_getElem? (i := 8) rfl))) dX12_bounded_23 ?_
      refine g_aload_n hk dX12_bounded_26 rfl ?_
      refine gM_i4 (v := (I 4)) hk hin12 (List.mem_cons_of_mem _ (List.mem_append_left _ (List.mem_of_getElem? (i := 9) rfl))) dX12_bounded_27 rfl ?_
      have f15365 := IvM_f4 hIv
      refine lM_4 (v := (A 4 (I 4).toNatClampNeg)) hk (vp_in_iff.mpr ⟨by omega, by omega⟩) rfl dX12_bounded_30 ?_
      refine g_istore_n (lv' := [(3, .int (A 4 (I 4).toNatClampNeg)), (0, .ref (r 0)), (1, .int z1), (2, .int z2)]) hk dX12_bounded_31 (by decide) rfl ?_
      refine g_iload_n hk dX12_bounded_32 rfl ?_
      refine g_iload_n hk dX12_bounded_33 rfl ?_
      have b15366l := Int32.le_toInt (A 4 (I 4).toNatClampNeg)
      have b15366h := Int32.toInt_lt (A 4 (I 4).toNatClampNeg)
      have b15367l := Int32.le_toInt z1
      have b15367h := Int32.toInt_lt z1
      refine g_icmp_lt (tgt := 42) (a := (A 4 (I 4).toNatClampNeg).toInt) (b := z1.toInt) hk dX12_bounded_34 (by decide) rfl rfl (fun c15368 => ?_) (fun c15368 => ?_)
      · skip
        replace hF := FE.pos hF c15368
        refine g_aload_n hk dX12_bounded_42 rfl ?_
        refine g_iconst (v := 5) hk dX12_bounded_43 (by decide) ?_
        refine g_aload_n hk dX12_bounded_44 rfl ?_
        refine gM_i4 (v := (I 4)) hk hin12 (List.mem_cons_of_mem _ (List.mem_append_left _ (List.mem_of_getElem? (i := 9) rfl))) dX12_bounded_45 rfl ?_
        have k15379 : (5 : Int32).toInt = 5 := rfl
        refine g_callV (n := 2) hk (j134_X12_wrong l D zt r g I A L 5 (I 4) hIv (by decide) (by decide) (by omega) (by omega)) (SP.same _) (fun _ h => h) (gi_V (List.mem_cons_of_mem _ (List.mem_append_left _ (List.mem_of_getElem? (i := 10) rfl))) (List.mem_cons_of_mem _ (List.mem_append_left _ (List.mem_of_getElem? (i := 11) rfl))) (List.mem_cons_of_mem _ (List.mem_append_left _ (List.mem_of_getElem? (i := 12) rfl))) (List.mem_cons_of_mem _ (List.mem_append_left _ (List.mem_of_getElem? (i := 4) rfl))) (gi_sub (fun w h => (List.mem_cons_of_mem _ (List.mem_append_right _ (List.mem_append_right _ (List.mem_append_right _ (List.mem_append_right _ (List.mem_append_left _ h))))))) zg_j134_X12_wrong)) rfl rfl rfl (by decide +kernel) ⟨Nat.le_of_ble_eq_true rfl, Nat.le_of_ble_eq_true rfl⟩ 0 rfl rfl rfl rfl (Nat.le_of_ble_eq_true rfl) ⟨Nat.le_of_ble_eq_true rfl, Nat.le_of_ble_eq_true rfl⟩ dX12_bounded_48 (fun v ty' w' hp hk' => ?_)
        obtain ⟨I15381, A15381, L15381, hI15381, hA15381, hV15381, r15382, r15383, r15384, hL15381, hC, rfl, rfl⟩ := hp
        replace hF := FE.bdM hF hC
        rw [show (I15381 6) = (I 6) from (hI15381 6 rfl)] at r15382
        have f15385 := IvM_f8 hIv
        have f15386 := IvM_f8 hV15381
        rw [show (I15381 6) = (I 6) from (hI15381 6 rfl)] at r15384
        show GW κ 4 0 0 (wM r g I15381 A15381 L15381) 51 [(3, .int (A 4 (I 4).toNatClampNeg)), (0, .ref (r 0)), (1, .int z1), (2, .int z2)] []
        refine g_aload_n hk dX12_bounded_51 rfl ?_
        refine g_callV (n := 0) hk (j127_X12_goesOn l D zt r g I15381 A15381 L15381  hV15381) (SP.same _) (fun _ h => h) (gi_V (List.mem_cons_of_mem _ (List.mem_append_left _ (List.mem_of_getElem? (i := 13) rfl))) (List.mem_cons_of_mem _ (List.mem_append_left _ (List.mem_of_getElem? (i := 14) rfl))) (List.mem_cons_of_mem _ (List.mem_append_left _ (List.mem_of_getElem? (i := 15) rfl))) (List.mem_cons_of_mem _ (List.mem_append_left _ (List.mem_of_getElem? (i := 4) rfl))) (gi_sub (fun w h => (List.mem_cons_of_mem _ (List.mem_append_right _ (List.mem_append_right _ (List.mem_append_right _ (List.mem_append_right _ (List.mem_append_right _ (List.mem_append_left _ h)))))))) zg_j127_X12_goesOn)) rfl rfl rfl (by decide +kernel) ⟨Nat.le_of_ble_eq_true rfl, Nat.le_of_ble_eq_true rfl⟩ 0 rfl rfl rfl rfl (Nat.le_of_ble_eq_true rfl) ⟨Nat.le_of_ble_eq_true rfl, Nat.le_of_ble_eq_true rfl⟩ dX12_bounded_52 (fun v ty' w' hp hk' => ?_)
        obtain ⟨I15388, A15388, L15388, hI15388, hA15388, hV15388, r15389, r15390, r15391, r15392, hL15388, hC, rfl, rfl⟩ := hp
        replace hF := FE.bdM hF hC
        have f15393 := IvM_f4 hV15388
        rw [show (I15381 4) = (I 4) from (hI15381 4 rfl)] at r15389
        have f15394 := IvM_f6 hV15388
        rw [show (I15381 6) = (I 6) from (hI15381 6 rfl)] at r15390
        rw [show (I15388 8) = (I15381 8) from (hI15388 8 rfl)] at r15391
        rw [show (I15381 4) = (I 4) from (hI15381 4 rfl)] at r15392
        show GW κ 4 0 0 (wM r g I15388 A15388 L15388) 55 [(3, .int (A 4 (I 4).toNatClampNeg)), (0, .ref (r 0)), (1, .int z1), (2, .int z2)] []
        refine g_iload_n hk dX12_bounded_55 rfl ?_
        exact g_iret hk hR rfl ⟨I15388, A15388, L15388, (show Md [4, 6, 7, 8, 9, 12, 13] I I15388 from (Md.tr (Md.tr Md.rf hI15381 rfl) hI15388 rfl)), (show Md [] A A15388 from (Md.tr (Md.tr Md.rf hA15381 rfl) hA15388 rfl)), hV15388, (A 4 (I 4).toNatClampNeg), (by omega), (by omega), (by rw [show (I15388 8) = (I15381 8) from (hI15388 8 rfl)] <;> omega), (by omega), (by rw [show (I15388 8) = (I15381 8) from (hI15388 8 rfl)] <;> omega), (show L15388 = L from (hL15388.trans hL15381)), hF, rfl, rfl⟩ dX12_bounded_56
      · skip
        replace hF := FE.neg hF c15368
        refine g_iload_n hk dX12_bounded_37 rfl ?_
        refine g_iload_n hk dX12_bounded_38 rfl ?_
        have b15395l := Int32.le_toInt z2
        have b15395h := Int32.toInt_lt z2
        refine g_icmp_le (tgt := 51) (a := (A 4 (I 4).toNatClampNeg).toInt) (b := z2.toInt) hk dX12_bounded_39 (by decide) rfl rfl (fun c15396 => ?_) (fun c15396 => ?_)
        · skip
          replace hF := FE.pos hF c15396
          refine g_aload_n hk dX12_bounded_51 rfl ?_
          refine g_callV (n := 0) hk (j127_X12_goesOn l D zt r g I A L  hIv) (SP.same _) (fun _ h => h) (gi_V (List.mem_cons_of_mem _ (List.mem_append_left _ (List.mem_of_getElem? (i := 13) rfl))) (List.mem_cons_of_mem _ (List.mem_append_left _ (List.mem_of_getElem? (i := 14) rfl))) (List.mem_cons_of_mem _ (List.mem_append_left _ (List.mem_of_getElem? (i := 15) rfl))) (List.mem_cons_of_mem _ (List.mem_append_left _ (List.mem_of_getElem? (i := 4) rfl))) (gi_sub (fun w h => (List.mem_cons_of_mem _ (List.mem_append_right _ (List.mem_append_right _ (List.mem_append_right _ (List.mem_append_right _ (List.mem_append_right _ (List.mem_append_left _ h)))))))) zg_j127_X12_goesOn)) rfl rfl rfl (by decide +kernel) ⟨Nat.le_of_ble_eq_true rfl, Nat.le_of_ble_eq_true rfl⟩ 0 rfl rfl rfl rfl (Nat.le_of_ble_eq_true rfl) ⟨Nat.le_of_ble_eq_true rfl, Nat.le_of_ble_eq_true rfl⟩ dX12_bounded_52 (fun v ty' w' hp hk' => ?_)
          obtain ⟨I15398, A15398, L15398, hI15398, hA15398, hV15398, r15399, r15400, r15401, r15402, hL15398, hC, rfl, rfl⟩ := hp
          replace hF := FE.bdM hF hC
          have f15403 := IvM_f4 hV15398
          have f15404 := IvM_f6 hV15398
          have f15405 := IvM_f8 hIv
          rw [show (I15398 8) = (I 8) from (hI15398 8 rfl)] at r15401
          show GW κ 4 0 0 (wM r g I15398 A15398 L15398) 55 [(3, .int (A 4 (I 4).toNatClampNeg)), (0, .ref (r 0)), (1, .int z1), (2, .int z2)] []
          refine g_iload_n hk dX12_bounded_55 rfl ?_
          exact g_iret hk hR rfl ⟨I15398, A15398, L15398, (show Md [4, 6, 7, 8, 9, 12, 13] I I15398 from (Md.tr Md.rf hI15398 rfl)), (show Md [] A A15398 from (Md.tr Md.rf hA15398 rfl)), hV15398, (A 4 (I 4).toNatClampNeg), (by omega), (by omega), (by rw [show (I15398 8) = (I 8) from (hI15398 8 rfl)] <;> omega), (by omega), (by rw [show (I15398 8) = (I 8) from (hI15398 8 rfl)] <;> omega), (show L15398 = L from hL15398), hF, rfl, rfl⟩ dX12_bounded_56
        · skip
          replace hF := FE.neg hF c15396
          refine g_aload_n hk dX12_bounded_42 rfl ?_
          refine g_iconst (v := 5) hk dX12_bounded_43 (by decide) ?_
          refine g_aload_n hk dX12_bounded_44 rfl ?_
          refine gM_i4 (v := (I 4)) hk hin12 (List.mem_cons_of_mem _ (List.mem_append_left _ (List.mem_of_getElem? (i := 9) rfl))) dX12_bounded_45 rfl ?_
          have k15406 : (5 : Int32).toInt = 5 := rfl
          refine g_callV (n := 2) hk (j134_X12_wrong l D zt r g I A L 5 (I 4) hIv (by decide) (by decide) (by omega) (by omega)) (SP.same _) (fun _ h => h) (gi_V (List.mem_cons_of_mem _ (List.mem_append_left _ (List.mem_of_getElem? (i := 10) rfl))) (List.mem_cons_of_mem _ (List.mem_append_left _ (List.mem_of_getElem? (i := 11) rfl))) (List.mem_cons_of_mem _ (List.mem_append_left _ (List.mem_of_getElem? (i := 12) rfl))) (List.mem_cons_of_mem _ (List.mem_append_left _ (List.mem_of_getElem? (i := 4) rfl))) (gi_sub (fun w h => (List.mem_cons_of_mem _ (List.mem_append_right _ (List.mem_append_right _ (List.mem_append_right _ (List.mem_append_right _ (List.mem_append_left _ h))))))) zg_j134_X12_wrong)) rfl rfl rfl (by decide +kernel) ⟨Nat.le_of_ble_eq_true rfl, Nat.le_of_ble_eq_true rfl⟩ 0 rfl rfl rfl rfl (Nat.le_of_ble_eq_true rfl) ⟨Nat.le_of_ble_eq_true rfl, Nat.le_of_ble_eq_true rfl⟩ dX12_bounded_48 (fun v ty' w' hp hk' => ?_)
          obtain ⟨I15408, A15408, L15408, hI15408, hA15408, hV15408, r15409, r15410, r15411, hL15408, hC, rfl, rfl⟩ := hp
          replace hF := FE.bdM hF hC
          rw [show (I15408 6) = (I 6) from (hI15408 6 rfl)] at r15409
          have f15412 := IvM_f8 hIv
          have f15413 := IvM_f8 hV15408
          rw [show (I15408 6) = (I 6) from (hI15408 6 rfl)] at r15411
          show GW κ 4 0 0 (wM r g I15408 A15408 L15408) 51 [(3, .int (A 4 (I 4).toNatClampNeg)), (0, .ref (r 0)), (1, .int z1), (2, .int z2)] []
          refine g_aload_n hk dX12_bounded_51 rfl ?_
          refine g_callV (n := 0) hk (j127_X12_goesOn l D zt r g I15408 A15408 L15408  hV15408) (SP.same _) (fun _ h => h) (gi_V (List.mem_cons_of_mem _ (List.mem_append_left _ (List.mem_of_getElem? (i := 13) rfl))) (List.mem_cons_of_mem _ (List.mem_append_left _ (List.mem_of_getElem? (i := 14) rfl))) (List.mem_cons_of_mem _ (List.mem_append_left _ (List.mem_of_getElem? (i := 15) rfl))) (List.mem_cons_of_mem _ (List.mem_append_left _ (List.mem_of_getElem? (i := 4) rfl))) (gi_sub (fun w h => (List.mem_cons_of_mem _ (List.mem_append_right _ (List.mem_append_right _ (List.mem_append_right _ (List.mem_append_right _ (List.mem_append_right _ (List.mem_append_left _ h)))))))) zg_j127_X12_goesOn)) rfl rfl rfl (by decide +kernel) ⟨Nat.le_of_ble_eq_true rfl, Nat.le_of_ble_eq_true rfl⟩ 0 rfl rfl rfl rfl (Nat.le_of_ble_eq_true rfl) ⟨Nat.le_of_ble_eq_true rfl, Nat.le_of_ble_eq_true rfl⟩ dX12_bounded_52 (fun v ty' w' hp hk' => ?_)
          obtain ⟨I15415, A15415, L15415, hI15415, hA15415, hV15415, r15416, r15417, r15418, r15419, hL15415, hC, rfl, rfl⟩ := hp
          replace hF := FE.bdM hF hC
          have f15420 := IvM_f4 hV15415
          rw [show (I15408 4) = (I 4) from (hI15408 4 rfl)] at r15416
          have f15421 := IvM_f6 hV15415
          rw [show (I15408 6) = (I 6) from (hI15408 6 rfl)] at r15417
          rw [show (I15415 8) = (I15408 8) from (hI15415 8 rfl)] at r15418
          rw [show (I15408 4) = (I 4) from (hI15408 4 rfl)] at r15419
          show GW κ 4 0 0 (wM r g I15415 A15415 L15415) 55 [(3, .int (A 4 (I 4).toNatClampNeg)), (0, .ref (r 0)), (1, .int z1), (2, .int z2)] []
          refine g_iload_n hk dX12_bounded_55 rfl ?_
          exact g_iret hk hR rfl ⟨I15415, A15415, L15415, (show Md [4, 6, 7, 8, 9, 12, 13] I I15415 from (Md.tr (Md.tr Md.rf hI15408 rfl) hI15415 rfl)), (show Md [] A A15415 from (Md.tr (Md.tr Md.rf hA15408 rfl) hA15415 rfl)), hV15415, (A 4 (I 4).toNatClampNeg), (by omega), (by omega), (by rw [show (I15415 8) = (I15408 8) from (hI15415 8 rfl)] <;> omega), (by omega), (by rw [show (I15415 8) = (I15408 8) from (hI15415 8 rfl)] <;> omega), (show L15415 = L from (hL15415.trans hL15408)), hF, rfl, rfl⟩ dX12_bounded_56
end
section
noncomputable def fM12_readingTold (I : Nat → Int32) (A : Nat → Nat → Int32) (L : Nat → Nat → Int64) : Int32 × (Nat → Int32) × (Nat → Nat → Int32) × (Nat → Nat → Int64) := if fM12_is I A L 9 = 0 then f_bdM (fM12_bounded I A L 0 999) fun y15424 I15425 A15425 L15425 => (y15424, I15425, A15425, L15425) else f_bdM (fM12_goesOn I A L) fun _ I15439 A15439 L15439 => f_bdM (fM12_bounded I15439 A15439 L15439 0 999) fun y15450 I15451 A15451 L15451 => f_lt (-y15450) fun y15461 => (y15461, I15451, A15451, L15451)
def wo_j132_X12_readingTold : List Cond := [Cond.methodLink RX12 188 yX12_is, Cond.instanceMethod yX12_is, Cond.selects RX12 yX12_is yX12_is, Cond.initialized RX12, Cond.methodLink RX12 212 yX12_bounded, Cond.instanceMethod yX12_bounded, Cond.selects RX12 yX12_bounded yX12_bounded, Cond.methodLink RX12 191 yX12_goesOn, Cond.instanceMethod yX12_goesOn, Cond.selects RX12 yX12_goesOn yX12_goesOn]
def wz_j132_X12_readingTold : List Cond := .code yX12_readingTold cX12_readingTold 3 (some .int) :: (wo_j132_X12_readingTold ++ (wz_j125_X12_is ++ (wz_j133_X12_bounded ++ (wz_j127_X12_goesOn ++ ([] : List Cond)))))
theorem zg_j132_X12_readingTold : ∀ w ∈ wz_j132_X12_readingTold, goodWord w = true := zg_cons rfl (zg_app (by decide +kernel) (zg_app zg_j125_X12_is (zg_app zg_j133_X12_bounded (zg_app zg_j127_X12_goesOn zg_nil))))
theorem zi_j132_X12_readingTold : ∀ w ∈ wz_j132_X12_readingTold, w ∈ lw_tbl := zi_cons zw_1611 (zi_app (zi_cons zw_1583 (zi_cons zw_1585 (zi_cons zw_52 (zi_cons zw_115 (zi_cons zw_1612 (zi_cons zw_1614 (zi_cons zw_59 (zi_cons zw_1591 (zi_cons zw_1593 (zi_cons zw_54 zi_nil)))))))))) (zi_app zi_j125_X12_is (zi_app zi_j133_X12_bounded (zi_app zi_j127_X12_goesOn zi_nil))))
set_option maxHeartbeats 4000000 in
set_option maxRecDepth 100000 in
theorem j132_X12_readingTold (l : Launch) (D : va_G) (zt : Nat × Nat × Nat × (Nat → Nat) × (Nat → Nat)) (r : Nat → Nat) (g : Nat → ClassId) (I : Nat → Int32) (A : Nat → Nat → Int32) (L : Nat → Nat → Int64) (hIv : IvM I A) : GM l D zt (tyM g) yX12_readingTold wz_j132_X12_readingTold ({ frames := 3, cells := 0, slots := 0, locals := 64 } : Room) [.ref (r 0)] (wM r g I A L) (fun v _ w' => ∃ (I' : Nat → Int32) (A' : Nat → Nat → Int32) (L' : Nat → Nat → Int64), Md [4, 6, 7, 8, 9, 12, 13] I I' ∧ Md [] A A' ∧ IvM I' A' ∧ ∃ y0 : Int32, ((I 4).toInt ≤ (I' 4).toInt) ∧ ((I 6).toInt ≤ (I' 6).toInt) ∧ ((I 8).toInt ≤ 9 * (I' 8).toInt) ∧ ((I 4).toInt < (I' 4).toInt + (I' 6).toInt) ∧ (L' = L) ∧ FE (fM12_readingTold I A L) (y0, I', A', L') ∧ v = some (.int y0) ∧ w' = wM r g I' A' L') 0 0 := by
  refine GM.of (cc := cX12_readingTold) (maxL := 3) (ret := (some .int)) (own := RX12) (lv := [(0, .ref (r 0))]) (by decide) rfl rfl (Nat.le_of_ble_eq_true rfl) rfl (fun κ sz hk hR hN => ?_)
  have hF : FE (fM12_readingTold I A L) (fM12_readingTold I A L) := FE.rf
  refine g_aload_n hk dX12_readingTold_0 rfl ?_
  refine g_bipush (v := 9) hk dX12_readingTold_1 (by decide) ?_
  have k15332 : (9 : Int32).toInt = 9 := rfl
  refine g_callV (n := 1) hk (j125_X12_is l D zt r g I A L 9 hIv) (SP.same _) (fun _ h => h) (gi_V (List.mem_cons_of_mem _ (List.mem_append_left _ (List.mem_of_getElem? (i := 0) rfl))) (List.mem_cons_of_mem _ (List.mem_append_left _ (List.mem_of_getElem? (i := 1) rfl))) (List.mem_cons_of_mem _ (List.mem_append_left _ (List.mem_of_getElem? (i := 2) rfl))) (List.mem_cons_of_mem _ (List.mem_append_left _ (List.mem_of_getElem? (i := 3) rfl))) (gi_sub (fun w h => (List.mem_cons_of_mem _ (List.mem_append_right _ (List.mem_append_left _ h)))) zg_j125_X12_is)) rfl rfl rfl (by decide +kernel) ⟨Nat.le_of_ble_eq_true rfl, Nat.le_of_ble_eq_true rfl⟩ 0 rfl rfl rfl rfl (Nat.le_of_ble_eq_true rfl) ⟨Nat.le_of_ble_eq_true rfl, Nat.le_of_ble_eq_true rfl⟩ dX12_readingTold_3 (fun v ty' w' hp hk' => ?_)
  rcases hp with ⟨c15333, hC, rfl, rfl⟩ | ⟨c15335, hC, rfl, rfl⟩
  · skip
    replace hF := FE.pos hF hC
    have f15337 := IvM_f6 hIv
    show GW κ 3 0 0 (wM r g I A L) 6 [(0, .ref (r 0))] [.int 0]
    refine g_istore_n (lv' := [(1, .int 0), (0, .ref (r 0))]) hk dX12_readingTold_6 (by decide) rfl ?_
    refine g_iload_n hk dX12_readingTold_7 rfl ?_
    refine g_if_eq (tgt := 15) (a := 0) hk dX12_readingTold_8 (by decide) rfl (fun _ => ?_) (fun z9 => absurd (show (0 : Int) = (0 : Int) from by decide) z9)
    refine g_aload_n hk dX12_readingTold_15 rfl ?_
    refine g_iconst (v := 0) hk dX12_readingTold_16 (by decide) ?_
    refine g_sipush (v := 999) hk dX12_readingTold_17 (by decide) ?_
    have k15422 : (0 : Int32).toInt = 0 := rfl
    have k15423 : (999 : Int32).toInt = 999 := rfl
    refine g_callV (n := 2) hk (j133_X12_bounded l D zt r g I A L 0 999 hIv) (SP.same _) (fun _ h => h) (gi_V (List.mem_cons_of_mem _ (List.mem_append_left _ (List.mem_of_getElem? (i := 4) rfl))) (List.mem_cons_of_mem _ (List.mem_append_left _ (List.mem_of_getElem? (i := 5) rfl))) (List.mem_cons_of_mem _ (List.mem_append_left _ (List.mem_of_getElem? (i := 6) rfl))) (List.mem_cons_of_mem _ (List.mem_append_left _ (List.mem_of_getElem? (i := 3) rfl))) (gi_sub (fun w h => (List.mem_cons_of_mem _ (List.mem_append_right _ (List.mem_append_right _ (List.mem_append_left _ h))))) zg_j133_X12_bounded)) rfl rfl rfl (by decide +kernel) ⟨Nat.le_of_ble_eq_true rfl, Nat.le_of_ble_eq_true rfl⟩ 0 rfl rfl rfl rfl (Nat.le_of_ble_eq_true rfl) ⟨Nat.le_of_ble_eq_true rfl, Nat.le_of_ble_eq_true rfl⟩ dX12_readingTold_20 (fun v ty' w' hp hk' => ?_)
    obtain ⟨I15425, A15425, L15425, hI15425, hA15425, hV15425, y15424, r15426, r15427, r15428, r15429, r15430, hL15425, hC, rfl, rfl⟩ := hp
    replace hF := FE.bdM hF hC
    have f15431 := IvM_f4 hIv
    have f15432 := IvM_f4 hV15425
    have f15433 := IvM_f6 hV15425
    have f15434 := IvM_f8 hIv
    have f15435 := IvM_f8 hV15425
    have b15436l := Int32.le_toInt y15424
    have b15436h := Int32.toInt_lt y15424
    show GW κ 3 0 0 (wM r g I15425 A15425 L15425) 23 [(1, .int 0), (0, .ref (r 0))] [.int y15424]
    refine g_istore_n (lv' := [(2, .int y15424), (1, .int 0), (0, .ref (r 0))]) hk dX12_readingTold_23 (by decide) rfl ?_
    refine g_iload_n hk dX12_readingTold_24 rfl ?_
    refine g_if_eq (tgt := 33) (a := 0) hk dX12_readingTold_25 (by decide) rfl (fun _ => ?_) (fun z9 => absurd (show (0 : Int) = (0 : Int) from by decide) z9)
    refine g_iload_n hk dX12_readingTold_33 rfl ?_
    exact g_iret hk hR rfl ⟨I15425, A15425, L15425, (show Md [4, 6, 7, 8, 9, 12, 13] I I15425 from (Md.tr Md.rf hI15425 rfl)), (show Md [] A A15425 from (Md.tr Md.rf hA15425 rfl)), hV15425, y15424, (by omega), (by omega), (by omega), (by omega), (show L15425 = L from hL15425), hF, rfl, rfl⟩ dX12_readingTold_34
  · skip
    replace hF := FE.neg hF (fe_ne hC (by decide))
    have f15437 := IvM_f6 hIv
    show GW κ 3 0 0 (wM r g I A L) 6 [(0, .ref (r 0))] [.int 1]
    refine g_istore_n (lv' := [(1, .int 1), (0, .ref (r 0))]) hk dX12_readingTold_6 (by decide) rfl ?_
    refine g_iload_n hk dX12_readingTold_7 rfl ?_
    refine g_if_eq (tgt := 15) (a := 1) hk dX12_readingTold_8 (by decide) rfl (fun z9 => absurd z9 (show ¬ ((1 : Int) = (0 : Int)) from by decide)) (fun _ => ?_)
    refine g_aload_n hk dX12_readingTold_11 rfl ?_
    refine g_callV (n := 0) hk (j127_X12_goesOn l D zt r g I A L  hIv) (SP.same _) (fun _ h => h) (gi_V (List.mem_cons_of_mem _ (List.mem_append_left _ (List.mem_of_getElem? (i := 7) rfl))) (List.mem_cons_of_mem _ (List.mem_append_left _ (List.mem_of_getElem? (i := 8) rfl))) (List.mem_cons_of_mem _ (List.mem_append_left _ (List.mem_of_getElem? (i := 9) rfl))) (List.mem_cons_of_mem _ (List.mem_append_left _ (List.mem_of_getElem? (i := 3) rfl))) (gi_sub (fun w h => (List.mem_cons_of_mem _ (List.mem_append_right _ (List.mem_append_right _ (List.mem_append_right _ (List.mem_append_left _ h)))))) zg_j127_X12_goesOn)) rfl rfl rfl (by decide +kernel) ⟨Nat.le_of_ble_eq_true rfl, Nat.le_of_ble_eq_true rfl⟩ 0 rfl rfl rfl rfl (Nat.le_of_ble_eq_true rfl) ⟨Nat.le_of_ble_eq_true rfl, Nat.le_of_ble_eq_true rfl⟩ dX12_readingTold_12 (fun v ty' w' hp hk' => ?_)
    obtain ⟨I15439, A15439, L15439, hI15439, hA15439, hV15439, r15440, r15441, r15442, r15443, hL15439, hC, rfl, rfl⟩ := hp
    replace hF := FE.bdM hF hC
    have f15444 := IvM_f4 hIv
    have f15445 := IvM_f4 hV15439
    have f15446 := IvM_f6 hV15439
    have f15447 := IvM_f8 hIv
    rw [show (I15439 8) = (I 8) from (hI15439 8 rfl)] at r15442
    show GW κ 3 0 0 (wM r g I15439 A15439 L15439) 15 [(1, .int 1), (0, .ref (r 0))] []
    refine g_aload_n hk dX12_readingTold_15 rfl ?_
    refine g_iconst (v := 0) hk dX12_readingTold_16 (by decide) ?_
    refine g_sipush (v := 999) hk dX12_readingTold_17 (by decide) ?_
    have k15448 : (0 : Int32).toInt = 0 := rfl
    have k15449 : (999 : Int32).toInt = 999 := rfl
    refine g_callV (n := 2) hk (j133_X12_bounded l D zt r g I15439 A15439 L15439 0 999 hV15439) (SP.same _) (fun _ h => h) (gi_V (List.mem_cons_of_mem _ (List.mem_append_left _ (List.mem_of_getElem? (i := 4) rfl))) (List.mem_cons_of_mem _ (List.mem_append_left _ (List.mem_of_getElem? (i := 5) rfl))) (List.mem_cons_of_mem _ (List.mem_append_left _ (List.mem_of_getElem? (i := 6) rfl))) (List.mem_cons_of_mem _ (List.mem_append_left _ (List.mem_of_getElem? (i := 3) rfl))) (gi_sub (fun w h => (List.mem_cons_of_mem _ (List.mem_append_right _ (List.mem_append_right _ (List.mem_append_left _ h))))) zg_j133_X12_bounded)) rfl rfl rfl (by decide +kernel) ⟨Nat.le_of_ble_eq_true rfl, Nat.le_of_ble_eq_true rfl⟩ 0 rfl rfl rfl rfl (Nat.le_of_ble_eq_true rfl) ⟨Nat.le_of_ble_eq_true rfl, Nat.le_of_ble_eq_true rfl⟩ dX12_readingTold_20 (fun v ty' w' hp hk' => ?_)
    obtain ⟨I15451, A15451, L15451, hI15451, hA15451, hV15451, y15450, r15452, r15453, r15454, r15455, r15456, hL15451, hC, rfl, rfl⟩ := hp
    replace hF := FE.bdM hF hC
    have f15457 := IvM_f4 hV15451
    have f15458 := IvM_f6 hV15451
    have f15459 := IvM_f8 hV15451
    rw [show (I15439 8) = (I 8) from (hI15439 8 rfl)] at r15454
    have b15460l := Int32.le_toInt y15450
    have b15460h := Int32.toInt_lt y15450
    show GW κ 3 0 0 (wM r g I15451 A15451 L15451) 23 [(1, .int 1), (0, .ref (r 0))] [.int y15450]
    refine g_istore_n (lv' := [(2, .int y15450), (1, .int 1), (0, .ref (r 0))]) hk dX12_readingTold_23 (by decide) rfl ?_
    refine g_iload_n hk dX12_readingTold_24 rfl ?_
    refine g_if_eq (tgt := 33) (a := 1) hk dX12_readingTold_25 (by decide) rfl (fun z9 => absurd z9 (show ¬ ((1 : Int) = (0 : Int)) from by decide)) (fun _ => ?_)
    refine g_iload_n hk dX12_readingTold_28 rfl ?_
    refine g_ineg hk dX12_readingTold_29 ?_
    refine g_topi (fun y15461 ey15461 => ?_)
    replace hF := FE.lt hF ey15461
    refine g_goto (tgt := 34) hk dX12_readingTold_30 (by decide) ?_
    have b15462l := Int32.le_toInt y15461
    have b15462h := Int32.toInt_lt y15461
    exact g_iret hk hR rfl ⟨I15451, A15451, L15451, (show Md [4, 6, 7, 8, 9, 12, 13] I I15451 from (Md.tr (Md.tr Md.rf hI15439 rfl) hI15451 rfl)), (show Md [] A A15451 from (Md.tr (Md.tr Md.rf hA15439 rfl) hA15451 rfl)), hV15451, y15461, (by omega), (by omega), (by omega), (by omega), (show L15451 = L from (hL15451.trans hL15439)), hF, rfl, rfl⟩ dX12_readingTold_34
end
