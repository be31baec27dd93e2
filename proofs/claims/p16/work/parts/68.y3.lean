theorem x_cost {I : Nat → Int32} {A : Nat → Nat → Int32} {c a b : Int} {z1 z2 : Int32} (h32 : (I 32).toInt = c) (h1 : z1.toInt = a) (h2 : z2.toInt = b) (ha : -1998 ≤ a ∧ a ≤ 1998) (hb : -1998 ≤ b ∧ b ≤ 1998) : (fX2_costOf I A z1 z2).toInt = csT c a b := by
  have e := i32_sub (x := z1) (y := z2) rfl h1 h2 (by omega) (by omega)
  have sq := sq_b (x := a - b) (by omega) (by omega)
  unfold fX2_costOf csT
  simp only [f_lt_eq]
  by_cases c0 : c = 0
  · rw [if_pos (by omega), if_pos c0]
    by_cases c1 : 0 ≤ (z1 - z2).toInt
    · rw [if_pos c1, if_neg (by omega)]; exact e
    · rw [if_neg c1, if_pos (by omega), i32_neg (by omega), e]
  · rw [if_neg (by omega), if_neg c0]
    exact i32_mul (x := z1 - z2) (y := z1 - z2) rfl e e (by omega) (by omega)
theorem m_cost {J : Nat → Int32} {B : Nat → Nat → Int32} {L : Nat → Nat → Int64} {c a b : Int} {z1 z2 : Int32} (hc : (B 18 163).toInt = c) (h1 : z1.toInt = a) (h2 : z2.toInt = b) (ha : -1998 ≤ a ∧ a ≤ 1998) (hb : -1998 ≤ b ∧ b ≤ 1998) : (fM12_costOf J B L z1 z2).toInt = csT c a b := by
  have e := i32_sub (x := z1) (y := z2) rfl h1 h2 (by omega) (by omega)
  have e' := i32_sub (x := z2) (y := z1) rfl h2 h1 (by omega) (by omega)
  have sq := sq_b (x := a - b) (by omega) (by omega)
  have sq' := sq_b (x := b - a) (by omega) (by omega)
  have es : (b - a) * (b - a) = (a - b) * (a - b) := by
    rw [show b - a = -(a - b) by omega, Int.neg_mul_neg]
  unfold fM12_costOf csT
  simp only [f_lt_eq]
  by_cases c1 : z2.toInt ≤ z1.toInt
  · rw [if_pos c1]
    by_cases c0 : c = 0
    · rw [if_neg (by omega), if_pos c0, if_neg (by omega)]; exact e
    · rw [if_pos (by omega), if_neg c0]
      exact i32_mul (x := z1 - z2) (y := z1 - z2) rfl e e (by omega) (by omega)
  · rw [if_neg c1]
    by_cases c0 : c = 0
    · rw [if_neg (by omega), if_pos c0, if_pos (by omega)]; omega
    · rw [if_pos (by omega), if_neg c0, ← es]
      exact i32_mul (x := z2 - z1) (y := z2 - z1) rfl e' e' (by omega) (by omega)
/-- the class's table: the rows ahead of i are laid -/
def XTb (A : Nat → Nat → Int32) (n : Nat) (b : Int) (C : Nat → Nat → Int) (i : Nat) : Prop := ∀ i', i' < i → ∀ j, j < n → inB b i' j → (A 23 (16 * i' + j)).toInt = tT b C i' j
theorem x_ahead {I : Nat → Int32} {A : Nat → Nat → Int32} {n : Nat} {b : Int} {C : Nat → Nat → Int} (h31 : (I 31).toInt = b) (hb : 0 ≤ b) (hC : cok n C) (hn : n ≤ 16) {i j : Nat} (hi : i < n) (hj : j < n) (hB : inB b i j) (h0 : ¬ (i = 0 ∧ j = 0)) (hr : XTb A n b C i) (hc : ∀ j', j' < j → inB b i j' → (A 23 (16 * i + j')).toInt = tT b C i j') {zi zj : Int32} (hzi : zi.toInt = (i : Int)) (hzj : zj.toInt = (j : Int)) : (fX2_leastAhead I A zi zj).toInt + C i j = tT b C i j := by
  have hB2 := hB
  unfold inB at hB2
  have e1 := i32_mul (x := zi) (y := 16) (b := 16) rfl hzi rfl (by omega) (by omega)
  have e2 := i32_add (x := zi * 16) (y := zj) rfl e1 hzj (by omega) (by omega)
  have d1 := i32_sub (x := zi) (y := zj) rfl hzi hzj (by omega) (by omega)
  have d2 := i32_sub (x := zj) (y := zi) rfl hzj hzi (by omega) (by omega)
  have f1 : 1 ≤ 16 * (i : Int) + j → (zi * 16 + zj - 1).toInt = ((16 * i + j - 1 : Nat) : Int) := fun h => by
    have := i32_sub (x := zi * 16 + zj) (y := 1) (b := 1) rfl e2 rfl (by omega) (by omega)
    omega
  have f16 : 1 ≤ i → (zi * 16 + zj - 16).toInt = ((16 * (i - 1) + j : Nat) : Int) := fun h => by
    have := i32_sub (x := zi * 16 + zj) (y := 16) (b := 16) rfl e2 rfl (by omega) (by omega)
    omega
  have f17 : 1 ≤ i → 1 ≤ j → (zi * 16 + zj - 16 - 1).toInt = ((16 * (i - 1) + (j - 1) : Nat) : Int) := fun h h' => by
    have := f16 h
    have := i32_sub (x := zi * 16 + zj - 16) (y := 1) (b := 1) rfl this rfl (by omega) (by omega)
    omega
  have bd : ∀ i' j', i' < n → j' < n → inB b i' j' → 0 ≤ tT b C i' j' ∧ tT b C i' j' ≤ 500000000 := fun i' j' h1 h2 h3 => by
    have := tT_b hb hC hn i' h1 j' h2 h3
    omega
  unfold fX2_leastAhead
  simp only [f_lt_eq]
  match i, j, hi, hj, hB, hB2, h0, hr, hc, hzi, hzj, f1, f16, f17, d1, d2 with
  | 0, 0, _, _, _, _, h0, _, _, _, _, _, _, _, _, _ => exact absurd ⟨rfl, rfl⟩ h0
  | 0, j + 1, hi, hj, hB, hB2, h0, hr, hc, hzi, hzj, f1, f16, f17, d1, d2 =>
    have g : inB b 0 j := by unfold inB; omega
    have v := hc j (by omega) g
    have vb := bd 0 j hi (by omega) g
    have ix := clN (f1 (by omega))
    rw [show 16 * 0 + (j + 1) - 1 = 16 * 0 + j by omega] at ix
    rw [if_pos (by omega), if_neg (by omega), ix, if_neg (by omega), tT_in hB, v]
    show tT b C 0 j + C 0 (j + 1) = m2 2000000000 (m2 2000000000 (tT b C 0 j)) + C 0 (j + 1)
    have e : m2 2000000000 (m2 2000000000 (tT b C 0 j)) = tT b C 0 j := by unfold m2; split <;> (try split) <;> omega
    rw [e]
  | i + 1, 0, hi, hj, hB, hB2, h0, hr, hc, hzi, hzj, f1, f16, f17, d1, d2 =>
    have g : inB b i 0 := by unfold inB; omega
    have v := hr i (by omega) 0 hj g
    have vb := bd i 0 (by omega) hj g
    have ix := clN (f16 (by omega))
    rw [show 16 * (i + 1 - 1) + 0 = 16 * i + 0 by omega] at ix
    rw [if_neg (by omega), if_pos (by omega), ix, if_neg (by omega), tT_in hB, v]
  | i + 1, j + 1, hi, hj, hB, hB2, h0, hr, hc, hzi, hzj, f1, f16, f17, d1, d2 =>
    have g0 : inB b i j := by unfold inB; omega
    have u := hr i (by omega) j (by omega) g0
    have ub := bd i j (by omega) (by omega) g0
    have ix0 := clN (f17 (by omega) (by omega))
    rw [show 16 * (i + 1 - 1) + (j + 1 - 1) = 16 * i + j by omega] at ix0
    have ix1 := clN (f16 (by omega))
    rw [show 16 * (i + 1 - 1) + (j + 1) = 16 * i + (j + 1) by omega] at ix1
    have ix2 := clN (f1 (by omega))
    rw [show 16 * (i + 1) + (j + 1) - 1 = 16 * (i + 1) + j by omega] at ix2
    rw [if_neg (by omega), if_neg (by omega), ix0, ix1, ix2, tT_in hB]
    show _ = m2 (tT b C i j) (m2 (tT b C i (j + 1)) (tT b C (i + 1) j)) + C (i + 1) (j + 1)
    by_cases cu : inB b i (j + 1)
    · have v := hr i (by omega) (j + 1) hj cu
      have cu2 := cu
      unfold inB at cu2
      rw [if_neg (show ¬ (I 31).toInt ≤ (zj - zi).toInt by omega)]
      by_cases cw : inB b (i + 1) j
      · have w := hc j (by omega) cw
        have cw2 := cw
        unfold inB at cw2
        rw [if_neg (show ¬ (I 31).toInt ≤ (zi - zj).toInt by omega)]
        unfold m2
        split <;> split <;> split <;> first | omega | (split <;> first | omega | (split <;> omega))
      · have cx : (I 31).toInt ≤ (zi - zj).toInt := by unfold inB at cw; omega
        rw [if_pos cx, tT_out cw]
        unfold m2
        repeat' (first | omega | split)
    · rw [if_pos (show (I 31).toInt ≤ (zj - zi).toInt by unfold inB at cu; omega), tT_out cu]
      by_cases cw : inB b (i + 1) j
      · have w := hc j (by omega) cw
        have cw2 := cw
        unfold inB at cw2
        rw [if_neg (show ¬ (I 31).toInt ≤ (zi - zj).toInt by omega)]
        unfold m2
        split <;> split <;> first | omega | (split <;> first | omega | (split <;> omega))
      · rw [if_pos (show (I 31).toInt ≤ (zi - zj).toInt by unfold inB at cw; omega), tT_out cw]
        unfold m2
        split <;> first | omega | (split <;> first | omega | (split <;> omega))
theorem i_16r {x y : Int32} {k j : Nat} (h : x.toInt = (k : Int)) (h2 : y.toInt = (j : Int)) (hk : k < 1000) (hj : j < 1000) : (16 * x + y).toNatClampNeg = 16 * k + j := by
  have e1 := i32_mul (x := 16) (y := x) (a := 16) rfl rfl h (by omega) (by omega)
  have e2 := i32_add (x := 16 * x) (y := y) rfl e1 h2 (by omega) (by omega)
  exact clN (by omega)
/-- all that a table is laid of -/
def TB (I : Nat → Int32) (A : Nat → Nat → Int32) (n : Nat) (b c : Int) (lf rt : Nat → Int) : Prop := (1 ≤ n ∧ n ≤ 16) ∧ ((I 30).toInt = (n : Int) ∧ (I 31).toInt = b ∧ (I 32).toInt = c) ∧ (0 ≤ b ∧ b ≤ 1000) ∧ ((∀ i, i < n → (A 21 i).toInt = lf i) ∧ ∀ i, i < n → (A 22 i).toInt = rt i) ∧ (∀ i, i < n → -1998 ≤ lf i ∧ lf i ≤ 1998) ∧ ∀ i, i < n → -1998 ≤ rt i ∧ rt i ≤ 1998
def cC (c : Int) (lf rt : Nat → Int) (i j : Nat) : Int := csT c (lf i) (rt j)
theorem TB.cok {I : Nat → Int32} {A : Nat → Nat → Int32} {n : Nat} {b c : Int} {lf rt : Nat → Int} (h : TB I A n b c lf rt) : cok n (cC c lf rt) := fun i j hi hj => csT_b (h.2.2.2.2.1 i hi) (h.2.2.2.2.2 j hj)
theorem TB.mv {I I' : Nat → Int32} {A A' : Nat → Nat → Int32} {n : Nat} {b c : Int} {lf rt : Nat → Int} (h : TB I A n b c lf rt) (i30 : I' 30 = I 30) (i31 : I' 31 = I 31) (i32 : I' 32 = I 32) (a21 : A' 21 = A 21) (a22 : A' 22 = A 22) : TB I' A' n b c lf rt := by
  unfold TB at *
  rw [i30, i31, i32, a21, a22]; exact h
theorem x_layR {I : Nat → Int32} {A : Nat → Nat → Int32} {n : Nat} {b c : Int} {lf rt : Nat → Int} (h : TB I A n b c lf rt) {i : Nat} (hi : i < n) {z : Int32} (hz : z.toInt = (i : Int)) (hr : XTb A n b (cC c lf rt) i) (h33 : 0 ≤ (I 33).toInt ∧ (I 33).toInt ≤ 1000) : ∃ (v : Int32) (I' : Nat → Int32) (A' : Nat → Nat → Int32), fX2_layRow I A z = (v, I', A') ∧ v.toInt = rmT b (cC c lf rt) i n ∧ Md [33] I I' ∧ (I' 33).toInt = (I 33).toInt + cnT b n i ∧ Md [23] A A' ∧ XTb A' n b (cC c lf rt) (i + 1) := by
  have hC := h.cok
  obtain ⟨⟨hn1, hn⟩, ⟨h30, h31, h32⟩, ⟨hb, hb2⟩, ⟨hl, hrt⟩, lb, rb⟩ := h
  obtain ⟨k1, k2, k3, k4, k5, k6⟩ := cnT_b (b := b) (n := n) (i := i) hb hi
  obtain ⟨C, hCd⟩ : ∃ C, C = cC c lf rt := ⟨_, rfl⟩
  rw [← hCd] at hC hr ⊢
  have t0 : (0 : Int32).toInt = 0 := rfl
  have s1 := i32_sub (x := z) (y := I 31) rfl hz h31 (by omega) (by omega)
  have s2 := i32_sub (x := I 30) (y := 1) (b := 1) rfl h30 rfl (by omega) (by omega)
  have s3 := i32_add (x := z) (y := I 31) rfl hz h31 (by omega) (by omega)
  obtain ⟨fr, hfr⟩ : ∃ fr : Int32, fr = if (0 : Int32) < z - I 31 then z - I 31 else (0 : Int32) := ⟨_, rfl⟩
  obtain ⟨to, hto⟩ : ∃ to : Int32, to = if z + I 31 < I 30 - 1 then z + I 31 else I 30 - 1 := ⟨_, rfl⟩
  have efr : fr.toInt = frT b i := by
    unfold frT
    rcases i32_max (x := 0) (y := z - I 31) hfr with ⟨a, a'⟩ | ⟨a, a'⟩ <;> split <;> omega
  have eto : to.toInt = toT b n i := by
    unfold toT
    rcases i32_min (x := I 30 - 1) (y := z + I 31) hto with ⟨a, a'⟩ | ⟨a, a'⟩ <;> split <;> omega
  obtain ⟨f, hf⟩ : ∃ f : Nat, frT b i = (f : Int) := ⟨(frT b i).toNat, by omega⟩
  obtain ⟨t, ht⟩ : ∃ t : Nat, toT b n i = (t : Int) := ⟨(toT b n i).toNat, by omega⟩
  unfold fX2_layRow
  simp only [f_lt_eq]
  rw [← hfr, ← hto]
  refine run_iiIA (Q := fun r => ∃ (v : Int32) (I' : Nat → Int32) (A' : Nat → Nat → Int32), r = (v, I', A') ∧ v.toInt = rmT b C i n ∧ Md [33] I I' ∧ (I' 33).toInt = (I 33).toInt + cnT b n i ∧ Md [23] A A' ∧ XTb A' n b C (i + 1)) (t + 1 - f) (fun k x y I1 A1 => x.toInt = ((f + k : Nat) : Int) ∧ (y.toInt = if k = 0 then 2147483647 else rmT b C i (f + k)) ∧ I1 = I ∧ Md [23] A A1 ∧ XTb A1 n b C i ∧ ∀ j, j < f + k → inB b i j → (A1 23 (16 * i + j)).toInt = tT b C i j) (fun G k x y I1 A1 hk hP => ?_) FU 0 fr 2147483647 I A ⟨by omega, rfl, rfl, Md.rf, hr, fun j hj hin => ?_⟩ (by omega) (fu_lt (by omega))
  · obtain ⟨hx, hy, eI, mA, hrA, hcA⟩ := hP
    unfold bX2_layRow_34
    dsimp only [f_lt]
    by_cases c1 : to.toInt < x.toInt
    · rw [if_pos c1]
      right
      have ek : f + k = t + 1 := by omega
      have s4 := i32_sub (x := to) (y := fr) rfl eto efr (by omega) (by omega)
      have s5 : (to - fr + 1).toInt = cnT b n i := by
        rw [i32_inc (by omega), s4]; rfl
      have s6 := i32_add (x := I 33) (y := to - fr + 1) rfl rfl s5 (by omega) (by omega)
      refine ⟨_, _, _, rfl, ?_, by rw [eI]; exact Md.up Md.rf rfl, s6, mA, fun i' hi' j hj hin => ?_⟩
      · rw [hy, if_neg (by omega), ek]
        have tl := rmT_tail (b := b) (C := C) (i := i) (k := t + 1) (n - (t + 1)) (fun j h1 h2 hin => by
          have := (inB_ft (b := b) (n := n) (i := i) (j := j) (by omega)).mp hin
          omega)
        rw [show t + 1 + (n - (t + 1)) = n by omega] at tl
        exact tl.symm
      · by_cases e : i' = i
        · subst e
          have := (inB_ft (b := b) (n := n) (i := i') (j := j) hj).mp hin
          exact hcA j (by omega) hin
        · exact hrA i' (by omega) j hj hin
    · rw [if_neg c1]
      left
      have hj : f + k < n := by omega
      have hin : inB b i (f + k) := (inB_ft (b := b) (n := n) (i := i) (j := f + k) hj).mpr ⟨by omega, by omega⟩
      have tb := tT_b hb hC hn i hi (f + k) hj hin
      rw [clN hz, clN hx]
      have cost : (fX2_costOf I1 A1 (A 21 i) (A 22 (f + k))).toInt = C i (f + k) := by
        rw [x_cost (I := I1) (A := A1) (c := c) (by rw [eI]; exact h32) (hl i hi) (hrt (f + k) hj) (lb i hi) (rb (f + k) hj), hCd]; rfl
      have cb := hC i (f + k) hi hj
      have ah : ¬ (i = 0 ∧ f + k = 0) → (fX2_leastAhead I1 A1 z x).toInt + C i (f + k) = tT b C i (f + k) := fun h0 => x_ahead (I := I1) (A := A1) (by rw [eI]; exact h31) hb hC hn hi hj hin h0 hrA hcA hz hx
      -- what is put into the table, and the least so far
      have fin : ∀ (v w : Int32), v.toInt = tT b C i (f + k) → (w = if y.toInt ≤ v.toInt then y else v) → (x + Int32.ofInt 1).toInt = ((f + (k + 1) : Nat) : Int) ∧ (w.toInt = if k + 1 = 0 then 2147483647 else rmT b C i (f + (k + 1))) ∧ I1 = I ∧ Md [23] A (up3 A1 23 (16 * i + (f + k)) v) ∧ XTb (up3 A1 23 (16 * i + (f + k)) v) n b C i ∧ ∀ j, j < f + (k + 1) → inB b i j → (up3 A1 23 (16 * i + (f + k)) v 23 (16 * i + j)).toInt = tT b C i j := fun v w hv hw => by
        refine ⟨i_s (k := f + k) hx (by omega), ?_, eI, Md.up3 mA rfl, fun i' hi' j hj' hin' => ?_, fun j hj' hin' => ?_⟩
        · rw [if_neg (by omega)]
          show w.toInt = m2 (rmT b C i (f + k)) (tT b C i (f + k))
          by_cases k0 : k = 0
          · rw [if_pos k0] at hy
            rw [if_neg (by omega)] at hw
            have ro := rmT_out (b := b) (C := C) (i := i) (f + k) (fun j h1 h2 => by
              have := (inB_ft (b := b) (n := n) (i := i) (j := j) (by omega)).mp h2
              omega)
            rw [ro, hw, hv]
            unfold m2
            rw [if_neg (by omega)]
          · rw [if_neg k0] at hy
            unfold m2
            by_cases c5 : y.toInt ≤ v.toInt
            · rw [if_pos c5] at hw
              rw [if_pos (by omega), hw, hy]
            · rw [if_neg c5] at hw
              rw [if_neg (by omega), hw, hv]
        · rw [up3_ne (by omega)]; exact hrA i' hi' j hj' hin'
        · by_cases e : j = f + k
          · rw [up3_at (by omega), e]; exact hv
          · rw [up3_ne (by omega)]; exact hcA j (by omega) hin'
      have ix : (z * 16 + x).toNatClampNeg = 16 * i + (f + k) := i_16 hz hx (by omega) (by omega)
      refine ⟨by omega, ?_⟩
      by_cases c2 : 0 < z.toInt
      · rw [if_pos c2, ix]
        have a := ah (by omega)
        have ev : (fX2_costOf I1 A1 (A 21 i) (A 22 (f + k)) + fX2_leastAhead I1 A1 z x).toInt = tT b C i (f + k) := by
          have := i32_add (x := fX2_costOf I1 A1 (A 21 i) (A 22 (f + k))) (y := fX2_leastAhead I1 A1 z x) rfl cost rfl (by omega) (by omega)
          omega
        by_cases c5 : y.toInt ≤ (fX2_costOf I1 A1 (A 21 i) (A 22 (f + k)) + fX2_leastAhead I1 A1 z x).toInt
        · rw [if_pos c5]
          exact ⟨_, _, _, _, rfl, fin _ y ev (by rw [if_pos c5])⟩
        · rw [if_neg c5]
          exact ⟨_, _, _, _, rfl, fin _ _ ev (by rw [if_neg c5])⟩
      · rw [if_neg c2]
        have i0 : i = 0 := by omega
        by_cases c3 : x.toInt ≤ 0
        · rw [if_pos c3, ix]
          have ev : (fX2_costOf I1 A1 (A 21 i) (A 22 (f + k))).toInt = tT b C i (f + k) := by
            rw [cost]
            have e0 : f + k = 0 := by omega
            rw [e0] at hin ⊢
            rw [i0] at hin ⊢
            rw [tT_in hin]
            show C 0 0 = 0 + C 0 0
            omega
          by_cases c5 : y.toInt ≤ (fX2_costOf I1 A1 (A 21 i) (A 22 (f + k))).toInt
          · rw [if_pos c5]
            exact ⟨_, _, _, _, rfl, fin _ y ev (by rw [if_pos c5])⟩
          · rw [if_neg c5]
            exact ⟨_, _, _, _, rfl, fin _ _ ev (by rw [if_neg c5])⟩
        · rw [if_neg c3, ix]
          have a := ah (by omega)
          have ev : (fX2_costOf I1 A1 (A 21 i) (A 22 (f + k)) + fX2_leastAhead I1 A1 z x).toInt = tT b C i (f + k) := by
            have := i32_add (x := fX2_costOf I1 A1 (A 21 i) (A 22 (f + k))) (y := fX2_leastAhead I1 A1 z x) rfl cost rfl (by omega) (by omega)
            omega
          by_cases c5 : y.toInt ≤ (fX2_costOf I1 A1 (A 21 i) (A 22 (f + k)) + fX2_leastAhead I1 A1 z x).toInt
          · rw [if_pos c5]
            exact ⟨_, _, _, _, rfl, fin _ y ev (by rw [if_pos c5])⟩
          · rw [if_neg c5]
            exact ⟨_, _, _, _, rfl, fin _ _ ev (by rw [if_neg c5])⟩
  · have := (inB_ft (b := b) (n := n) (i := i) (j := j) (by omega)).mp hin
    omega
/-- how a table is laid up to a limit: whole, or broken off at the row i0 -/
def WH (b : Int) (C : Nat → Nat → Int) (n : Nat) (lim : Int) : Prop := ∀ i, i < n → rmT b C i n < lim
def BK (b : Int) (C : Nat → Nat → Int) (n : Nat) (lim : Int) (i0 : Nat) : Prop := i0 < n ∧ (∀ i, i < i0 → rmT b C i n < lim) ∧ lim ≤ rmT b C i0 n
theorem BK.uq {b : Int} {C : Nat → Nat → Int} {n : Nat} {lim : Int} {i j : Nat} (h : BK b C n lim i) (h' : BK b C n lim j) : i = j := by
  by_cases c : i < j
  · have := h'.2.1 i c; have := h.2.2; omega
  · by_cases d : j < i
    · have := h.2.1 j d; have := h'.2.2; omega
    · omega
theorem x_table {I : Nat → Int32} {A : Nat → Nat → Int32} {n : Nat} {b c : Int} {lf rt : Nat → Int} (h : TB I A n b c lf rt) {z : Int32} {lim : Int} (hz : z.toInt = lim) : ∃ (I' : Nat → Int32) (A' : Nat → Nat → Int32), fX2_layTable I A z = (0, I', A') ∧ Md [33, 34] I I' ∧ Md [23] A A' ∧ ((WH b (cC c lf rt) n lim ∧ (I' 34).toInt = -2 ∧ (I' 33).toInt = csum b n n ∧ XTb A' n b (cC c lf rt) n) ∨ (∃ i0, BK b (cC c lf rt) n lim i0 ∧ (I' 34).toInt = (i0 : Int) ∧ (I' 33).toInt = csum b n (i0 + 1))) := by
  obtain ⟨⟨hn1, hn⟩, ⟨h30, h31, h32⟩, ⟨hb, hb2⟩, -⟩ := id h
  unfold fX2_layTable
  refine run_iIA (Q := fun r => ∃ (I' : Nat → Int32) (A' : Nat → Nat → Int32), r = (0, I', A') ∧ Md [33, 34] I I' ∧ Md [23] A A' ∧ ((WH b (cC c lf rt) n lim ∧ (I' 34).toInt = -2 ∧ (I' 33).toInt = csum b n n ∧ XTb A' n b (cC c lf rt) n) ∨ (∃ i0, BK b (cC c lf rt) n lim i0 ∧ (I' 34).toInt = (i0 : Int) ∧ (I' 33).toInt = csum b n (i0 + 1)))) n (fun k x I1 A1 => x.toInt = (k : Int) ∧ Md [33, 34] I I1 ∧ Md [23] A A1 ∧ (I1 34).toInt = -2 ∧ (I1 33).toInt = csum b n k ∧ XTb A1 n b (cC c lf rt) k ∧ ∀ i, i < k → rmT b (cC c lf rt) i n < lim) (fun G k x I1 A1 hk hP => ?_) FU 0 0 _ A ⟨rfl, Md.up (Md.up Md.rf rfl) rfl, Md.rf, rfl, rfl, fun i' hi' => by omega, fun i hi => by omega⟩ (by omega) (fu_lt (by omega))
  obtain ⟨hx, mI, mA, h34, h33, hr, hl⟩ := hP
  unfold bX2_layTable_13
  dsimp only [f_lt]
  by_cases c1 : (I 30).toInt ≤ x.toInt
  · rw [if_pos c1]
    right
    have ek : k = n := by omega
    subst ek
    exact ⟨I1, A1, rfl, mI, mA, Or.inl ⟨hl, h34, h33, hr⟩⟩
  · rw [if_neg c1]
    have cs := csum_b (b := b) (n := n) hb hn k hk
    have h' := h.mv (I' := I1) (A' := A1) (mI 30 rfl) (mI 31 rfl) (mI 32 rfl) (mA 21 rfl) (mA 22 rfl)
    obtain ⟨v, I2, A2, e1, e2, e3, e4, e5, e6⟩ := x_layR h' (i := k) (by omega) hx hr (by omega)
    rw [e1, bdX_mk]
    by_cases c2 : v.toInt < z.toInt
    · rw [if_pos c2]
      left
      refine ⟨by omega, _, _, _, rfl, i_s hx (by omega), Md.tr mI e3 rfl, Md.tr mA e5 rfl, by rw [e3 34 rfl]; exact h34, by rw [e4, h33]; rfl, e6, fun i hi => ?_⟩
      by_cases e : i = k
      · rw [e]; omega
      · exact hl i (by omega)
    · rw [if_neg c2]
      right
      refine ⟨_, A2, rfl, Md.up (Md.tr mI e3 rfl) rfl, Md.tr mA e5 rfl, Or.inr ⟨k, ⟨by omega, hl, by omega⟩, hx, ?_⟩⟩
      show (I2 33).toInt = csum b n (k + 1)
      rw [e4, h33]; rfl
/-- the DISTANCE that lies in a whole table -/
theorem x_laid {I : Nat → Int32} {A : Nat → Nat → Int32} {n : Nat} {b : Int} {C : Nat → Nat → Int} (h30 : (I 30).toInt = (n : Int)) (hn1 : 1 ≤ n) (hn : n ≤ 16) (hb : 0 ≤ b) (h : XTb A n b C n) : (fX2_laidDistance I A).toInt = dT b C n := by
  have e1 := i32_sub (x := I 30) (y := 1) (b := 1) rfl h30 rfl (by omega) (by omega)
  have e2 := i32_mul (x := I 30 - 1) (y := 16) (b := 16) rfl e1 rfl (by omega) (by omega)
  have e3 := i32_add (x := (I 30 - 1) * 16) (y := I 30) rfl e2 h30 (by omega) (by omega)
  have e4 : ((I 30 - 1) * 16 + I 30 - 1).toInt = ((16 * (n - 1) + (n - 1) : Nat) : Int) := by
    have := i32_sub (x := (I 30 - 1) * 16 + I 30) (y := 1) (b := 1) rfl e3 rfl (by omega) (by omega)
    omega
  unfold fX2_laidDistance
  simp only [f_lt_eq]
  rw [clN e4]
  exact h (n - 1) (by omega) (n - 1) (by omega) (by unfold inB; omega)
theorem WH.far {b : Int} {C : Nat → Nat → Int} {n : Nat} {lim : Int} (hb : 0 ≤ b) (hC : cok n C) (hn : n ≤ 16) (hl : 500000000 < lim) : WH b C n lim := fun i hi => by
  have := rmT_lt hb hC hn hi
  omega
theorem x_whole {I : Nat → Int32} {A : Nat → Nat → Int32} {n : Nat} {b c : Int} {lf rt : Nat → Int} (h : TB I A n b c lf rt) : ∃ (v : Int32) (I' : Nat → Int32) (A' : Nat → Nat → Int32), fX2_wholeDistance I A = (v, I', A') ∧ v.toInt = dT b (cC c lf rt) n ∧ Md [33, 34] I I' ∧ Md [23] A A' ∧ XTb A' n b (cC c lf rt) n := by
  obtain ⟨⟨hn1, hn⟩, ⟨h30, -, -⟩, ⟨hb, hb2⟩, -⟩ := id h
  obtain ⟨I', A', e1, e2, e3, e4⟩ := x_table h (z := 2147483647) (lim := 2147483647) rfl
  have wh := WH.far (lim := 2147483647) hb h.cok hn (by omega)
  unfold fX2_wholeDistance
  rw [e1, bdX_mk, f_lt_eq]
  rcases e4 with ⟨-, -, -, g⟩ | ⟨i0, g, -⟩
  · exact ⟨_, I', A', rfl, x_laid (by rw [e2 30 rfl]; exact h30) hn1 hn hb g, e2, e3, g⟩
  · have := wh i0 g.1; have := g.2.2; omega
