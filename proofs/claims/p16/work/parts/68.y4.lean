/-- all that the reference's table is laid of -/
def TN (J : Nat → Int32) (B : Nat → Nat → Int32) (n : Nat) (b c : Int) (lf rt : Nat → Int) : Prop := (1 ≤ n ∧ n ≤ 16) ∧ ((J 18).toInt = (n : Int) ∧ (B 18 161).toInt = b ∧ (B 18 163).toInt = c) ∧ (0 ≤ b ∧ b ≤ 1000) ∧ ((∀ i, i < n → (B 19 i).toInt = lf i) ∧ ∀ i, i < n → (B 20 i).toInt = rt i) ∧ (∀ i, i < n → -1998 ≤ lf i ∧ lf i ≤ 1998) ∧ ∀ i, i < n → -1998 ≤ rt i ∧ rt i ≤ 1998
theorem TN.cok {J : Nat → Int32} {B : Nat → Nat → Int32} {n : Nat} {b c : Int} {lf rt : Nat → Int} (h : TN J B n b c lf rt) : cok n (cC c lf rt) := fun i j hi hj => csT_b (h.2.2.2.2.1 i hi) (h.2.2.2.2.2 j hj)
theorem TN.mv {J J' : Nat → Int32} {B B' : Nat → Nat → Int32} {n : Nat} {b c : Int} {lf rt : Nat → Int} (h : TN J B n b c lf rt) (j18 : J' 18 = J 18) (b18 : B' 18 = B 18) (b19 : B' 19 = B 19) (b20 : B' 20 = B 20) : TN J' B' n b c lf rt := by
  unfold TN at *
  rw [j18, b18, b19, b20]; exact h
def MTb (B : Nat → Nat → Int32) (n : Nat) (b : Int) (C : Nat → Nat → Int) (i : Nat) : Prop := ∀ i', i' < i → ∀ j, j < n → inB b i' j → (B 21 (16 * i' + j)).toInt = tT b C i' j
theorem m_band {J : Nat → Int32} {B : Nat → Nat → Int32} {L : Nat → Nat → Int64} {n : Nat} {b : Int} (hn : n ≤ 16) (h18 : (J 18).toInt = (n : Int)) (hb : (B 18 161).toInt = b) (hb0 : 0 ≤ b) (hb1 : b ≤ 1000) {z1 z2 : Int32} {i j : Nat} (h1 : z1.toInt = (i : Int)) (h2 : z2.toInt = (j : Int)) (hi : i < 1000) (hj : j < 1000) : (fM12_isBand J B L z1 z2 = 1 ∧ j < n ∧ inB b i j) ∨ (fM12_isBand J B L z1 z2 = 0 ∧ ¬ (j < n ∧ inB b i j)) := by
  have e0 : (0 : Int32).toInt = 0 := rfl
  have e1 := i32_sub (x := J 18) (y := 1) (b := 1) rfl h18 rfl (by omega) (by omega)
  have e2 := i32_sub (x := z1) (y := z2) rfl h1 h2 (by omega) (by omega)
  have e3 : (-(B 18 161)).toInt = -b := by rw [i32_neg (by omega), hb]
  unfold fM12_isBand inB
  simp only [f_lt_eq]
  rw [m_in, m_in, if10, if10]
  by_cases c1 : j < n
  · rw [if_pos (by omega)]
    by_cases c2 : (i : Int) - (j : Int) ≤ b ∧ (j : Int) - (i : Int) ≤ b
    · rw [if_pos (by omega)]; exact Or.inl ⟨rfl, c1, c2⟩
    · rw [if_neg (by omega)]; exact Or.inr ⟨rfl, fun h9 => c2 h9.2⟩
  · rw [if_neg (by omega)]; exact Or.inr ⟨rfl, fun h9 => c1 h9.1⟩
section MTAB
variable {J : Nat → Int32} {B : Nat → Nat → Int32} {L : Nat → Nat → Int64} {n : Nat} {b : Int} {C : Nat → Nat → Int}
theorem m_atn {z1 z2 : Int32} (h : z1.toInt < 0 ∨ z2.toInt < 0) : fM12_atTable J B L z1 z2 = 2000000000 := by
  unfold fM12_atTable
  simp only [f_lt_eq]
  by_cases c : z1.toInt < 0
  · rw [if_pos c]
  · rw [if_neg c, if_pos (by omega)]
theorem m_at (hn : n ≤ 16) (h18 : (J 18).toInt = (n : Int)) (hb : (B 18 161).toInt = b) (hb0 : 0 ≤ b) (hb1 : b ≤ 1000) {z1 z2 : Int32} {i j : Nat} (h1 : z1.toInt = (i : Int)) (h2 : z2.toInt = (j : Int)) (hi : i < 1000) (hj : j < n) (ht : inB b i j → (B 21 (16 * i + j)).toInt = tT b C i j) : (fM12_atTable J B L z1 z2).toInt = tT b C i j := by
  unfold fM12_atTable
  simp only [f_lt_eq]
  rw [if_neg (by omega), if_neg (by omega)]
  rcases m_band (J := J) (B := B) (L := L) hn h18 hb hb0 hb1 h1 h2 hi (by omega) with ⟨a, -, d⟩ | ⟨a, d⟩
  · rw [a, if_neg (by decide), i_16r h1 h2 hi (by omega)]; exact ht d
  · rw [a, if_pos rfl, tT_out (fun h9 => d ⟨hj, h9⟩)]; rfl
theorem m_lst {z1 z2 : Int32} : (fM12_least J B L z1 z2).toInt = m2 z1.toInt z2.toInt := by
  unfold fM12_least m2
  split <;> (try split) <;> omega
theorem m_ahead (hn : n ≤ 16) (h18 : (J 18).toInt = (n : Int)) (hb : (B 18 161).toInt = b) (hb0 : 0 ≤ b) (hb1 : b ≤ 1000) (hC : cok n C) {i j : Nat} (hi : i < n) (hj : j < n) (hB : inB b i j) (h0 : ¬ (i = 0 ∧ j = 0)) (hr : MTb B n b C i) (hc : ∀ j', j' < j → inB b i j' → (B 21 (16 * i + j')).toInt = tT b C i j') {zi zj : Int32} (hzi : zi.toInt = (i : Int)) (hzj : zj.toInt = (j : Int)) : (fM12_least J B L (fM12_atTable J B L (zi - 1) (zj - 1)) (fM12_least J B L (fM12_atTable J B L (zi - 1) zj) (fM12_atTable J B L zi (zj - 1)))).toInt + C i j = tT b C i j := by
  have d1 := i32_sub (x := zi) (y := 1) (b := 1) rfl hzi rfl (by omega) (by omega)
  have d2 := i32_sub (x := zj) (y := 1) (b := 1) rfl hzj rfl (by omega) (by omega)
  have far : (2000000000 : Int32).toInt = 2000000000 := rfl
  rw [m_lst, m_lst]
  match i, j, hi, hj, hB, h0, hr, hc, hzi, hzj, d1, d2 with
  | 0, 0, _, _, _, h0, _, _, _, _, _, _ => exact absurd ⟨rfl, rfl⟩ h0
  | 0, j + 1, hi, hj, hB, h0, hr, hc, hzi, hzj, d1, d2 =>
    rw [m_atn (J := J) (B := B) (L := L) (z1 := zi - 1) (z2 := zj - 1) (Or.inl (by omega)), m_atn (J := J) (B := B) (L := L) (z1 := zi - 1) (z2 := zj) (Or.inl (by omega)), m_at (C := C) (i := 0) (j := j) hn h18 hb hb0 hb1 hzi (by omega) (by omega) (by omega) (fun h9 => hc j (by omega) h9), tT_in hB, far]
  | i + 1, 0, hi, hj, hB, h0, hr, hc, hzi, hzj, d1, d2 =>
    have tb := (tT_a hb0 hC hn (i := i) (j := 0) (by omega) hj).2.2
    rw [m_atn (J := J) (B := B) (L := L) (z1 := zi - 1) (z2 := zj - 1) (Or.inr (by omega)), m_atn (J := J) (B := B) (L := L) (z1 := zi) (z2 := zj - 1) (Or.inr (by omega)), m_at (C := C) (i := i) (j := 0) hn h18 hb hb0 hb1 (by omega) hzj (by omega) hj (fun h9 => hr i (by omega) 0 hj h9), tT_in hB, far]
    show m2 2000000000 (m2 (tT b C i 0) 2000000000) + C (i + 1) 0 = tT b C i 0 + C (i + 1) 0
    have e : m2 2000000000 (m2 (tT b C i 0) 2000000000) = tT b C i 0 := by unfold m2; split <;> (try split) <;> omega
    rw [e]
  | i + 1, j + 1, hi, hj, hB, h0, hr, hc, hzi, hzj, d1, d2 =>
    rw [m_at (C := C) (i := i) (j := j) hn h18 hb hb0 hb1 (by omega) (by omega) (by omega) (by omega) (fun h9 => hr i (by omega) j (by omega) h9), m_at (C := C) (i := i) (j := j + 1) hn h18 hb hb0 hb1 (by omega) hzj (by omega) hj (fun h9 => hr i (by omega) (j + 1) hj h9), m_at (C := C) (i := i + 1) (j := j) hn h18 hb hb0 hb1 hzi (by omega) (by omega) (by omega) (fun h9 => hc j (by omega) h9), tT_in hB]
end MTAB
/-- places of the band ahead of j -/
def cjT (b : Int) (n i j : Nat) : Int := if (j : Int) ≤ frT b i then 0 else if (j : Int) ≤ toT b n i + 1 then (j : Int) - frT b i else toT b n i + 1 - frT b i
theorem m_row {J : Nat → Int32} {B : Nat → Nat → Int32} {L : Nat → Nat → Int64} {n : Nat} {b c : Int} {lf rt : Nat → Int} (h : TN J B n b c lf rt) {i : Nat} (hi : i < n) {z : Int32} (hz : z.toInt = (i : Int)) (hr : MTb B n b (cC c lf rt) i) (h19 : 0 ≤ (J 19).toInt ∧ (J 19).toInt ≤ 1000) : ∃ (v : Int32) (J' : Nat → Int32) (B' : Nat → Nat → Int32), fM12_laysRow J B L z = (v, J', B', L) ∧ v.toInt = rmT b (cC c lf rt) i n ∧ Md [19] J J' ∧ (J' 19).toInt = (J 19).toInt + cnT b n i ∧ Md [21] B B' ∧ MTb B' n b (cC c lf rt) (i + 1) := by
  have hC := h.cok
  obtain ⟨⟨hn1, hn⟩, ⟨h18, hbb, hcc⟩, ⟨hb, hb2⟩, ⟨hl, hrt⟩, lb, rb⟩ := h
  obtain ⟨k1, k2, k3, k4, k5, k6⟩ := cnT_b (b := b) (n := n) (i := i) hb hi
  obtain ⟨C, hCd⟩ : ∃ C, C = cC c lf rt := ⟨_, rfl⟩
  rw [← hCd] at hC hr ⊢
  unfold fM12_laysRow
  refine run_iiIAL (Q := fun r => ∃ (v : Int32) (J' : Nat → Int32) (B' : Nat → Nat → Int32), r = (v, J', B', L) ∧ v.toInt = rmT b C i n ∧ Md [19] J J' ∧ (J' 19).toInt = (J 19).toInt + cnT b n i ∧ Md [21] B B' ∧ MTb B' n b C (i + 1)) n (fun j x y J1 B1 L1 => x.toInt = (j : Int) ∧ y.toInt = rmT b C i j ∧ Md [19] J J1 ∧ (J1 19).toInt = (J 19).toInt + cjT b n i j ∧ Md [21] B B1 ∧ L1 = L ∧ MTb B1 n b C i ∧ ∀ j', j' < j → inB b i j' → (B1 21 (16 * i + j')).toInt = tT b C i j') (fun G j x y J1 B1 L1 hj hP => ?_) FU 0 0 2000000000 J B L ⟨rfl, rfl, Md.rf, by unfold cjT; rw [if_pos (by omega)]; omega, Md.rf, rfl, hr, fun j' hj' => by omega⟩ (by omega) (fu_lt (by omega))
  obtain ⟨hx, hy, mJ, hcn, mB, eL, hrB, hcB⟩ := hP
  have cjb : 0 ≤ cjT b n i j ∧ cjT b n i j ≤ 16 := by
    unfold cjT
    split
    · omega
    · split <;> omega
  unfold bM12_laysRow_6
  dsimp only [f_lt]
  by_cases c1 : (J 18).toInt ≤ x.toInt
  · rw [if_pos c1]
    right
    have ej : j = n := by omega
    subst ej
    refine ⟨_, _, _, by rw [eL], hy, mJ, ?_, mB, fun i' hi' j' hj' hin => ?_⟩
    · rw [hcn]
      unfold cjT cnT
      rw [if_neg (by omega)]
      split <;> omega
    · by_cases e : i' = i
      · subst e; exact hcB j' hj' hin
      · exact hrB i' (by omega) j' hj' hin
  · rw [if_neg c1]
    left
    have hjn : j < n := by omega
    refine ⟨hjn, ?_⟩
    have g18 : (J1 18).toInt = (n : Int) := by rw [mJ 18 rfl]; exact h18
    have gb : (B1 18 161).toInt = b := by rw [mB 18 rfl]; exact hbb
    have ft := inB_ft (b := b) (n := n) (i := i) (j := j) hjn
    rcases m_band (J := J1) (B := B1) (L := L1) hn g18 gb hb hb2 hz hx (by omega) (by omega) with ⟨a, -, hin⟩ | ⟨a, hout⟩
    · rw [a, if_neg (by decide)]
      have f1 := ft.mp hin
      have tb := tT_b hb hC hn i hi j hjn hin
      have cb := hC i j hi hjn
      rw [clN hz, clN hx]
      have cost : (fM12_costOf J1 B1 L1 (B 19 i) (B 20 j)).toInt = C i j := by
        rw [m_cost (c := c) (by rw [mB 18 rfl]; exact hcc) (hl i hi) (hrt j hjn) (lb i hi) (rb j hjn), hCd]; rfl
      have ah : ¬ (i = 0 ∧ j = 0) → _ := fun h0 => m_ahead (J := J1) (B := B1) (L := L1) hn g18 gb hb hb2 hC hi hjn hin h0 hrB hcB hz hx
      have fin : ∀ (v : Int32), v.toInt = tT b C i j → (x + Int32.ofInt 1).toInt = ((j + 1 : Nat) : Int) ∧ (fM12_least J1 (up3 B1 21 (16 * i + j) v) L1 y (up3 B1 21 (16 * i + j) v 21 (16 * i + j))).toInt = rmT b C i (j + 1) ∧ Md [19] J (upd J1 19 (J1 19 + 1)) ∧ (upd J1 19 (J1 19 + 1) 19).toInt = (J 19).toInt + cjT b n i (j + 1) ∧ Md [21] B (up3 B1 21 (16 * i + j) v) ∧ L1 = L ∧ MTb (up3 B1 21 (16 * i + j) v) n b C i ∧ ∀ j', j' < j + 1 → inB b i j' → (up3 B1 21 (16 * i + j) v 21 (16 * i + j')).toInt = tT b C i j' := fun v hv => by
        refine ⟨i_s hx (by omega), ?_, Md.up mJ rfl, ?_, Md.up3 mB rfl, eL, fun i' hi' j' hj' hin' => ?_, fun j' hj' hin' => ?_⟩
        · rw [m_lst, up3_at rfl, hy, hv]; rfl
        · show (J1 19 + 1).toInt = _
          rw [i32_inc (by omega), hcn]
          have e1 : cjT b n i j = (j : Int) - frT b i := by
            unfold cjT
            by_cases c9 : (j : Int) ≤ frT b i
            · rw [if_pos c9]; omega
            · rw [if_neg c9, if_pos (by omega)]
          have e2 : cjT b n i (j + 1) = ((j + 1 : Nat) : Int) - frT b i := by
            unfold cjT
            rw [if_neg (by omega), if_pos (by omega)]
          omega
        · rw [up3_ne (by omega)]; exact hrB i' hi' j' hj' hin'
        · by_cases e : j' = j
          · rw [up3_at (by omega), e]; exact hv
          · rw [up3_ne (by omega)]; exact hcB j' (by omega) hin'
      have ix : (16 * z + x).toNatClampNeg = 16 * i + j := i_16r hz hx (by omega) (by omega)
      rw [ix]
      obtain ⟨q, hq⟩ : ∃ q, q = fM12_least J1 B1 L1 (fM12_atTable J1 B1 L1 (z - 1) (x - 1)) (fM12_least J1 B1 L1 (fM12_atTable J1 B1 L1 (z - 1) x) (fM12_atTable J1 B1 L1 z (x - 1))) := ⟨_, rfl⟩
      rw [← hq] at ah ⊢
      by_cases c2 : z.toInt = 0
      · rw [if_neg (fun h9 => h9 c2)]
        by_cases c3 : x.toInt = 0
        · rw [if_neg (fun h9 => h9 c3)]
          refine ⟨_, _, _, _, _, rfl, fin _ ?_⟩
          have i0 : i = 0 := by omega
          have j0 : j = 0 := by omega
          have := i32_add (x := 0) (y := fM12_costOf J1 B1 L1 (B 19 i) (B 20 j)) (a := 0) rfl rfl cost (by omega) (by omega)
          rw [this]
          subst i0; subst j0
          rw [tT_in hin]
        · rw [if_pos c3]
          have a9 := ah (by omega)
          refine ⟨_, _, _, _, _, rfl, fin _ ?_⟩
          have := i32_add (x := q) (y := fM12_costOf J1 B1 L1 (B 19 i) (B 20 j)) rfl rfl cost (by omega) (by omega)
          omega
      · rw [if_pos c2]
        have a9 := ah (by omega)
        refine ⟨_, _, _, _, _, rfl, fin _ ?_⟩
        have := i32_add (x := q) (y := fM12_costOf J1 B1 L1 (B 19 i) (B 20 j)) rfl rfl cost (by omega) (by omega)
        omega
    · rw [a, if_pos rfl]
      have hout2 : ¬ inB b i j := fun h9 => hout ⟨hjn, h9⟩
      have f1 : ¬ (frT b i ≤ j ∧ (j : Int) ≤ toT b n i) := fun h9 => hout2 (ft.mpr h9)
      refine ⟨_, _, _, _, _, rfl, i_s hx (by omega), ?_, mJ, ?_, mB, eL, hrB, fun j' hj' hin' => ?_⟩
      · show y.toInt = m2 (rmT b C i j) (tT b C i j)
        rw [tT_out hout2, hy]
        have := rmT_far (b := b) (C := C) (i := i) j
        unfold m2
        rw [if_pos this]
      · rw [hcn]
        unfold cjT
        split <;> split <;> first | omega | (split <;> first | omega | (split <;> omega))
      · by_cases e : j' = j
        · rw [e] at hin'; exact absurd hin' hout2
        · exact hcB j' (by omega) hin'
theorem m_table {J : Nat → Int32} {B : Nat → Nat → Int32} {L : Nat → Nat → Int64} {n : Nat} {b c : Int} {lf rt : Nat → Int} (h : TN J B n b c lf rt) {z : Int32} {lim : Int} (hz : z.toInt = lim) : ∃ (v : Int32) (J' : Nat → Int32) (B' : Nat → Nat → Int32), fM12_laysTable J B L z = (v, J', B', L) ∧ Md [19, 20] J J' ∧ Md [21] B B' ∧ ((WH b (cC c lf rt) n lim ∧ v.toInt = dT b (cC c lf rt) n ∧ (J' 20).toInt = -1 ∧ (J' 19).toInt = csum b n n ∧ MTb B' n b (cC c lf rt) n) ∨ (∃ i0, BK b (cC c lf rt) n lim i0 ∧ v.toInt = 2000000000 ∧ (J' 20).toInt = (i0 : Int) ∧ (J' 19).toInt = csum b n (i0 + 1))) := by
  obtain ⟨⟨hn1, hn⟩, ⟨h18, hbb, hcc⟩, ⟨hb, hb2⟩, -⟩ := id h
  unfold fM12_laysTable
  refine run_iIAL (Q := fun r => ∃ (v : Int32) (J' : Nat → Int32) (B' : Nat → Nat → Int32), r = (v, J', B', L) ∧ Md [19, 20] J J' ∧ Md [21] B B' ∧ ((WH b (cC c lf rt) n lim ∧ v.toInt = dT b (cC c lf rt) n ∧ (J' 20).toInt = -1 ∧ (J' 19).toInt = csum b n n ∧ MTb B' n b (cC c lf rt) n) ∨ (∃ i0, BK b (cC c lf rt) n lim i0 ∧ v.toInt = 2000000000 ∧ (J' 20).toInt = (i0 : Int) ∧ (J' 19).toInt = csum b n (i0 + 1)))) n (fun k x J1 B1 L1 => x.toInt = (k : Int) ∧ Md [19, 20] J J1 ∧ Md [21] B B1 ∧ L1 = L ∧ (J1 20).toInt = -1 ∧ (J1 19).toInt = csum b n k ∧ MTb B1 n b (cC c lf rt) k ∧ ∀ i, i < k → rmT b (cC c lf rt) i n < lim) (fun G k x J1 B1 L1 hk hP => ?_) FU 0 0 _ B L ⟨rfl, Md.up (Md.up Md.rf rfl) rfl, Md.rf, rfl, rfl, rfl, fun i' hi' => by omega, fun i hi => by omega⟩ (by omega) (fu_lt (by omega))
  obtain ⟨hx, mJ, mB, eL, h20, h19, hr, hl⟩ := hP
  unfold bM12_laysTable_12
  dsimp only [f_lt]
  by_cases c1 : (J 18).toInt ≤ x.toInt
  · rw [if_pos c1]
    right
    have ek : k = n := by omega
    subst ek
    have e1 : (J 18 - 1).toInt = ((k - 1 : Nat) : Int) := by
      have := i32_sub (x := J 18) (y := 1) (b := 1) rfl h18 rfl (by omega) (by omega)
      omega
    refine ⟨_, J1, B1, by rw [eL], mJ, mB, Or.inl ⟨hl, ?_, h20, h19, hr⟩⟩
    exact m_at (C := cC c lf rt) (i := k - 1) (j := k - 1) hn (by rw [mJ 18 rfl]; exact h18) (by rw [mB 18 rfl]; exact hbb) hb hb2 e1 e1 (by omega) (by omega) (fun h9 => hr (k - 1) (by omega) (k - 1) (by omega) h9)
  · rw [if_neg c1]
    have cs := csum_b (b := b) (n := n) hb hn k hk
    have h' := h.mv (J' := J1) (B' := B1) (mJ 18 rfl) (mB 18 rfl) (mB 19 rfl) (mB 20 rfl)
    obtain ⟨v, J2, B2, e1, e2, e3, e4, e5, e6⟩ := m_row (L := L1) h' (i := k) (by omega) hx hr (by omega)
    rw [e1, bdM_mk]
    by_cases c2 : z.toInt ≤ v.toInt
    · rw [if_pos c2]
      right
      refine ⟨_, upd J2 20 x, B2, by rw [eL], Md.up (Md.tr mJ e3 rfl) rfl, Md.tr mB e5 rfl, Or.inr ⟨k, ⟨by omega, hl, by omega⟩, rfl, hx, ?_⟩⟩
      show (J2 19).toInt = csum b n (k + 1)
      rw [e4, h19]; rfl
    · rw [if_neg c2]
      left
      refine ⟨by omega, _, _, _, _, rfl, i_s hx (by omega), Md.tr mJ e3 rfl, Md.tr mB e5 rfl, eL, by rw [e3 20 rfl]; exact h20, by rw [e4, h19]; rfl, e6, fun i hi => ?_⟩
      by_cases e : i = k
      · rw [e]; omega
      · exact hl i (by omega)
theorem m_whole {J : Nat → Int32} {B : Nat → Nat → Int32} {L : Nat → Nat → Int64} {n : Nat} {b c : Int} {lf rt : Nat → Int} (h : TN J B n b c lf rt) : ∃ (v : Int32) (J' : Nat → Int32) (B' : Nat → Nat → Int32), fM12_laysTable J B L 2000000000 = (v, J', B', L) ∧ v.toInt = dT b (cC c lf rt) n ∧ Md [19, 20] J J' ∧ Md [21] B B' ∧ MTb B' n b (cC c lf rt) n := by
  obtain ⟨⟨hn1, hn⟩, -, ⟨hb, hb2⟩, -⟩ := id h
  obtain ⟨v, J', B', e1, e2, e3, e4⟩ := m_table (L := L) h (z := 2000000000) (lim := 2000000000) rfl
  have wh := WH.far (lim := 2000000000) hb h.cok hn (by omega)
  rcases e4 with ⟨-, g1, -, -, g⟩ | ⟨i0, g, -⟩
  · exact ⟨v, J', B', e1, g1, e2, e3, g⟩
  · have := wh i0 g.1; have := g.2.2; omega
