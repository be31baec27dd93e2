theorem gaps_eq {I : Nat → Int32} {A : Nat → Nat → Int32} {J : Nat → Int32} {B : Nat → Nat → Int32} {L : Nat → Nat → Int64} {fs : Int} (h17 : (I 17).toInt = fs % 256) (hR : Rep fs (I 18).toInt (A 7) (A 10) (B 17)) : fX6_gapCount I A = fM12_gaps J B L := by
  have e : bX6_gapCount_4 I A = bM12_gaps_4 B J L := by
    funext G x y
    unfold bX6_gapCount_4 bM12_gaps_4
    dsimp only [f_lt]
    rw [x_there (J := J) (L := L) h17 hR x, hR.1]
  unfold fX6_gapCount fM12_gaps
  rw [e]
theorem held_eq {I : Nat → Int32} {A B : Nat → Nat → Int32} (h : SLS I A B) : fX11_slotsHeld I A = if (B 27 0).toInt = 0 then if (B 27 1).toInt = 0 then if (B 27 2).toInt = 0 then 0 else 1 else if (B 27 2).toInt = 0 then 1 else 2 else if (B 27 1).toInt = 0 then if (B 27 2).toInt = 0 then 1 else 2 else if (B 27 2).toInt = 0 then 2 else 3 := by
  have s0 : ∀ (G : Int32 → Int32 → Int32) (y : Int32), bX11_slotsHeld_4 I A G 0 y = G 1 (if (I 23).toInt = 0 then y else y + Int32.ofInt 1) := fun G y => by
    unfold bX11_slotsHeld_4
    dsimp only [f_lt]
    rw [if_neg (by decide), if_pos (by decide)]
    split <;> rfl
  have s1 : ∀ (G : Int32 → Int32 → Int32) (y : Int32), bX11_slotsHeld_4 I A G 1 y = G 2 (if (I 25).toInt = 0 then y else y + Int32.ofInt 1) := fun G y => by
    unfold bX11_slotsHeld_4
    dsimp only [f_lt]
    rw [if_neg (by decide), if_neg (by decide), if_pos (by decide)]
    split <;> rfl
  have s2 : ∀ (G : Int32 → Int32 → Int32) (y : Int32), bX11_slotsHeld_4 I A G 2 y = G 3 (if (I 27).toInt = 0 then y else y + Int32.ofInt 1) := fun G y => by
    unfold bX11_slotsHeld_4
    dsimp only [f_lt]
    rw [if_neg (by decide), if_neg (by decide), if_neg (by decide), if_pos (by decide)]
    split <;> rfl
  have s3 : ∀ (G : Int32 → Int32 → Int32) (y : Int32), bX11_slotsHeld_4 I A G 3 y = y := fun G y => by
    unfold bX11_slotsHeld_4
    rw [if_pos (by decide)]
  have e : ∀ (m : Nat) (x y : Int32), itr_ii (0 : Int32) (bX11_slotsHeld_4 I A) (m + 1) x y = bX11_slotsHeld_4 I A (itr_ii 0 (bX11_slotsHeld_4 I A) m) x y := fun _ _ _ => rfl
  obtain ⟨m, hm⟩ : ∃ m, FU = m + 1 + 1 + 1 + 1 := ⟨FU - 4, by have := FU_eq; omega⟩
  unfold fX11_slotsHeld
  rw [hm, e, s0, e, s1, e, s2, e, s3]
  have a0 : (I 23).toInt ≠ 0 ↔ (B 27 0).toInt ≠ 0 := h.1.1
  have a1 : (I 25).toInt ≠ 0 ↔ (B 27 1).toInt ≠ 0 := h.2.1.1
  have a2 : (I 27).toInt ≠ 0 ↔ (B 27 2).toInt ≠ 0 := h.2.2.1
  have b0 : (I 23).toInt = 0 ↔ (B 27 0).toInt = 0 := by omega
  have b1 : (I 25).toInt = 0 ↔ (B 27 1).toInt = 0 := by omega
  have b2 : (I 27).toInt = 0 ↔ (B 27 2).toInt = 0 := by omega
  simp only [b0, b1, b2]
  by_cases c0 : (B 27 0).toInt = 0
  · by_cases c1 : (B 27 1).toInt = 0
    · by_cases c2 : (B 27 2).toInt = 0
      · simp only [c0, c1, c2, ↓reduceIte]
      · simp only [c0, c1, c2, ↓reduceIte]; decide
    · by_cases c2 : (B 27 2).toInt = 0
      · simp only [c0, c1, c2, ↓reduceIte]; decide
      · simp only [c0, c1, c2, ↓reduceIte]; decide
  · by_cases c1 : (B 27 1).toInt = 0
    · by_cases c2 : (B 27 2).toInt = 0
      · simp only [c0, c1, c2, ↓reduceIte]; decide
      · simp only [c0, c1, c2, ↓reduceIte]; decide
    · by_cases c2 : (B 27 2).toInt = 0
      · simp only [c0, c1, c2, ↓reduceIte]; decide
      · simp only [c0, c1, c2, ↓reduceIte]; decide
/-- readings at the end -/
def reR (r : Nat → Int32) (n k : Nat) : Prop := k ≤ n ∧ (∀ i, i < k → thR r n (n - 1 - i)) ∧ ¬ (k < n ∧ thR r n (n - 1 - k))
theorem reR.uq {r : Nat → Int32} {n k k' : Nat} (h : reR r n k) (h' : reR r n k') : k = k' := by
  by_cases c : k < k'
  · exact absurd ⟨by have := h'.1; omega, h'.2.1 k c⟩ h.2.2
  · by_cases d : k' < k
    · exact absurd ⟨by have := h.1; omega, h.2.1 k' d⟩ h'.2.2
    · omega
theorem x_end {I : Nat → Int32} {A : Nat → Nat → Int32} {r : Nat → Int32} {n : Nat} (h : XR I A r n) : ∃ k : Nat, (fX6_readingsAtEnd I A).toInt = (k : Int) ∧ reR r n k := by
  have hn := h.1.2.1
  have h18 := h.2.1
  have d := i32_sub (x := I 18) (y := 1) (b := 1) rfl h18 rfl (by omega) (by omega)
  unfold fX6_readingsAtEnd
  simp only [f_lt_eq]
  refine run_ii (Q := fun (v : Int32) => ∃ k : Nat, v.toInt = (k : Int) ∧ reR r n k) n (fun j x a => x.toInt = (n : Int) - 1 - j ∧ a.toInt = (j : Int) ∧ ∀ i, i < j → thR r n (n - 1 - i)) (fun G j x a hj hP => ?_) FU 0 _ 0 ⟨by omega, rfl, fun i hi => by omega⟩ (by omega) (fu_lt (by omega))
  obtain ⟨hx, ha, hi⟩ := hP
  unfold bX6_readingsAtEnd_9
  dsimp only [f_lt]
  by_cases c : x.toInt < 0
  · rw [if_pos c]
    right; exact ⟨j, ha, hj, hi, fun h9 => by omega⟩
  · rw [if_neg c]
    rcases h.has (z := x) (i := n - 1 - j) (by omega) with ⟨a1, a2⟩ | ⟨a1, a2, -⟩
    · rw [a1, if_pos rfl]
      right; exact ⟨j, ha, hj, hi, fun h9 => a2 h9.2⟩
    · rw [a1, if_neg (by decide)]
      left
      have e1 := i32_add (x := x) (y := Int32.ofInt (-1)) (b := -1) rfl hx (by decide) (by omega) (by omega)
      refine ⟨by omega, _, _, rfl, by omega, i_s ha (by omega), fun i h9 => ?_⟩
      by_cases ei : i = j
      · rw [ei]; exact a2
      · exact hi i (by omega)
theorem m_end {J : Nat → Int32} {B : Nat → Nat → Int32} {L : Nat → Nat → Int64} {n : Nat} (h : rok (B 17) n) : ∃ k : Nat, (itr_i (0 : Int32) (bM12_count_134 B J L) FU 0).toInt = (k : Int) ∧ reR (B 17) n k := by
  have hn := h.2.1
  have d := i32_sub (x := B 17 0) (y := 1) (b := 1) rfl h.1 rfl (by omega) (by omega)
  refine run_i (Q := fun (v : Int32) => ∃ k : Nat, v.toInt = (k : Int) ∧ reR (B 17) n k) n (fun j x => x.toInt = (j : Int) ∧ ∀ i, i < j → thR (B 17) n (n - 1 - i)) (fun G j x hj hP => ?_) FU 0 0 ⟨rfl, fun i hi => by omega⟩ (by omega) (fu_lt (by omega))
  obtain ⟨hx, hi⟩ := hP
  have e := i32_sub (x := B 17 0 - 1) (y := x) rfl d hx (by omega) (by omega)
  unfold bM12_count_134
  dsimp only [f_lt]
  by_cases c : j < n
  · rcases h.m (J := J) (L := L) (z := B 17 0 - 1 - x) (i := n - 1 - j) (by omega) with ⟨a1, a2⟩ | ⟨a1, a2⟩
    · rw [a1, if_pos rfl]
      right; exact ⟨j, hx, hj, hi, fun h9 => a2 h9.2⟩
    · rw [a1, if_neg (by decide)]
      left
      refine ⟨c, _, rfl, i_s hx (by omega), fun i h9 => ?_⟩
      by_cases ei : i = j
      · rw [ei]; exact a2
      · exact hi i (by omega)
  · rw [m_there h.1 (by omega) (by omega), if10, if_neg (by omega)]
    right; exact ⟨j, hx, hj, hi, fun h9 => c h9.1⟩
/-- a run of readings from s on -/
def rnR (r : Nat → Int32) (n s k : Nat) : Prop := s + k ≤ n ∧ (∀ j, j < k → thR r n (s + j)) ∧ ¬ thR r n (s + k)
theorem rnR.uq {r : Nat → Int32} {n s k k' : Nat} (h : rnR r n s k) (h' : rnR r n s k') : k = k' := by
  by_cases c : k < k'
  · exact absurd (h'.2.1 k c) h.2.2
  · by_cases d : k' < k
    · exact absurd (h.2.1 k' d) h'.2.2
    · omega
theorem x_run {I : Nat → Int32} {A : Nat → Nat → Int32} {r : Nat → Int32} {n s : Nat} (h : XR I A r n) {z : Int32} (hs : z.toInt = (s : Int)) (hsn : s ≤ n) : ∃ k : Nat, (fX6_runFrom I A z).toInt = (k : Int) ∧ rnR r n s k := by
  have hn := h.1.2.1
  have h18 := h.2.1
  unfold fX6_runFrom
  refine run_ii (Q := fun (v : Int32) => ∃ k : Nat, v.toInt = (k : Int) ∧ rnR r n s k) (n - s) (fun j x a => x.toInt = ((s + j : Nat) : Int) ∧ a.toInt = (j : Int) ∧ ∀ i, i < j → thR r n (s + i)) (fun G j x a hj hP => ?_) FU 0 z 0 ⟨by omega, rfl, fun i hi => by omega⟩ (by omega) (fu_lt (by omega))
  obtain ⟨hx, ha, hi⟩ := hP
  unfold bX6_runFrom_4
  dsimp only [f_lt]
  by_cases c : (I 18).toInt ≤ x.toInt
  · rw [if_pos c]
    right; exact ⟨j, ha, by omega, hi, fun h9 => by have := h9.1; omega⟩
  · rw [if_neg c]
    rcases h.has hx with ⟨a1, a2⟩ | ⟨a1, a2, -⟩
    · rw [a1, if_pos rfl]
      right; exact ⟨j, ha, by omega, hi, a2⟩
    · rw [a1, if_neg (by decide)]
      left
      refine ⟨by omega, _, _, rfl, i_s (k := s + j) hx (by omega), i_s ha (by omega), fun i h9 => ?_⟩
      by_cases ei : i = j
      · rw [ei]; exact a2
      · exact hi i (by omega)
theorem m_run0 {J : Nat → Int32} {B : Nat → Nat → Int32} {L : Nat → Nat → Int64} {n : Nat} (h : rok (B 17) n) : ∃ k : Nat, (itr_i (0 : Int32) (bM12_count_362 J B L) FU 0).toInt = (k : Int) ∧ rnR (B 17) n 0 k := by
  have hn := h.2.1
  refine run_i (Q := fun (v : Int32) => ∃ k : Nat, v.toInt = (k : Int) ∧ rnR (B 17) n 0 k) n (fun j x => x.toInt = (j : Int) ∧ ∀ i, i < j → thR (B 17) n (0 + i)) (fun G j x hj hP => ?_) FU 0 0 ⟨rfl, fun i hi => by omega⟩ (by omega) (fu_lt (by omega))
  obtain ⟨hx, hi⟩ := hP
  unfold bM12_count_362
  dsimp only [f_lt]
  rcases h.m (J := J) (L := L) hx with ⟨a1, a2⟩ | ⟨a1, a2⟩
  · rw [a1, if_pos rfl]
    right; exact ⟨j, hx, by omega, hi, by rw [Nat.zero_add]; exact a2⟩
  · rw [a1, if_neg (by decide)]
    left
    refine ⟨a2.1, _, rfl, i_s hx (by omega), fun i h9 => ?_⟩
    by_cases ei : i = j
    · rw [ei, Nat.zero_add]; exact a2
    · exact hi i (by omega)
theorem m_c10 {J : Nat → Int32} {B : Nat → Nat → Int32} {L : Nat → Nat → Int64} {n : Nat} (h : rok (B 17) n) : (itr_ii (0 : Int32) (bM12_count_171 B J L) FU 0 0).toInt = smR (B 17) 0 n := by
  have hn := h.2.1
  refine run_ii (Q := fun (v : Int32) => v.toInt = smR (B 17) 0 n) n (fun j x a => x.toInt = (j : Int) ∧ a.toInt = smR (B 17) 0 j) (fun G j x a hj hP => ?_) FU 0 0 0 ⟨rfl, rfl⟩ (by omega) (fu_lt (by omega))
  obtain ⟨hx, ha⟩ := hP
  unfold bM12_count_171
  dsimp only [f_lt]
  by_cases c : (B 17 0).toInt ≤ x.toInt
  · rw [if_pos c]
    right; rw [ha, show j = n by have := h.1; omega]
  · rw [if_neg c]
    have h0 := h.1
    left
    refine ⟨by omega, ?_⟩
    have b1 := smR_b h j (s := 0) (by omega)
    have v := h.v (i := j) (by omega)
    rcases h.m (J := J) (L := L) hx with ⟨a1, a2⟩ | ⟨a1, a2⟩
    · rw [a1, if_pos rfl]
      refine ⟨_, _, rfl, i_s hx (by omega), ?_⟩
      show a.toInt = smR (B 17) 0 j + vR (B 17 (1 + (0 + j)))
      rw [Nat.zero_add]
      rcases v with ⟨-, v, -⟩ | ⟨v, -⟩
      · omega
      · exact absurd ⟨by omega, v⟩ a2
    · rw [a1, if_neg (by decide), i_1 hx (by omega)]
      refine ⟨_, _, rfl, i_s hx (by omega), ?_⟩
      show (a + B 17 (1 + j)).toInt = smR (B 17) 0 j + vR (B 17 (1 + (0 + j)))
      rw [Nat.zero_add]
      rcases v with ⟨v, -⟩ | ⟨-, v, -, v2, v3⟩
      · exact absurd v a2.2
      · have := i32_add (x := a) (y := B 17 (1 + j)) rfl ha rfl (by omega) (by omega)
        omega
theorem m_c12 {J : Nat → Int32} {B : Nat → Nat → Int32} {L : Nat → Nat → Int64} {n : Nat} (h : rok (B 17) n) : (itr_ii (0 : Int32) (bM12_count_259 B J L) FU 0 (-1000)).toInt = mxR (B 17) 0 n := by
  have hn := h.2.1
  refine run_ii (Q := fun (v : Int32) => v.toInt = mxR (B 17) 0 n) n (fun j x a => x.toInt = (j : Int) ∧ a.toInt = mxR (B 17) 0 j) (fun G j x a hj hP => ?_) FU 0 0 (-1000) ⟨rfl, rfl⟩ (by omega) (fu_lt (by omega))
  obtain ⟨hx, ha⟩ := hP
  unfold bM12_count_259
  dsimp only [f_lt]
  by_cases c : (B 17 0).toInt ≤ x.toInt
  · rw [if_pos c]
    right; rw [ha, show j = n by have := h.1; omega]
  · rw [if_neg c]
    have h0 := h.1
    left
    refine ⟨by omega, ?_⟩
    have b1 := mxR_b h j (s := 0) (by omega)
    have v := h.v (i := j) (by omega)
    rcases h.m (J := J) (L := L) hx with ⟨a1, a2⟩ | ⟨a1, a2⟩
    · rw [a1, if_pos rfl]
      refine ⟨_, _, rfl, i_s hx (by omega), ?_⟩
      unfold mxR
      rw [Nat.zero_add]
      rcases v with ⟨-, -, v⟩ | ⟨v, -⟩
      · rw [if_neg (by omega)]; exact ha
      · exact absurd ⟨by omega, v⟩ a2
    · rw [a1, if_neg (by decide), i_1 hx (by omega)]
      rcases v with ⟨v, -⟩ | ⟨-, -, v, v2, v3⟩
      · exact absurd v a2.2
      · by_cases c6 : (B 17 (1 + j)).toInt ≤ a.toInt
        · rw [if_pos c6]
          refine ⟨_, _, rfl, i_s hx (by omega), ?_⟩
          unfold mxR
          rw [Nat.zero_add, if_neg (by omega)]; exact ha
        · rw [if_neg c6]
          refine ⟨_, _, rfl, i_s hx (by omega), ?_⟩
          unfold mxR
          rw [Nat.zero_add, if_pos (by omega)]; omega
theorem m_c13 {J : Nat → Int32} {B : Nat → Nat → Int32} {L : Nat → Nat → Int64} {n : Nat} (h : rok (B 17) n) : (itr_ii (0 : Int32) (bM12_count_311 B J L) FU 0 100000).toInt = if mnR (B 17) 0 n = 100000 then -1000 else mnR (B 17) 0 n := by
  have hn := h.2.1
  refine run_ii (Q := fun (v : Int32) => v.toInt = if mnR (B 17) 0 n = 100000 then -1000 else mnR (B 17) 0 n) n (fun j x a => x.toInt = (j : Int) ∧ a.toInt = mnR (B 17) 0 j) (fun G j x a hj hP => ?_) FU 0 0 100000 ⟨rfl, rfl⟩ (by omega) (fu_lt (by omega))
  obtain ⟨hx, ha⟩ := hP
  unfold bM12_count_311
  dsimp only [f_lt]
  by_cases c : (B 17 0).toInt ≤ x.toInt
  · rw [if_pos c]
    right
    have ej : j = n := by have := h.1; omega
    subst ej
    by_cases c2 : mnR (B 17) 0 j = 100000
    · rw [if_neg (by omega), if_pos c2]; rfl
    · rw [if_pos (by omega), if_neg c2]; exact ha
  · rw [if_neg c, i_1 hx (by omega)]
    have h0 := h.1
    left
    refine ⟨by omega, ?_⟩
    by_cases c6 : a.toInt ≤ (B 17 (1 + j)).toInt
    · rw [if_pos c6]
      refine ⟨_, _, rfl, i_s hx (by omega), ?_⟩
      unfold mnR
      rw [Nat.zero_add, if_neg (by omega)]; exact ha
    · rw [if_neg c6]
      refine ⟨_, _, rfl, i_s hx (by omega), ?_⟩
      unfold mnR
      rw [Nat.zero_add, if_pos (by omega)]
theorem count_eq {I J : Nat → Int32} {A B : Nat → Nat → Int32} {M : Nat → Nat → Int64} (h : RA I A J B M) (z : Int32) : fX11_count I A z = fM12_count J B M z := by
  obtain ⟨hT, hH, hQ, hS⟩ := h
  obtain ⟨n, hx⟩ := hH.xr
  obtain ⟨fs, u, nx, h17, h21, h22, -, -, -, hR, -⟩ := hH
  have r4 := hR.2.2.2.2
  unfold fX11_count fM12_count
  simp only [f_lt_eq]
  have ev : ∀ (y : Int32) (k : Nat), y.toInt = (k : Int) → k < 4 → fX7_valueOf_2 I A y = B 17 (161 + k) := fun y k hy hk => by
    unfold fX7_valueOf_2
    rw [if_neg (by omega), if_neg (by omega), clN hy, r4.at hk]
  have e0 : I 18 = B 17 0 := Int32.toInt_inj.mp (by rw [hx.2.1, hx.1.1])
  have e9 : I 21 = J 22 := Int32.toInt_inj.mp (by omega)
  have n0 := hx.2.1
  have s10 : fX6_sumOf I A 0 (I 18) = itr_ii (0 : Int32) (bM12_count_171 B J M) FU 0 0 := Int32.toInt_inj.mp (by rw [x_sum hx (s := 0) rfl n0 (by omega), m_c10 hx.1])
  have s12 : fX6_greatestOf I A 0 (I 18) = itr_ii (0 : Int32) (bM12_count_259 B J M) FU 0 (-1000) := Int32.toInt_inj.mp (by rw [x_great hx (s := 0) rfl n0 (by omega), m_c12 hx.1])
  have s13 : fX6_leastOf I A 0 (I 18) = itr_ii (0 : Int32) (bM12_count_311 B J M) FU 0 100000 := Int32.toInt_inj.mp (by rw [x_least hx (s := 0) rfl n0 (by omega), m_c13 hx.1])
  have s7 : fX6_readingsAtEnd I A = itr_i (0 : Int32) (bM12_count_134 B J M) FU 0 := by
    obtain ⟨k, a, b⟩ := x_end hx
    obtain ⟨k', a', b'⟩ := m_end (J := J) (L := M) hx.1
    exact Int32.toInt_inj.mp (by rw [a, a', b.uq b'])
  have s14 : fX6_runFrom I A 0 = itr_i (0 : Int32) (bM12_count_362 J B M) FU 0 := by
    obtain ⟨k, a, b⟩ := x_run hx (z := 0) (s := 0) rfl (by omega)
    obtain ⟨k', a', b'⟩ := m_run0 (J := J) (L := M) hx.1
    exact Int32.toInt_inj.mp (by rw [a, a', b.uq b'])
  have s2 : I 19 = if (J 15).toInt = 0 then B 10 0 else if (J 15).toInt = 1 then B 10 1 else 0 := by
    obtain ⟨σ, nq, q1, q2, q3, q4, -⟩ := hQ
    have hc : σ = 0 ∨ σ = 1 := by omega
    rcases hc with e | e
    · subst e; rw [if_pos (by omega)]; exact Int32.toInt_inj.mp (by omega)
    · subst e; rw [if_neg (by omega), if_pos (by omega)]; exact Int32.toInt_inj.mp (by omega)
  rw [gaps_eq (J := J) (L := M) h17 hR, held_eq hS, s7, s10, s12, s13, s14, ev 0 0 rfl (by omega), ev 1 1 rfl (by omega), ev 2 2 rfl (by omega), ev 3 3 rfl (by omega), s2, e9, show I 0 = J 1 from hT.1.1.1, e0]
