theorem hw0 {I : Nat → Int32} {A : Nat → Nat → Int32} {K : Int} (h : HK I A K) : fX10_isWord 0 I A = if K = 26 then 1 else 0 := h.2.2.2.2.2.1 0 (by decide)
theorem hw1 {I : Nat → Int32} {A : Nat → Nat → Int32} {K : Int} (h : HK I A K) : fX10_isWord 1 I A = if K = 20 then 1 else 0 := h.2.2.2.2.2.1 1 (by decide)
theorem hw2 {I : Nat → Int32} {A : Nat → Nat → Int32} {K : Int} (h : HK I A K) : fX10_isWord 2 I A = if K = 21 then 1 else 0 := h.2.2.2.2.2.1 2 (by decide)
theorem hw3 {I : Nat → Int32} {A : Nat → Nat → Int32} {K : Int} (h : HK I A K) : fX10_isWord 3 I A = if K = 22 then 1 else 0 := h.2.2.2.2.2.1 3 (by decide)
theorem hw4 {I : Nat → Int32} {A : Nat → Nat → Int32} {K : Int} (h : HK I A K) : fX10_isWord 4 I A = if K = 23 then 1 else 0 := h.2.2.2.2.2.1 4 (by decide)
theorem hw5 {I : Nat → Int32} {A : Nat → Nat → Int32} {K : Int} (h : HK I A K) : fX10_isWord 5 I A = if K = 24 then 1 else 0 := h.2.2.2.2.2.1 5 (by decide)
theorem hw6 {I : Nat → Int32} {A : Nat → Nat → Int32} {K : Int} (h : HK I A K) : fX10_isWord 6 I A = if K = 25 then 1 else 0 := h.2.2.2.2.2.1 6 (by decide)
theorem hw7 {I : Nat → Int32} {A : Nat → Nat → Int32} {K : Int} (h : HK I A K) : fX10_isWord 7 I A = if K = 27 then 1 else 0 := h.2.2.2.2.2.1 7 (by decide)
theorem hw8 {I : Nat → Int32} {A : Nat → Nat → Int32} {K : Int} (h : HK I A K) : fX10_isWord 8 I A = if K = 28 then 1 else 0 := h.2.2.2.2.2.1 8 (by decide)
theorem hw9 {I : Nat → Int32} {A : Nat → Nat → Int32} {K : Int} (h : HK I A K) : fX10_isWord 9 I A = if K = 29 then 1 else 0 := h.2.2.2.2.2.1 9 (by decide)
theorem hw10 {I : Nat → Int32} {A : Nat → Nat → Int32} {K : Int} (h : HK I A K) : fX10_isWord 10 I A = if K = 30 then 1 else 0 := h.2.2.2.2.2.1 10 (by decide)
theorem hw11 {I : Nat → Int32} {A : Nat → Nat → Int32} {K : Int} (h : HK I A K) : fX10_isWord 11 I A = if K = 31 then 1 else 0 := h.2.2.2.2.2.1 11 (by decide)
theorem hw12 {I : Nat → Int32} {A : Nat → Nat → Int32} {K : Int} (h : HK I A K) : fX10_isWord 12 I A = if K = 32 then 1 else 0 := h.2.2.2.2.2.1 12 (by decide)
def tellX (K : Int) : Int32 := if K = 20 then 4 else if K = 21 then 5 else if K = 22 then 0 else if K = 23 then 1 else if K = 24 then 2 else if K = 25 then 3 else (-1)
theorem x_tell {I : Nat → Int32} {A : Nat → Nat → Int32} {K : Int} (h : HK I A K) : fX5_tellAtHand I A = tellX K := by
  unfold fX5_tellAtHand tellX
  rw [hw1 h, hw2 h, hw3 h, hw4 h, hw5 h, hw6 h]
  by_cases h0 : K = 20
  · simp [h0]
  by_cases h1 : K = 21
  · simp [h1]
  by_cases h2 : K = 22
  · simp [h2]
  by_cases h3 : K = 23
  · simp [h3]
  by_cases h4 : K = 24
  · simp [h4]
  by_cases h5 : K = 25
  · simp [h5]
  simp [h0, h1, h2, h3, h4, h5]
def levX (K : Int) : Int32 := if K = 27 then 0 else if K = 28 then 1 else if K = 29 then 2 else if K = 30 then 3 else (-1)
theorem x_lev {I : Nat → Int32} {A : Nat → Nat → Int32} {K : Int} (h : HK I A K) : fX5_levelAtHand I A = levX K := by
  unfold fX5_levelAtHand levX
  rw [hw7 h, hw8 h, hw9 h, hw10 h]
  by_cases h0 : K = 27
  · simp [h0]
  by_cases h1 : K = 28
  · simp [h1]
  by_cases h2 : K = 29
  · simp [h2]
  by_cases h3 : K = 30
  · simp [h3]
  simp [h0, h1, h2, h3]
def cosX (K : Int) : Int32 := if K = 31 then 0 else if K = 32 then 1 else (-1)
theorem x_cos {I : Nat → Int32} {A : Nat → Nat → Int32} {K : Int} (h : HK I A K) : fX5_costAtHand I A = cosX K := by
  unfold fX5_costAtHand cosX
  rw [hw11 h, hw12 h]
  by_cases h0 : K = 31
  · simp [h0]
  by_cases h1 : K = 32
  · simp [h1]
  simp [h0, h1]
theorem x_isName {I : Nat → Int32} {A : Nat → Nat → Int32} {K : Int} (h : HK I A K) : fX5_isNameAtHand I A = if K = 1 then 1 else 0 := by
  unfold fX5_isNameAtHand
  dsimp only [f_lt]
  rw [x_tell h, x_lev h, x_cos h, hw0 h]
  obtain ⟨k0, k2, k3, k4, k1, -, k5, k6, k7⟩ := h
  by_cases c1 : K = 1
  · subst c1
    have h1 : (I 1).toInt = 1 := k1.mp (Or.inl rfl)
    simp [tellX, levX, cosX, h1]
  · rw [if_neg c1]
    by_cases c2 : (I 1).toInt = 1
    · have h2 := k1.mpr c2
      have h3 : K = 20 ∨ K = 21 ∨ K = 22 ∨ K = 23 ∨ K = 24 ∨ K = 25 ∨ K = 26 ∨ K = 27 ∨ K = 28 ∨ K = 29 ∨ K = 30 ∨ K = 31 ∨ K = 32 := by omega
      rcases h3 with e | e | e | e | e | e | e | e | e | e | e | e | e <;> subst e <;> simp [tellX, levX, cosX]
    · simp [c2]
theorem x_row {I : Nat → Int32} {A : Nat → Nat → Int32} {K : Int} (h : HK I A K) : fX5_mayStandInRow I A = if K = 2 ∨ ((I 8).toInt = 0 ∧ (K = 9 ∨ K = 4)) then 1 else 0 := by
  unfold fX5_mayStandInRow
  obtain ⟨k0, k2, k3, k4, k1, -⟩ := h
  by_cases c1 : (I 1).toInt = 2
  · rw [if_neg (fun h9 => h9 c1), if_pos (Or.inl (k2.mpr c1))]
  · rw [if_pos c1]
    by_cases c8 : (I 8).toInt = 0
    · rw [if_neg (fun h9 => h9 c8)]
      by_cases c4 : (I 1).toInt = 4
      · rw [if_pos c4, if_pos (Or.inr ⟨c8, Or.inl (k4.mpr c4)⟩)]
      · rw [if_neg c4]
        by_cases c3 : (I 1).toInt = 3
        · rw [if_neg (fun h9 => h9 c3), if_pos (Or.inr ⟨c8, Or.inr (k3.mpr c3)⟩)]
        · rw [if_pos c3, if_neg (by omega)]
    · rw [if_pos c8, if_neg (by omega)]
theorem x_choice {I : Nat → Int32} {A : Nat → Nat → Int32} {K : Int} (h : HK I A K) : fX5_choiceAtHand I A = if (I 7).toInt = 1 then levX K else cosX K := by
  unfold fX5_choiceAtHand
  dsimp only [f_lt]
  rw [x_lev h, x_cos h]
  by_cases c : (I 7).toInt = 1
  · rw [if_neg (fun h9 => h9 c), if_pos c]
  · rw [if_pos c, if_neg c]
    unfold cosX
    by_cases h1 : K = 31
    · simp [h1]
    · by_cases h2 : K = 32
      · simp [h2]
      · simp [h1, h2]
/-- from this state on the class's reading answers R -/
def Ev (I : Nat → Int32) (A : Nat → Nat → Int32) (R : Int32 × (Nat → Int32) × (Nat → Nat → Int32)) : Prop := ∀ (m : Nat) (x : Int32), x.toInt + 1 = (I 4).toInt → x.toInt ≤ 400 → 403 - x.toInt < (m : Int) → itr_iIA dfX bX5_readText_6 m x I A = R
def SX : List Nat := [1, 2, 3, 4, 5, 6, 7, 8, 9, 10, 11, 12, 13, 14, 16]
def SXA : List Nat := [1, 2, 3, 4, 5, 6]
def Red (I : Nat → Int32) (A : Nat → Nat → Int32) (I' : Nat → Int32) (A' : Nat → Nat → Int32) : Prop := (∀ R, Ev I' A' R → Ev I A R) ∧ Md SX I I' ∧ Md SXA A A'
theorem Red.rf {I : Nat → Int32} {A : Nat → Nat → Int32} : Red I A I A := ⟨fun _ h => h, Md.rf, Md.rf⟩
theorem Red.tr {I I1 I2 : Nat → Int32} {A A1 A2 : Nat → Nat → Int32} (h : Red I A I1 A1) (h2 : Red I1 A1 I2 A2) : Red I A I2 A2 := ⟨fun R hR => h.1 R (h2.1 R hR), Md.tr h.2.1 h2.2.1 rfl, Md.tr h.2.2 h2.2.2 rfl⟩
def stopI (I : Nat → Int32) (k : Int32) : Nat → Int32 := upd (upd (upd (upd I 10 1) 11 k) 12 (I 2)) 13 (I 9)
theorem x_stop {I : Nat → Int32} {A : Nat → Nat → Int32} {k : Int32} : fX5_stop I A k = (0, stopI I k, A) := rfl
theorem ev_stopped {I : Nat → Int32} {A : Nat → Nat → Int32} {k : Int32} (m : Nat) (x : Int32) (hm : 0 < m) : itr_iIA dfX bX5_readText_6 m x (stopI I k) A = (k, stopI I k, A) := by
  cases m with
  | zero => omega
  | succ m =>
    show bX5_readText_6 (itr_iIA dfX bX5_readText_6 m) x (stopI I k) A = _
    obtain ⟨G, hG⟩ : ∃ G, G = itr_iIA dfX bX5_readText_6 m := ⟨_, rfl⟩
    rw [← hG]
    unfold bX5_readText_6
    have h10 : stopI I k 10 = 1 := rfl
    have h11 : stopI I k 11 = k := rfl
    rw [h10, h11]
    by_cases h : 400 < x.toInt
    · rw [if_pos h, if_pos (by decide)]
    · rw [if_neg h, if_pos (by decide), if_pos (by decide)]
theorem ev_step {I : Nat → Int32} {A : Nat → Nat → Int32} {R : Int32 × (Nat → Int32) × (Nat → Nat → Int32)} (h : ∀ (m : Nat) (x : Int32) (G : Int32 → (Nat → Int32) → (Nat → Nat → Int32) → (Int32 × (Nat → Int32) × (Nat → Nat → Int32))), G = itr_iIA dfX bX5_readText_6 m → x.toInt + 1 = (I 4).toInt → x.toInt ≤ 400 → 402 - x.toInt < (m : Int) → bX5_readText_6 G x I A = R) : Ev I A R := by
  intro m x h1 h2 h3
  cases m with
  | zero => omega
  | succ m => exact h m x _ rfl h1 h2 (by omega)
theorem ev_syntax {I : Nat → Int32} {A : Nat → Nat → Int32} (h10 : (I 10).toInt = 0) (h1 : (I 1).toInt ≠ 0) (hm : fX5_mayStand I A = 0) : Ev I A (1, stopI I 1, A) := by
  refine ev_step (fun m x G hG e1 e2 e3 => ?_)
  unfold bX5_readText_6
  rw [if_neg (by omega), if_neg (fun h9 => h9 h10), if_neg h1, if_pos hm, x_stop]
  show G (x + Int32.ofInt 1) (stopI I 1) A = _
  rw [hG]
  exact ev_stopped m _ (by omega)
theorem ev_room {I : Nat → Int32} {A : Nat → Nat → Int32} (h10 : (I 10).toInt = 0) (h1 : (I 1).toInt ≠ 0) (hm : fX5_mayStand I A = 1) (hr : fX5_hasRoom I A = 0) : Ev I A (2, stopI I 2, A) := by
  refine ev_step (fun m x G hG e1 e2 e3 => ?_)
  unfold bX5_readText_6
  rw [if_neg (by omega), if_neg (fun h9 => h9 h10), if_neg h1, if_neg (by rw [hm]; decide), if_pos hr, x_stop]
  show G (x + Int32.ofInt 1) (stopI I 2) A = _
  rw [hG]
  exact ev_stopped m _ (by omega)
theorem ev_end {I : Nat → Int32} {A : Nat → Nat → Int32} (h10 : (I 10).toInt = 0) (h1 : (I 1).toInt = 0) (h6 : (I 6).toInt = 0) : Ev I A (I 11, I, A) := by
  refine ev_step (fun m x G hG e1 e2 e3 => ?_)
  unfold bX5_readText_6
  rw [if_neg (by omega), if_neg (fun h9 => h9 h10), if_pos h1, if_pos h6]
theorem ev_endS {I : Nat → Int32} {A : Nat → Nat → Int32} (h10 : (I 10).toInt = 0) (h1 : (I 1).toInt = 0) (h6 : (I 6).toInt ≠ 0) : Ev I A (1, stopI I 1, A) := by
  refine ev_step (fun m x G hG e1 e2 e3 => ?_)
  unfold bX5_readText_6
  rw [if_neg (by omega), if_neg (fun h9 => h9 h10), if_pos h1, if_neg h6, x_stop]
  rfl
theorem ev_go {I I1 I2 : Nat → Int32} {A A1 A2 : Nat → Nat → Int32} (h10 : (I 10).toInt = 0) (h1 : (I 1).toInt ≠ 0) (hm : fX5_mayStand I A = 1) (hr : fX5_hasRoom I A = 1) (ha : fX5_accept I A = (0, I1, A1)) (ht : fX10_toNextToken I1 A1 = (0, I2, A2)) (h4 : I2 4 = I 4 + 1) (h4b : (I 4).toInt ≤ 400) (hM : Md SX I I2) (hMA : Md SXA A A2) : Red I A I2 A2 := by
  refine ⟨fun R hR => ?_, hM, hMA⟩
  refine ev_step (fun m x G hG e1 e2 e3 => ?_)
  unfold bX5_readText_6
  rw [if_neg (by omega), if_neg (fun h9 => h9 h10), if_neg h1, if_neg (by rw [hm]; decide), if_neg (by rw [hr]; decide), ha]
  show f_bdX (fX10_toNextToken I1 A1) (fun _ I3 A3 => G (x + Int32.ofInt 1) I3 A3) = R
  rw [ht]
  show G (x + Int32.ofInt 1) I2 A2 = R
  rw [hG]
  have hx : (x + Int32.ofInt 1).toInt = x.toInt + 1 := i32_inc (by omega)
  exact hR m (x + Int32.ofInt 1) (by rw [h4, hx, i32_inc (by omega)]; omega) (by omega) (by omega)
/-- the class's reading ends with this FAULT -/
def XF (I : Nat → Int32) (A : Nat → Nat → Int32) (k pl ca : Int32) : Prop := ∃ (I' : Nat → Int32) (A' : Nat → Nat → Int32), Ev I A (k, I', A') ∧ I' 12 = pl ∧ I' 13 = ca ∧ Md SX I I' ∧ Md SXA A A'
theorem XF.red {I I1 : Nat → Int32} {A A1 : Nat → Nat → Int32} {k pl ca : Int32} (h : Red I A I1 A1) (h2 : XF I1 A1 k pl ca) : XF I A k pl ca := by
  obtain ⟨I', A', a, b, c, d, e⟩ := h2
  exact ⟨I', A', h.1 _ a, b, c, Md.tr h.2.1 d rfl, Md.tr h.2.2 e rfl⟩
theorem stopI_md {I : Nat → Int32} {k : Int32} : Md SX I (stopI I k) := Md.up (Md.up (Md.up (Md.up Md.rf rfl) rfl) rfl) rfl
theorem xf_syntax {I : Nat → Int32} {A : Nat → Nat → Int32} (h10 : (I 10).toInt = 0) (h : (I 1).toInt = 0 ∧ (I 6).toInt ≠ 0 ∨ (I 1).toInt ≠ 0 ∧ fX5_mayStand I A = 0) : XF I A 1 (I 2) (I 9) := by
  rcases h with h | h
  · exact ⟨_, _, ev_endS h10 h.1 h.2, rfl, rfl, stopI_md, Md.rf⟩
  · exact ⟨_, _, ev_syntax h10 h.1 h.2, rfl, rfl, stopI_md, Md.rf⟩
theorem xf_room {I : Nat → Int32} {A : Nat → Nat → Int32} (h10 : (I 10).toInt = 0) (h1 : (I 1).toInt ≠ 0) (hm : fX5_mayStand I A = 1) (hr : fX5_hasRoom I A = 0) : XF I A 2 (I 2) (I 9) := ⟨_, _, ev_room h10 h1 hm hr, rfl, rfl, stopI_md, Md.rf⟩
