/-- what the class does with a TOKEN, state by state -/
def markI (I : Nat → Int32) (k : Int32) : Nat → Int32 := if (I 11).toInt ≠ 0 then I else upd (upd (upd I 11 k) 12 (I 2)) 13 (I 9)
theorem x_mark {I : Nat → Int32} {A : Nat → Nat → Int32} {k : Int32} : fX5_mark I A k = (0, markI I k, A) := by
  unfold fX5_mark markI
  by_cases h : (I 11).toInt ≠ 0
  · rw [if_pos h, if_pos h]
  · rw [if_neg h, if_neg h]; rfl
theorem markI_o {I : Nat → Int32} {k : Int32} {j : Nat} (h : j ≠ 11) (h2 : j ≠ 12) (h3 : j ≠ 13) : markI I k j = I j := by
  unfold markI
  by_cases h9 : (I 11).toInt ≠ 0
  · rw [if_pos h9]
  · rw [if_neg h9, upd_ne h3, upd_ne h2, upd_ne h]
theorem markI_md {I : Nat → Int32} {k : Int32} : Md [11, 12, 13] I (markI I k) := by
  unfold markI
  by_cases h9 : (I 11).toInt ≠ 0
  · rw [if_pos h9]; exact Md.rf
  · rw [if_neg h9]; exact Md.up (Md.up (Md.up Md.rf rfl) rfl) rfl
theorem a_tell {I : Nat → Int32} {A : Nat → Nat → Int32} {K : Int} {y : Int32} (h : HK I A K) (h6 : (I 6).toInt = 0) (hy : tellX K = y) (h0 : 0 ≤ y.toInt) : fX5_mayStand I A = 1 ∧ ((I 4).toInt ≤ 400 → fX5_hasRoom I A = if y.toInt = 5 ∧ 5 ≤ (I 16).toInt then 0 else 1) ∧ fX5_accept I A = f_bdX (fX5_beginTell I A) (fun _ I2 A2 => (0, I2, A2)) := by
  have e : fX5_tellAtHand I A = y := by rw [x_tell h, hy]
  refine ⟨?_, fun h4 => ?_, ?_⟩
  · unfold fX5_mayStand
    rw [if_pos h6, e]
    show (if y.toInt < 0 then (0 : Int32) else 1) = 1
    rw [if_neg (by omega)]
  · unfold fX5_hasRoom
    rw [if_pos h4, if_pos h6, e]
    show (if y.toInt ≠ 5 then (1 : Int32) else if 5 ≤ (I 16).toInt then 0 else 1) = _
    by_cases c : y.toInt = 5
    · rw [if_neg (fun h9 => h9 c)]
      by_cases c2 : 5 ≤ (I 16).toInt
      · rw [if_pos c2, if_pos ⟨c, c2⟩]
      · rw [if_neg c2, if_neg (fun h9 => c2 h9.2)]
    · rw [if_pos c, if_neg (fun h9 => c h9.1)]
  · unfold fX5_accept
    rw [if_pos h6]
theorem a_tell_no {I : Nat → Int32} {A : Nat → Nat → Int32} {K : Int} (h : HK I A K) (h6 : (I 6).toInt = 0) (hK : ¬ (20 ≤ K ∧ K ≤ 25)) : fX5_mayStand I A = 0 := by
  unfold fX5_mayStand
  rw [if_pos h6, x_tell h]
  have e : tellX K = -1 := by
    unfold tellX
    rw [if_neg (by omega), if_neg (by omega), if_neg (by omega), if_neg (by omega), if_neg (by omega), if_neg (by omega)]
  rw [e]; rfl
theorem a_begin {I : Nat → Int32} {A : Nat → Nat → Int32} {K : Int} {y : Int32} (h : HK I A K) (hy : tellX K = y) : fX5_beginTell I A = (if y.toInt = 0 then (0, (upd (upd I 7 y) 6 4), A) else if y.toInt = 1 then (0, (upd (upd I 7 y) 6 5), A) else if y.toInt = 2 then (0, (upd (upd I 7 y) 6 5), A) else if y.toInt = 3 then (0, (upd (upd I 7 y) 6 4), A) else if y.toInt = 4 then (0, (upd (upd (upd I 7 y) 6 1) 9 0), A) else if y.toInt = 5 then (0, (upd (upd (upd I 7 y) 6 2) 9 0), A) else (0, (upd (upd I 7 y) 6 5), A)) := by
  unfold fX5_beginTell
  rw [x_tell h, hy]; rfl
/-- in a row: what may stand, what has room -/
theorem a_row {I : Nat → Int32} {A : Nat → Nat → Int32} {K : Int} (h : HK I A K) (h6 : (I 6).toInt = 1 ∨ (I 6).toInt = 3) : (fX5_mayStand I A = if (K = 2 ∨ ((I 8).toInt = 0 ∧ (K = 9 ∨ K = 4))) ∨ ((I 6).toInt = 1 ∧ (I 8).toInt = 0 ∧ K = 26) then 1 else 0) ∧ ((I 4).toInt ≤ 400 → fX5_hasRoom I A = if K = 4 ∨ ((I 6).toInt = 1 ∧ (I 14).toInt < 160) ∨ ((I 6).toInt = 3 ∧ (I 9).toInt < 16) then 1 else 0) ∧ fX5_accept I A = f_bdX (fX5_acceptInRow I A) (fun _ I2 A2 => (0, I2, A2)) := by
  have hr := x_row h
  have k3 := h.2.2.1
  refine ⟨?_, fun h4 => ?_, ?_⟩
  · unfold fX5_mayStand
    rcases h6 with h6 | h6
    · rw [if_neg (by omega), if_pos h6, hr, hw0 h]
      by_cases c : K = 2 ∨ ((I 8).toInt = 0 ∧ (K = 9 ∨ K = 4))
      · rw [if_pos c, if_pos (Or.inl c)]; rfl
      · rw [if_neg c, if_pos rfl]
        by_cases c8 : (I 8).toInt = 0
        · rw [if_neg (fun h9 => h9 c8)]
          by_cases c26 : K = 26
          · rw [if_pos c26, if_pos (Or.inr ⟨h6, c8, c26⟩)]; rfl
          · rw [if_neg c26, if_pos rfl, if_neg (by omega)]
        · rw [if_pos c8, if_neg (by omega)]
    · rw [if_neg (by omega), if_neg (by omega), if_neg (by omega), if_pos h6, hr]
      by_cases c : K = 2 ∨ ((I 8).toInt = 0 ∧ (K = 9 ∨ K = 4))
      · rw [if_pos c, if_pos (Or.inl c)]; rfl
      · rw [if_neg c, if_pos rfl, if_neg (by omega)]
  · unfold fX5_hasRoom
    rcases h6 with h6 | h6
    · rw [if_pos h4, if_neg (by omega), if_pos h6]
      by_cases c : (I 1).toInt = 3
      · rw [if_pos c, if_pos (Or.inl (k3.mpr c))]
      · rw [if_neg c]
        by_cases c2 : 160 ≤ (I 14).toInt
        · rw [if_pos c2, if_neg (by omega)]
        · rw [if_neg c2, if_pos (by omega)]
    · rw [if_pos h4, if_neg (by omega), if_neg (by omega), if_neg (by omega), if_pos h6]
      by_cases c : (I 1).toInt = 3
      · rw [if_pos c, if_pos (Or.inl (k3.mpr c))]
      · rw [if_neg c]
        by_cases c2 : 16 ≤ (I 9).toInt
        · rw [if_pos c2, if_neg (by omega)]
        · rw [if_neg c2, if_pos (by omega)]
  · unfold fX5_accept
    rcases h6 with h6 | h6
    · rw [if_neg (by omega), if_pos h6]
    · rw [if_neg (by omega), if_neg (by omega), if_neg (by omega), if_pos h6]
/-- a value kept in a row -/
def kpI (I : Nat → Int32) : Nat → Int32 := if (I 6).toInt = 1 then upd (upd (upd I 14 (I 14 + 1)) 9 (I 9 + 1)) 8 0 else upd (upd I 9 (I 9 + 1)) 8 0
def kpA (I : Nat → Int32) (A : Nat → Nat → Int32) (v : Int32) : Nat → Nat → Int32 := if (I 6).toInt = 1 then up3 A 1 (I 14).toNatClampNeg v else up3 (up3 A 3 ((I 16 - 1) * 16 + A 4 (I 16 - 1).toNatClampNeg).toNatClampNeg v) 4 (I 16 - 1).toNatClampNeg (A 4 (I 16 - 1).toNatClampNeg + 1)
theorem x_keep {I : Nat → Int32} {A : Nat → Nat → Int32} {v : Int32} (h1 : (I 6).toInt = 1 → 0 ≤ (I 14).toInt ∧ (I 14).toInt < 160) (h3 : (I 6).toInt ≠ 1 → 1 ≤ (I 16).toInt ∧ (I 16).toInt ≤ 5 ∧ (A 4 (I 16 - 1).toNatClampNeg).toInt < 16) : fX5_keepInRow I A v = (0, kpI I, kpA I A v) := by
  unfold fX5_keepInRow kpI kpA
  by_cases c : (I 6).toInt = 1
  · rw [if_neg (fun h9 => h9 c), if_pos c, if_pos c]
    have h9 := h1 c
    have e : fX8_append I A v = (0, upd I 14 (I 14 + 1), up3 A 1 (I 14).toNatClampNeg v) := by
      unfold fX8_append
      rw [if_neg (by omega), if_neg (by omega)]; rfl
    rw [e]; rfl
  · rw [if_pos c, if_neg c, if_neg c]
    have h9 := h3 c
    have e0 : (I 16 - 1).toInt = (I 16).toInt - 1 := i32_sub rfl rfl rfl (by omega) (by omega)
    have e1 : fX4_has I A (I 16 - 1) = 1 := by
      unfold fX4_has
      first
        | (rw [if_neg (by omega), if_neg (by omega), if_neg (by omega)])
        | (rw [if_neg (by omega), if_neg (by omega)])
        | (rw [if_neg (by omega), if_pos (by omega)])
    have e : fX4_append I A v = (0, I, up3 (up3 A 3 ((I 16 - 1) * 16 + A 4 (I 16 - 1).toNatClampNeg).toNatClampNeg v) 4 (I 16 - 1).toNatClampNeg (A 4 (I 16 - 1).toNatClampNeg + 1)) := by
      unfold fX4_append
      dsimp only [f_lt]
      rw [e1, if_neg (by decide), if_neg (by omega)]
    rw [e]; rfl
