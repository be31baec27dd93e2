theorem m_isQuery {J : Nat → Int32} {B : Nat → Nat → Int32} {L : Nat → Nat → Int64} {σ nq : Nat} (h15 : (J 15).toInt = (σ : Int)) (hσ : σ ≤ 1) (h10 : (B 10 σ).toInt = (nq : Int)) (hn : nq ≤ 5) {z : Int32} : fM12_isQuery J B L z = if 0 ≤ z.toInt ∧ z.toInt < (nq : Int) then 1 else 0 := by
  have e0 : (0 : Int32).toInt = 0 := rfl
  unfold fM12_isQuery
  dsimp only [f_lt]
  have hc : σ = 0 ∨ σ = 1 := by omega
  rcases hc with e | e
  · subst e
    have d := i32_sub (x := B 10 0) (y := 1) (b := 1) rfl h10 rfl (by omega) (by omega)
    rw [if_pos (by omega), m_in, if10]
    by_cases c : 0 ≤ z.toInt ∧ z.toInt < (nq : Int)
    · rw [if_pos c, if_pos (by omega)]
    · rw [if_neg c, if_neg (by omega)]
  · subst e
    have d := i32_sub (x := B 10 1) (y := 1) (b := 1) rfl h10 rfl (by omega) (by omega)
    rw [if_neg (by omega), if_pos (by omega), m_in, if10]
    by_cases c : 0 ≤ z.toInt ∧ z.toInt < (nq : Int)
    · rw [if_pos c, if_pos (by omega)]
    · rw [if_neg c, if_neg (by omega)]
theorem i_5 {J : Nat → Int32} {z : Int32} {σ q : Nat} (h15 : (J 15).toInt = (σ : Int)) (hσ : σ ≤ 1) (hz : z.toInt = (q : Int)) (hq : q < 1000) : (5 * J 15 + z).toInt = ((5 * σ + q : Nat) : Int) := by
  have e1 := i32_mul (x := 5) (y := J 15) (a := 5) rfl rfl h15 (by omega) (by omega)
  have e2 := i32_add (x := 5 * J 15) (y := z) rfl e1 hz (by omega) (by omega)
  omega
theorem x_len2 {I : Nat → Int32} {A : Nat → Nat → Int32} {nq : Nat} (h19 : (I 19).toInt = (nq : Int)) (hn : nq ≤ 5) {z : Int32} {q : Nat} (hz : z.toInt = (q : Int)) (hq : q < nq) : fX4_lengthOf_2 I A z = (A 9 q, 1) := by
  unfold fX4_lengthOf_2
  rw [x_hasQ h19 hn, if10, if_pos (by omega), clN hz]
theorem x_len0 {I : Nat → Int32} {A : Nat → Nat → Int32} {nq : Nat} (h19 : (I 19).toInt = (nq : Int)) (hn : nq ≤ 5) {z : Int32} (hz : ¬ (0 ≤ z.toInt ∧ z.toInt < (nq : Int))) : fX4_lengthOf_2 I A z = (0, 0) := by
  unfold fX4_lengthOf_2
  rw [x_hasQ h19 hn, if10, if_neg hz]
theorem query_eq {I : Nat → Int32} {A : Nat → Nat → Int32} {J : Nat → Int32} {B : Nat → Nat → Int32} {L : Nat → Nat → Int64} (h : QS I A J B) (z1 z2 : Int32) : fX11_query I A z1 z2 = fM12_query J B L z1 z2 := by
  obtain ⟨σ, nq, h15, hσ, h19, h10, hn, hq⟩ := h
  have e0 : (0 : Int32).toInt = 0 := rfl
  unfold fX11_query fX4_valueAt_2 fM12_query
  dsimp only [f_lt]
  rw [m_isQuery h15 hσ h10 hn, if10]
  by_cases c : 0 ≤ z1.toInt ∧ z1.toInt < (nq : Int)
  · obtain ⟨q, hz⟩ : ∃ q : Nat, z1.toInt = (q : Int) := ⟨z1.toInt.toNat, by omega⟩
    obtain ⟨q1, q2, q3, q4⟩ := hq q (by omega)
    rw [if_pos c, x_len2 h19 hn hz (by omega), ifp, clN (i_5 h15 hσ hz (by omega)), ← q1]
    have d := i32_sub (x := A 9 q) (y := 1) (b := 1) rfl rfl rfl (by omega) (by omega)
    rw [m_in, if10]
    by_cases c2 : 0 ≤ z2.toInt ∧ z2.toInt < (A 9 q).toInt
    · obtain ⟨i, hi⟩ : ∃ i : Nat, z2.toInt = (i : Int) := ⟨z2.toInt.toNat, by omega⟩
      have e5 := i_5 h15 hσ hz (by omega)
      have e6 := i32_mul (x := 16) (y := 5 * J 15 + z1) (a := 16) rfl rfl e5 (by omega) (by omega)
      have e7 : (16 * (5 * J 15 + z1) + z2).toInt = ((80 * σ + (16 * q + i) : Nat) : Int) := by
        have := i32_add (x := 16 * (5 * J 15 + z1)) (y := z2) rfl e6 hi (by omega) (by omega)
        omega
      rw [if_neg (by omega), if_neg (by omega), if_neg (by show ¬ (A 9 q).toInt ≤ z2.toInt; omega), i_16 hz hi (by omega) (by omega), if_pos (by omega), clN e7]
      exact (q4 i (by omega)).1
    · rw [if_neg (show ¬ ((0 : Int32).toInt ≤ z2.toInt ∧ z2.toInt ≤ (A 9 q - 1).toInt) by omega)]
      by_cases c3 : z2.toInt < 0
      · rw [if_pos c3]
      · rw [if_neg c3]
        by_cases c4 : 16 ≤ z2.toInt
        · rw [if_pos c4]
        · rw [if_neg c4, if_pos (by show (A 9 q).toInt ≤ z2.toInt; omega)]
  · rw [if_neg c, x_len0 h19 hn c, ifp0]
    by_cases c3 : z2.toInt < 0
    · rw [if_pos c3]
    · rw [if_neg c3]
      by_cases c4 : 16 ≤ z2.toInt
      · rw [if_pos c4]
      · rw [if_neg c4]
section ANS0
variable {I I' J J' : Nat → Int32} {A A' B B' : Nat → Nat → Int32} {M M' : Nat → Nat → Int64} {z z1 z2 v w : Int32}
theorem ans_place (h : RA I A J B M) (_ : IvX I A) (_ : IvM J B) (eX : FE (fX11_place I A) v) (eM : FE (fM12_place J B M) w) : v = w := (fe_s eX).trans ((show fX11_place I A = fM12_place J B M from h.1.2.1).trans eM)
theorem ans_cause (h : RA I A J B M) (_ : IvX I A) (_ : IvM J B) (eX : FE (fX11_cause I A) v) (eM : FE (fM12_cause J B M) w) : v = w := (fe_s eX).trans ((show fX11_cause I A = fM12_cause J B M from h.1.2.2).trans eM)
theorem ans_at (h : RA I A J B M) (_ : IvX I A) (_ : IvM J B) (eX : FE (fX11_at I A z) v) (eM : FE (fM12_at J B M z) w) : v = w := by
  obtain ⟨fs, u, nx, h17, -, -, -, -, -, hR, -⟩ := h.2.1
  exact (fe_s eX).trans ((at_eq h17 hR z).trans eM)
theorem ans_query (h : RA I A J B M) (_ : IvX I A) (_ : IvM J B) (eX : FE (fX11_query I A z1 z2) v) (eM : FE (fM12_query J B M z1 z2) w) : v = w := (fe_s eX).trans ((query_eq h.2.2.1 z1 z2).trans eM)
theorem ans_push (h : RA I A J B M) (_ : IvX I A) (_ : IvM J B) (eX : FE (fX11_push I A z) (v, I', A')) (eM : FE (fM12_push J B M z) (w, J', B', M')) : v = w := (HS.push h.2.1 eX eM).2
theorem ans_gap (h : RA I A J B M) (_ : IvX I A) (_ : IvM J B) (eX : FE (fX11_gap I A) (v, I', A')) (eM : FE (fM12_gap J B M) (w, J', B', M')) : v = w := (HS.gap h.2.1 eX eM).2
theorem ans_mend (h : RA I A J B M) (_ : IvX I A) (_ : IvM J B) (eX : FE (fX11_mend I A z) (v, I', A')) (eM : FE (fM12_mend J B M z) (w, J', B', M')) : v = w := (HS.mend h.2.1 eX eM).2
theorem ans_drop (h : RA I A J B M) (_ : IvX I A) (_ : IvM J B) (eX : FE (fX11_drop I A z) (v, I', A')) (eM : FE (fM12_drop J B M z) (w, J', B', M')) : v = w := (HS.drop h.2.1 eX eM).2
theorem ans_set (h : RA I A J B M) (_ : IvX I A) (_ : IvM J B) (eX : FE (fX11_set I A z1 z2) (v, I', A')) (eM : FE (fM12_set J B M z1 z2) (w, J', B', M')) : v = w := (HS.set h.2.1 eX eM).2
theorem ans_undo (h : RA I A J B M) (_ : IvX I A) (_ : IvM J B) (eX : FE (fX11_undo I A) (v, I', A')) (eM : FE (fM12_undo J B M) (w, J', B', M')) : v = w := (HS.undo h.2.1 eX eM).2
theorem ans_restore (h : RA I A J B M) (_ : IvX I A) (_ : IvM J B) (eX : FE (fX11_restore I A z) (v, I', A')) (eM : FE (fM12_restore J B M z) (w, J', B', M')) : v = w := (HS.restore h.2.2.2 h.2.1 eX eM).2
end ANS0
