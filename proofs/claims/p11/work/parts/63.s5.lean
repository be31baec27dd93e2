noncomputable def bQ (σ : Nat) (Jr : Nat → Int32) (Br : Nat → Nat → Int32) (y : Int32) := if σ = 0 then bM12_tellQuery_84 Jr Br y else bM12_tellQuery_84xx Jr Br y
noncomputable def QE (σ : Nat) (Jr : Nat → Int32) (Br : Nat → Nat → Int32) (R : Int32 × (Nat → Int32) × (Nat → Nat → Int32) × (Nat → Nat → Int64)) : Int32 × (Nat → Int32) × (Nat → Nat → Int32) × (Nat → Nat → Int64) := f_bdM R (fun _ J3 B3 L3 => if (J3 6).toInt ≤ 0 then (0, upd (upd J3 11 (-2)) 17 (Jr 17 + 1), up3 B3 10 σ (Br 10 σ + 1), up3L L3 7 (Jr 17).toNatClampNeg (L3 5 (Jr 4).toNatClampNeg)) else (0, J3, B3, L3))
theorem query_body {G : (Nat → Int32) → (Nat → Nat → Int32) → (Nat → Nat → Int64) → (Int32 × (Nat → Int32) × (Nat → Nat → Int32) × (Nat → Nat → Int64))} {J Jr : Nat → Int32} {B Br : Nat → Nat → Int32} {L : Nat → Nat → Int64} {t σ : Nat} {y : Int32} (h16 : (Jr 16).toInt = (σ : Int)) (hσ : σ ≤ 1) (h6 : (J 6).toInt = 0) (h4 : (J 4).toInt = (t : Int)) : bQ σ Jr Br y G J B L = if fM12_isReading J B L = 0 then (if fM12_is J B L 4 = 0 then QE σ Jr Br (fM12_must J B L 4) else if 2 ≤ (B 11 y.toNatClampNeg).toInt then QE σ Jr Br (fM12_must J B L 4) else f_bdM (fM12_wrong J B L 6 (J 4)) (fun _ J1 B1 L1 => QE σ Jr Br (fM12_must J1 B1 L1 4))) else if (B 11 y.toNatClampNeg).toInt ≠ 16 then f_bdM (fM12_readingTold J B L) (fun v J1 B1 L1 => if (J1 6).toInt ≤ 0 then G (upd J1 11 (J 11 + 1)) (up3 (up3 B1 12 (16 * y + B 11 y.toNatClampNeg).toNatClampNeg v) 11 y.toNatClampNeg (B 11 y.toNatClampNeg + 1)) L1 else (0, J1, up3 B1 12 (16 * y + B 11 y.toNatClampNeg).toNatClampNeg v, L1)) else (0, failJ J B t 2, B, L) := by
  have ef : (failJ J B t 2 6).toInt = 2 := rfl
  have hc : σ = 0 ∨ σ = 1 := by omega
  unfold bQ QE
  rcases hc with e | e
  · subst e
    have e0 : (Jr 16).toInt = 0 := h16
    rw [if_pos rfl]
    unfold bM12_tellQuery_84
    rw [m_fail0 h6 h4]
    simp only [f_lt, bdM_mk, ef, h6, e0, ↓reduceIte]
    rfl
  · subst e
    have e0 : (Jr 16).toInt = 1 := h16
    rw [if_neg (by decide)]
    unfold bM12_tellQuery_84xx
    rw [m_fail0 h6 h4]
    simp only [f_lt, bdM_mk, ef, h6, e0, ↓reduceIte]
    rfl
theorem query_F {Jr : Nat → Int32} {Br : Nat → Nat → Int32} {y : Int32} {σ m : Nat} {J : Nat → Int32} {B : Nat → Nat → Int32} {L : Nat → Nat → Int64} (h : 0 < (J 6).toInt) (hm : 0 < m) : itr_IAL dfM (bQ σ Jr Br y) m J B L = (0, J, B, L) := by
  cases m with
  | zero => omega
  | succ m =>
    show bQ σ Jr Br y (itr_IAL dfM (bQ σ Jr Br y) m) J B L = _
    obtain ⟨G, hG⟩ : ∃ G, G = itr_IAL dfM (bQ σ Jr Br y) m := ⟨_, rfl⟩
    rw [← hG]
    have h1 : fM12_isReading J B L = 0 := by
      unfold fM12_isReading
      rw [m_isF (by omega), m_isF (by omega), if_pos rfl, if_pos rfl]
    unfold bQ
    by_cases c : σ = 0
    · rw [if_pos c]
      unfold bM12_tellQuery_84
      rw [if_pos h1, m_isF (by omega), if_pos rfl, m_mustF h, bdM_mk, if_neg (by omega)]
    · rw [if_neg c]
      unfold bM12_tellQuery_84xx
      rw [if_pos h1, m_isF (by omega), if_pos rfl, m_mustF h, bdM_mk, if_neg (by omega)]
/-- a QUERY's readings, one more -/
theorem QRY.add {σ q : Nat} {I I2 : Nat → Int32} {A B : Nat → Nat → Int32} {v a b : Int32} (h : QRY σ q I A B) (hq : q ≤ 4) (hσ : σ ≤ 1) (hl : (A 4 q).toInt < 16) (h11 : (I2 11).toInt = 0 → (I 11).toInt = 0 ∧ -999 ≤ v.toInt ∧ v.toInt ≤ 999) (ha : a.toInt = 16 * (q : Int)) (hb : b.toInt = 5 * (σ : Int) + q) : QRY σ q I2 (up3 (up3 A 3 (a + A 4 q).toNatClampNeg v) 4 q (A 4 q + 1)) (up3 (up3 B 12 (16 * b + B 11 (5 * σ + q)).toNatClampNeg v) 11 (5 * σ + q) (B 11 (5 * σ + q) + 1)) := by
  obtain ⟨h1, h2, h3, h4⟩ := h
  have e1 : (A 4 q + 1).toInt = (A 4 q).toInt + 1 := i32_inc (by omega)
  have e2 : (a + A 4 q).toInt = 16 * (q : Int) + (A 4 q).toInt := i32_add rfl ha rfl (by omega) (by omega)
  have c2 := cl_int (y := a + A 4 q) (by omega)
  have e3 : (16 * b).toInt = 16 * b.toInt := i32_mul (x := 16) (a := 16) rfl rfl rfl (by omega) (by omega)
  have e4 : (16 * b + B 11 (5 * σ + q)).toInt = 80 * (σ : Int) + (16 * q + (A 4 q).toInt) := by rw [← h1, i32_add rfl e3 rfl (by omega) (by omega)]; omega
  have c4 := cl_int (y := 16 * b + B 11 (5 * σ + q)) (by omega)
  unfold QRY
  rw [up3_at (A := up3 A 3 (a + A 4 q).toNatClampNeg v) rfl, up3_at (A := up3 B 12 (16 * b + B 11 (5 * σ + q)).toNatClampNeg v) rfl, up3_o (show (3 : Nat) ≠ 4 by decide), up3_o (show (12 : Nat) ≠ 11 by decide)]
  refine ⟨by rw [h1], by omega, by omega, fun i hi => ?_⟩
  by_cases c9 : (i : Int) = (A 4 q).toInt
  · rw [up3_at (by omega), up3_at (by omega)]
    exact ⟨rfl, fun h9 => (h11 h9).2⟩
  · rw [up3_ne (by omega), up3_ne (by omega)]
    have := h4 i (by omega)
    exact ⟨this.1, fun h9 => this.2 (h11 h9).1⟩
/-- the other QUERIES stay -/
theorem QRS.oth {n : Nat} {A0 : Nat → Nat → Int32} {σ nq : Nat} {I J : Nat → Int32} {A B : Nat → Nat → Int32} {L : Nat → Nat → Int64} {v w u x : Int32} {i j : Nat} (h : QRS n A0 σ nq I A J B L) (hi : 16 * nq ≤ i) (hj : 80 * σ + 16 * nq ≤ j) : QRS n A0 σ nq I (up3 (up3 A 3 i v) 4 nq w) J (up3 (up3 B 12 j u) 11 (5 * σ + nq) x) L := by
  obtain ⟨a, b, c, d⟩ := h
  refine ⟨by rw [up3_o (show (10 : Nat) ≠ 11 by decide), up3_o (show (10 : Nat) ≠ 12 by decide)]; exact a, b, c, fun q hq => ?_⟩
  obtain ⟨⟨e1, e2, e3, e4⟩, e5, e6⟩ := d q hq
  have f1 : up3 (up3 A 3 i v) 4 nq w 4 q = A 4 q := by rw [up3_ne (by omega), up3_o (show (4 : Nat) ≠ 3 by decide)]
  refine ⟨?_, by rw [f1]; exact e5, e6⟩
  unfold QRY
  rw [f1, up3_ne (show 5 * σ + q ≠ 5 * σ + nq by omega), up3_o (show (11 : Nat) ≠ 12 by decide), up3_o (show (3 : Nat) ≠ 4 by decide), up3_o (show (12 : Nat) ≠ 11 by decide)]
  refine ⟨e1, e2, e3, fun k hk => ?_⟩
  rw [up3_ne (by omega), up3_ne (by omega)]
  exact e4 k hk
theorem FRM.upQ {σ q : Nat} {B0 B : Nat → Nat → Int32} {v : Int32} (h : FRM σ B0 B) (hσ : σ ≤ 1) (hq : q ≤ 4) : FRM σ B0 (up3 B 11 (5 * σ + q) v) := by
  obtain ⟨a, b, c⟩ := h
  refine ⟨by rw [up3_o (by decide)]; exact a, fun k hk => ?_, by rw [up3_o (by decide)]; exact c⟩
  rw [up3_ne (by omega)]; exact b k hk
theorem FRM.upR {σ i : Nat} {B0 B : Nat → Nat → Int32} {v : Int32} (h : FRM σ B0 B) (hσ : σ ≤ 1) (hi : 80 * σ ≤ i) (hi2 : i < 80 * σ + 80) : FRM σ B0 (up3 B 12 i v) := by
  obtain ⟨a, b, c⟩ := h
  refine ⟨by rw [up3_o (by decide)]; exact a, by rw [up3_o (by decide)]; exact b, fun k hk => ?_⟩
  rw [up3_ne (by omega)]; exact c k hk
theorem FRM.upN {σ : Nat} {B0 B : Nat → Nat → Int32} {v : Int32} (h : FRM σ B0 B) (hσ : σ ≤ 1) : FRM σ B0 (up3 B 10 σ v) := by
  obtain ⟨a, b, c⟩ := h
  refine ⟨by rw [up3_ne (by omega)]; exact a, by rw [up3_o (by decide)]; exact b, by rw [up3_o (by decide)]; exact c⟩
