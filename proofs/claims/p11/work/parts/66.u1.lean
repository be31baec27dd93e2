theorem td3 {a b : Int} (hb : 0 < b) : (0 ≤ a ∧ a.tdiv b = a / b) ∨ (a < 0 ∧ a % b = 0 ∧ a.tdiv b = a / b) ∨ (a < 0 ∧ 0 < a % b ∧ a.tdiv b = a / b + 1) := by
  have h := Int.tdiv_eq_ediv (a := a) (b := b)
  rw [Int.sign_eq_one_of_pos hb] at h
  have hm := Int.emod_nonneg a (show b ≠ 0 by omega)
  by_cases c : 0 ≤ a
  · left; rw [if_pos (Or.inl c)] at h; exact ⟨c, by omega⟩
  · by_cases d : b ∣ a
    · have := Int.emod_eq_zero_of_dvd d
      rw [if_pos (Or.inr d)] at h
      right; left; exact ⟨by omega, this, by omega⟩
    · have d2 : a % b ≠ 0 := fun e => d (Int.dvd_of_emod_eq_zero e)
      rw [if_neg (fun e => e.elim c d)] at h
      right; right; exact ⟨by omega, by omega, h⟩
theorem xor_neg {x y : Int32} : (x ^^^ y).toInt < 0 ↔ ¬ (x.toInt < 0 ↔ y.toInt < 0) := by
  have h := BitVec.msb_xor (x := x.toBitVec) (y := y.toBitVec)
  rw [BitVec.msb_eq_toInt, BitVec.msb_eq_toInt, BitVec.msb_eq_toInt] at h
  have h2 : decide ((x ^^^ y).toInt < 0) = (decide (x.toInt < 0) ^^ decide (y.toInt < 0)) := h
  by_cases a : x.toInt < 0
  · by_cases b : y.toInt < 0
    · rw [decide_eq_true a, decide_eq_true b] at h2
      have h3 := of_decide_eq_false (p := (x ^^^ y).toInt < 0) h2
      constructor
      · intro h9; exact absurd h9 h3
      · intro h9; exact absurd ⟨fun _ => b, fun _ => a⟩ h9
    · rw [decide_eq_true a, decide_eq_false b] at h2
      have h3 := of_decide_eq_true (p := (x ^^^ y).toInt < 0) h2
      exact ⟨fun _ h9 => b (h9.mp a), fun _ => h3⟩
  · by_cases b : y.toInt < 0
    · rw [decide_eq_false a, decide_eq_true b] at h2
      have h3 := of_decide_eq_true (p := (x ^^^ y).toInt < 0) h2
      exact ⟨fun _ h9 => a (h9.mpr b), fun _ => h3⟩
    · rw [decide_eq_false a, decide_eq_false b] at h2
      have h3 := of_decide_eq_false (p := (x ^^^ y).toInt < 0) h2
      constructor
      · intro h9; exact absurd h9 h3
      · intro h9; exact absurd ⟨fun h8 => absurd h8 a, fun h8 => absurd h8 b⟩ h9
/-- what a quotient is: its own value and its product with the divisor -/
theorem dv3 {x y : Int32} (hb : 0 < y.toInt) : (-2147483648 ≤ x.toInt / y.toInt ∧ x.toInt / y.toInt < 2147483648) ∧ ((0 ≤ x.toInt ∧ (x / y).toInt = x.toInt / y.toInt ∧ (x / y * y).toInt = x.toInt - x.toInt % y.toInt) ∨ (x.toInt < 0 ∧ x.toInt % y.toInt = 0 ∧ (x / y).toInt = x.toInt / y.toInt ∧ (x / y * y).toInt = x.toInt) ∨ (x.toInt < 0 ∧ 0 < x.toInt % y.toInt ∧ (x / y).toInt = x.toInt / y.toInt + 1 ∧ (x / y * y).toInt = x.toInt - x.toInt % y.toInt + y.toInt)) := by
  have hx1 : -2147483648 ≤ x.toInt := Int32.le_toInt x
  have hx2 : x.toInt < 2147483648 := Int32.toInt_lt x
  have hy2 : y.toInt < 2147483648 := Int32.toInt_lt y
  have t := td3 (a := x.toInt) hb
  have e := Int.ediv_mul_add_emod x.toInt y.toInt
  have m1 := Int.emod_lt_of_pos x.toInt hb
  have m0 := Int.emod_nonneg x.toInt (show y.toInt ≠ 0 by omega)
  have k1 : -2147483648 ≤ x.toInt / y.toInt := (Int.le_ediv_iff_mul_le hb).mpr (by omega)
  have k2 : x.toInt / y.toInt < 2147483648 := (Int.ediv_lt_iff_lt_mul hb).mpr (by omega)
  refine ⟨⟨k1, k2⟩, ?_⟩
  have qd := Int32.toInt_div x y
  have qm := Int32.toInt_mul (x / y) y
  rcases t with ⟨c, t⟩ | ⟨c, d, t⟩ | ⟨c, d, t⟩
  · rw [t] at qd
    have q1 : (x / y).toInt = x.toInt / y.toInt := by rw [qd]; exact Int.bmod_eq_of_le (by omega) (by omega)
    refine Or.inl ⟨c, q1, ?_⟩
    rw [qm, q1, show x.toInt / y.toInt * y.toInt = x.toInt - x.toInt % y.toInt by omega]
    have k3 : 0 ≤ x.toInt / y.toInt * y.toInt := Int.mul_nonneg (Int.ediv_nonneg c (by omega)) (by omega)
    exact Int.bmod_eq_of_le (by omega) (by omega)
  · rw [t] at qd
    have q1 : (x / y).toInt = x.toInt / y.toInt := by rw [qd]; exact Int.bmod_eq_of_le (by omega) (by omega)
    refine Or.inr (Or.inl ⟨c, d, q1, ?_⟩)
    rw [qm, q1, show x.toInt / y.toInt * y.toInt = x.toInt by omega]
    exact Int.bmod_eq_of_le (by omega) (by omega)
  · rw [t] at qd
    have k4 : x.toInt / y.toInt < 0 := (Int.ediv_lt_iff_lt_mul hb).mpr (by omega)
    have q1 : (x / y).toInt = x.toInt / y.toInt + 1 := by rw [qd]; exact Int.bmod_eq_of_le (by omega) (by omega)
    refine Or.inr (Or.inr ⟨c, d, q1, ?_⟩)
    rw [qm, q1, Int.add_mul, show x.toInt / y.toInt * y.toInt + 1 * y.toInt = x.toInt - x.toInt % y.toInt + y.toInt by omega]
    exact Int.bmod_eq_of_le (by omega) (by omega)
theorem fdX {I : Nat → Int32} {A : Nat → Nat → Int32} {x y : Int32} (hb : 0 < y.toInt) : (fX_floorDiv I A x y).toInt = x.toInt / y.toInt := by
  obtain ⟨⟨k1, k2⟩, h⟩ := dv3 (x := x) hb
  have hx := xor_neg (x := x) (y := y)
  unfold fX_floorDiv
  dsimp only [f_lt]
  rcases h with ⟨c, a, b⟩ | ⟨c, d, a, b⟩ | ⟨c, d, a, b⟩
  · have h0 : ¬ (x ^^^ y).toInt < 0 := fun h9 => hx.mp h9 ⟨fun h8 => by omega, fun h8 => by omega⟩
    rw [if_pos (by omega)]; exact a
  · have h0 : (x ^^^ y).toInt < 0 := hx.mpr (fun h9 => by have := h9.mp c; omega)
    rw [if_neg (by omega), if_pos b]; exact a
  · have h0 : (x ^^^ y).toInt < 0 := hx.mpr (fun h9 => by have := h9.mp c; omega)
    have m1 := Int.emod_lt_of_pos x.toInt hb
    rw [if_neg (by omega), if_neg (by omega)]
    have := i32_sub (x := x / y) (y := 1) (b := 1) rfl a rfl (by omega) (by omega)
    omega
theorem fdM {J : Nat → Int32} {B : Nat → Nat → Int32} {L : Nat → Nat → Int64} {x y : Int32} (hb : 0 < y.toInt) : (fM12_downBy J B L x y).toInt = x.toInt / y.toInt := by
  obtain ⟨⟨k1, k2⟩, h⟩ := dv3 (x := x) hb
  have m1 := Int.emod_lt_of_pos x.toInt hb
  have m0 := Int.emod_nonneg x.toInt (show y.toInt ≠ 0 by omega)
  have hx2 : x.toInt < 2147483648 := Int32.toInt_lt x
  have hy2 : y.toInt < 2147483648 := Int32.toInt_lt y
  unfold fM12_downBy
  dsimp only [f_lt]
  rcases h with ⟨c, a, b⟩ | ⟨c, d, a, b⟩ | ⟨c, d, a, b⟩
  · have := i32_sub (x := x) (y := x / y * y) rfl rfl b (by omega) (by omega)
    rw [if_pos (by omega)]; exact a
  · have := i32_sub (x := x) (y := x / y * y) rfl rfl b (by omega) (by omega)
    rw [if_pos (by omega)]; exact a
  · have := i32_sub (x := x) (y := x / y * y) rfl rfl b (by omega) (by omega)
    rw [if_neg (by omega)]
    have := i32_sub (x := x / y) (y := 1) (b := 1) rfl a rfl (by omega) (by omega)
    omega
theorem cpo_in {f g : Nat → Int32} {b n p : Nat} (h1 : b ≤ p) (h2 : p < b + n) : cpo f g b n p = f (p - b) := by
  unfold cpo
  rw [if_neg (by omega), if_pos h2]
theorem cpo_lt {f g : Nat → Int32} {b n p : Nat} (h1 : p < b) : cpo f g b n p = g p := by
  unfold cpo
  rw [if_pos h1]
theorem cpo_ge {f g : Nat → Int32} {b n p : Nat} (h1 : b + n ≤ p) : cpo f g b n p = g p := by
  unfold cpo
  rw [if_neg (by omega), if_neg (by omega)]
theorem x_note {I : Nat → Int32} {A : Nat → Nat → Int32} {k f s : Int32} {nx u : Nat} (h20 : (I 20).toInt = (nx : Int)) (hx : nx < 40) (h21 : (I 21).toInt = (u : Int)) (hu : u ≤ 40) : ∃ I' : Nat → Int32, fX3_note I A k f s = (0, I', up3 (up3 (up3 A 11 nx k) 12 nx f) 13 nx s) ∧ Md [20, 21] I I' ∧ (I' 20).toInt = (nxN nx : Int) ∧ (I' 21).toInt = if u = 40 then 40 else (u : Int) + 1 := by
  have e21 : (I 21 + 1).toInt = (u : Int) + 1 := by rw [i32_inc (by omega), h21]
  obtain ⟨y, hy⟩ : ∃ y : Int32, y = if (40 : Int32) < I 21 + 1 then (40 : Int32) else I 21 + 1 := ⟨_, rfl⟩
  have hy2 : y.toInt = if u = 40 then 40 else (u : Int) + 1 := by
    have e40 : (40 : Int32).toInt = 40 := rfl
    rcases i32_min (x := I 21 + 1) (y := 40) hy with ⟨a, b⟩ | ⟨a, b⟩
    · rw [if_neg (by omega)]; omega
    · by_cases c : u = 40
      · rw [if_pos c]; omega
      · rw [if_neg c]; omega
  unfold fX3_note
  dsimp only [f_lt]
  rw [if_neg (by omega), if_pos (by omega), clN h20, ← hy]
  by_cases c : nx = 39
  · rw [if_neg (by omega)]
    refine ⟨_, rfl, Md.up (Md.up Md.rf rfl) rfl, ?_, hy2⟩
    show (0 : Int32).toInt = _
    unfold nxN
    rw [if_pos c]; rfl
  · rw [if_pos (by omega)]
    refine ⟨_, rfl, Md.up (Md.up Md.rf rfl) rfl, ?_, hy2⟩
    show (I 20 + 1).toInt = _
    unfold nxN
    rw [if_neg c, i32_inc (by omega)]; omega
def rwB (B : Nat → Nat → Int32) : Nat → Nat → Int32 := fun j k => B 22 (165 * j + k)
theorem m_rec0 {J : Nat → Int32} {B : Nat → Nat → Int32} {L : Nat → Nat → Int64} : ∀ (m : Nat) (x : Int32) (k : Nat) (B1 : Nat → Nat → Int32), x.toInt = (k : Int) → k ≤ 6435 → 6435 - k < m → Md [22] B B1 → (∀ p, p < k → B1 22 p = B 22 (p + 165)) → (∀ p, k ≤ p → B1 22 p = B 22 p) → ∃ B2 : Nat → Nat → Int32, Md [22] B B2 ∧ (∀ p, p < 6435 → B2 22 p = B 22 (p + 165)) ∧ itr_iIAL dfM (bM12_records_11 J B) m x J B1 L = f_bdM (fM12_keepsRow (upd (upd J 22 (J 22 - 1)) 22 (J 22 - 1 + 1)) (up2 B2 22 (cpo (B 17) (B2 22) (165 * (J 22 - 1).toNatClampNeg) 165)) L) (fun _ J2 B2 L2 => (0, J2, B2, L2)) := by
  intro m
  induction m with
  | zero => intro x k B1 _ _ h; omega
  | succ m ih =>
    intro x k B1 hx hk hm mB h1 h2
    show ∃ B2 : Nat → Nat → Int32, Md [22] B B2 ∧ (∀ p, p < 6435 → B2 22 p = B 22 (p + 165)) ∧ bM12_records_11 J B (itr_iIAL dfM (bM12_records_11 J B) m) x J B1 L = _
    obtain ⟨G, hG⟩ : ∃ G, G = itr_iIAL dfM (bM12_records_11 J B) m := ⟨_, rfl⟩
    rw [← hG] at ih ⊢
    unfold bM12_records_11
    dsimp only [f_lt]
    by_cases c : 6435 ≤ x.toInt
    · rw [if_pos c]
      exact ⟨B1, mB, fun p hp => h1 p (by omega), rfl⟩
    · rw [if_neg c]
      have hx1 : (x + Int32.ofInt 1).toInt = ((k + 1 : Nat) : Int) := by rw [show x + Int32.ofInt 1 = x + 1 from rfl, i32_inc (by omega)]; omega
      have hx2 : (x + 165).toInt = ((k + 165 : Nat) : Int) := by
        have := i32_add (x := x) (y := 165) (b := 165) rfl hx rfl (by omega) (by omega)
        omega
      rw [clN hx, clN hx2]
      refine ih (x + Int32.ofInt 1) (k + 1) _ hx1 (by omega) (by omega) (Md.up3 mB rfl) (fun p hp => ?_) (fun p hp => ?_)
      · by_cases e : p = k
        · rw [up3_at e, h2 (k + 165) (by omega), e]
        · rw [up3_ne e]; exact h1 p (by omega)
      · rw [up3_ne (by omega)]; exact h2 p (by omega)
theorem m_records {J : Nat → Int32} {B : Nat → Nat → Int32} {L : Nat → Nat → Int64} {u : Nat} (h : (J 22).toInt = (u : Int)) (hu : u ≤ 40) : ∃ (J' : Nat → Int32) (B' : Nat → Nat → Int32) (u0 sh : Nat), fM12_records J B L = (0, J', B', L) ∧ Md [22] J J' ∧ (J' 22).toInt = (u0 : Int) + 1 ∧ u0 ≤ 39 ∧ u = u0 + sh ∧ (u0 : Int) + 1 = (if u = 40 then 40 else (u : Int) + 1) ∧ Md [17, 22] B B' ∧ (∀ k, k < 165 → B' 17 k = B 18 k) ∧ (∀ j, j < u0 → ∀ k, k < 165 → rwB B' j k = rwB B (j + sh) k) ∧ (∀ k, k < 165 → rwB B' u0 k = B 17 k) := by
  unfold fM12_records
  dsimp only [f_lt]
  by_cases c : u = 40
  · rw [if_neg (by omega)]
    obtain ⟨B2, mB, hB, e⟩ := m_rec0 (J := J) (B := B) (L := L) FU 0 0 B rfl (by omega) (by have := FU_eq; omega) Md.rf (fun p hp => by omega) (fun p hp => rfl)
    rw [e]
    unfold fM12_keepsRow
    rw [bdM_mk]
    have e1 : (J 22 - 1).toInt = ((39 : Nat) : Int) := by
      have := i32_sub (x := J 22) (y := 1) (b := 1) rfl h rfl (by omega) (by omega)
      omega
    have e2 : (J 22 - 1 + 1).toInt = 40 := by rw [i32_inc (by omega), e1]; rfl
    refine ⟨_, _, 39, 1, rfl, Md.up (Md.up Md.rf rfl) rfl, ?_, by omega, by omega, by rw [if_pos c]; rfl, Md.up2 (Md.up2 (Md.tr Md.rf mB rfl) rfl) rfl, fun k hk => ?_, fun j hj k hk => ?_, fun k hk => ?_⟩
    · show (J 22 - 1 + 1).toInt = _
      rw [e2]; rfl
    · show cpo (B2 18) _ 0 165 k = B 18 k
      rw [cpo_in (by omega) (by omega), mB 18 rfl]; rfl
    · show cpo (B 17) (B2 22) (165 * (J 22 - 1).toNatClampNeg) 165 (165 * j + k) = B 22 (165 * (j + 1) + k)
      rw [clN e1, cpo_lt (by omega), hB _ (by omega)]
      exact congrArg (B 22) (by omega)
    · show cpo (B 17) (B2 22) (165 * (J 22 - 1).toNatClampNeg) 165 (165 * 39 + k) = B 17 k
      rw [clN e1, cpo_in (by omega) (by omega)]
      exact congrArg (B 17) (by omega)
  · rw [if_pos (by omega)]
    unfold fM12_keepsRow
    rw [bdM_mk, clN h]
    have e2 : (J 22 + 1).toInt = (u : Int) + 1 := by rw [i32_inc (by omega), h]
    refine ⟨_, _, u, 0, rfl, Md.up Md.rf rfl, e2, by omega, by omega, by rw [if_neg c], Md.up2 (Md.up2 Md.rf rfl) rfl, fun k hk => ?_, fun j hj k hk => ?_, fun k hk => ?_⟩
    · show cpo (B 18) _ 0 165 k = B 18 k
      rw [cpo_in (by omega) (by omega)]; rfl
    · show cpo (B 17) (B 22) (165 * u) 165 (165 * j + k) = B 22 (165 * (j + 0) + k)
      rw [cpo_lt (by omega)]; rfl
    · show cpo (B 17) (B 22) (165 * u) 165 (165 * u + k) = B 17 k
      rw [cpo_in (by omega) (by omega)]
      exact congrArg (B 17) (by omega)
