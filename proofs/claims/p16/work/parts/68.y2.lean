/-- the COST of two readings -/
def csT (c a b : Int) : Int := if c = 0 then (if a - b < 0 then -(a - b) else a - b) else (a - b) * (a - b)
theorem sq_b {x : Int} (h1 : -3996 ≤ x) (h2 : x ≤ 3996) : 0 ≤ x * x ∧ x * x ≤ 15968016 := by
  have a : 0 ≤ (3996 - x) * (3996 + x) := Int.mul_nonneg (by omega) (by omega)
  rw [Int.sub_mul, Int.mul_add, Int.mul_add] at a
  have b : 0 ≤ x * x := by
    by_cases c : 0 ≤ x
    · exact Int.mul_nonneg c c
    · have := Int.mul_nonneg (a := -x) (b := -x) (by omega) (by omega)
      rwa [Int.neg_mul_neg] at this
  omega
theorem csT_b {c a b : Int} (ha : -1998 ≤ a ∧ a ≤ 1998) (hb : -1998 ≤ b ∧ b ≤ 1998) : 0 ≤ csT c a b ∧ csT c a b ≤ 15968016 := by
  unfold csT
  have := sq_b (x := a - b) (by omega) (by omega)
  split
  · split <;> omega
  · exact this
theorem csT_comm {c a b : Int} : csT c a b = csT c b a := by
  unfold csT
  split
  · split <;> (try split) <;> omega
  · have e : b - a = -(a - b) := by omega
    rw [e, Int.neg_mul_neg]
def inB (b : Int) (i j : Nat) : Prop := (i : Int) - (j : Int) ≤ b ∧ (j : Int) - (i : Int) ≤ b
def m2 (a b : Int) : Int := if a ≤ b then a else b
theorem m2_l {a b : Int} : m2 a b ≤ a := by unfold m2; split <;> omega
theorem m2_r {a b : Int} : m2 a b ≤ b := by unfold m2; split <;> omega
theorem m2_c {a b : Int} : m2 a b = a ∨ m2 a b = b := by unfold m2; split <;> omega
theorem m2_g {a b v : Int} (h1 : v ≤ a) (h2 : v ≤ b) : v ≤ m2 a b := by unfold m2; split <;> omega
/-- a row of the table of all ways, out of the row above -/
def rwT (b : Int) (C : Nat → Int) (i : Nat) (up : Nat → Int) : Nat → Int
  | 0 => if (i : Int) - (0 : Nat) ≤ b ∧ ((0 : Nat) : Int) - i ≤ b then (if i = 0 then 0 else up 0) + C 0 else 2000000000
  | j + 1 => if (i : Int) - (j + 1 : Nat) ≤ b ∧ ((j + 1 : Nat) : Int) - i ≤ b then m2 (up j) (m2 (up (j + 1)) (rwT b C i up j)) + C (j + 1) else 2000000000
def tT (b : Int) (C : Nat → Nat → Int) : Nat → Nat → Int
  | 0 => rwT b (C 0) 0 (fun _ => 2000000000)
  | i + 1 => rwT b (C (i + 1)) (i + 1) (tT b C i)
def cok (n : Nat) (C : Nat → Nat → Int) : Prop := ∀ i j, i < n → j < n → 0 ≤ C i j ∧ C i j ≤ 15968016
theorem tT_out {b : Int} {C : Nat → Nat → Int} {i j : Nat} (h : ¬ inB b i j) : tT b C i j = 2000000000 := by
  have key : ∀ (c : Nat → Int) (i : Nat) (up : Nat → Int) (j : Nat), ¬ inB b i j → rwT b c i up j = 2000000000 := by
    intro c i up j hh
    unfold inB at hh
    cases j with
    | zero => unfold rwT; rw [if_neg hh]
    | succ j => unfold rwT; rw [if_neg hh]
  cases i with
  | zero => exact key _ _ _ _ h
  | succ i => exact key _ _ _ _ h
/-- what a place of the table is -/
theorem tT_in {b : Int} {C : Nat → Nat → Int} {i j : Nat} (h : inB b i j) : tT b C i j = (match i, j with
    | 0, 0 => 0
    | 0, j + 1 => m2 2000000000 (m2 2000000000 (tT b C 0 j))
    | i + 1, 0 => tT b C i 0
    | i + 1, j + 1 => m2 (tT b C i j) (m2 (tT b C i (j + 1)) (tT b C (i + 1) j))) + C i j := by
  unfold inB at h
  match i, j, h with
  | 0, 0, h => show rwT b (C 0) 0 (fun _ => 2000000000) 0 = _; unfold rwT; rw [if_pos h, if_pos rfl]
  | 0, j + 1, h => show rwT b (C 0) 0 (fun _ => 2000000000) (j + 1) = _; unfold rwT; rw [if_pos h]; rfl
  | i + 1, 0, h => show rwT b (C (i + 1)) (i + 1) (tT b C i) 0 = _; unfold rwT; rw [if_pos h, if_neg (by omega)]
  | i + 1, j + 1, h => show rwT b (C (i + 1)) (i + 1) (tT b C i) (j + 1) = _; unfold rwT; rw [if_pos h]; rfl
theorem tT_b {b : Int} {C : Nat → Nat → Int} {n : Nat} (hb : 0 ≤ b) (hC : cok n C) (hn : n ≤ 16) : ∀ i, i < n → ∀ j, j < n → inB b i j → C 0 0 ≤ tT b C i j ∧ 0 ≤ tT b C i j ∧ tT b C i j ≤ ((i : Int) + j + 1) * 15968016 := by
  intro i
  induction i with
  | zero =>
    intro hi j
    induction j with
    | zero =>
      intro hj h
      have c0 := hC 0 0 hi hj
      rw [tT_in h]
      show C 0 0 ≤ 0 + C 0 0 ∧ 0 ≤ 0 + C 0 0 ∧ 0 + C 0 0 ≤ _
      omega
    | succ j ih =>
      intro hj h
      have c1 := hC 0 (j + 1) hi hj
      have g := ih (by omega) (by unfold inB at *; omega)
      rw [tT_in h]
      show C 0 0 ≤ m2 2000000000 (m2 2000000000 (tT b C 0 j)) + C 0 (j + 1) ∧ 0 ≤ m2 2000000000 (m2 2000000000 (tT b C 0 j)) + C 0 (j + 1) ∧ m2 2000000000 (m2 2000000000 (tT b C 0 j)) + C 0 (j + 1) ≤ _
      have e : m2 2000000000 (m2 2000000000 (tT b C 0 j)) = tT b C 0 j := by
        unfold m2; split <;> (try split) <;> omega
      rw [e]; omega
  | succ i ih =>
    intro hi j
    induction j with
    | zero =>
      intro hj h
      have c1 := hC (i + 1) 0 hi hj
      have g := ih (by omega) 0 hj (by unfold inB at *; omega)
      rw [tT_in h]
      show C 0 0 ≤ tT b C i 0 + C (i + 1) 0 ∧ 0 ≤ tT b C i 0 + C (i + 1) 0 ∧ tT b C i 0 + C (i + 1) 0 ≤ _
      omega
    | succ j ihj =>
      intro hj h
      have c1 := hC (i + 1) (j + 1) hi hj
      have g := ih (by omega) j (by omega) (by unfold inB at *; omega)
      have g0 : C 0 0 ≤ tT b C i (j + 1) ∧ 0 ≤ tT b C i (j + 1) := by
        by_cases c : inB b i (j + 1)
        · have := ih (by omega) (j + 1) hj c; omega
        · rw [tT_out c]; have := hC 0 0 (by omega) (by omega); omega
      have g1 : C 0 0 ≤ tT b C (i + 1) j ∧ 0 ≤ tT b C (i + 1) j := by
        by_cases c : inB b (i + 1) j
        · have := ihj (by omega) c; omega
        · rw [tT_out c]; have := hC 0 0 (by omega) (by omega); omega
      rw [tT_in h]
      show C 0 0 ≤ m2 (tT b C i j) (m2 (tT b C i (j + 1)) (tT b C (i + 1) j)) + C (i + 1) (j + 1) ∧ 0 ≤ m2 (tT b C i j) (m2 (tT b C i (j + 1)) (tT b C (i + 1) j)) + C (i + 1) (j + 1) ∧ m2 (tT b C i j) (m2 (tT b C i (j + 1)) (tT b C (i + 1) j)) + C (i + 1) (j + 1) ≤ _
      have u1 := m2_l (a := tT b C i j) (b := m2 (tT b C i (j + 1)) (tT b C (i + 1) j))
      have u2 := m2_g (v := C 0 0) g.1 (m2_g g0.1 g1.1)
      have u3 := m2_g (v := 0) g.2.1 (m2_g g0.2 g1.2)
      omega
/-- every place: at least the first cost, at most far -/
theorem tT_a {b : Int} {C : Nat → Nat → Int} {n : Nat} (hb : 0 ≤ b) (hC : cok n C) (hn : n ≤ 16) {i j : Nat} (hi : i < n) (hj : j < n) : C 0 0 ≤ tT b C i j ∧ 0 ≤ tT b C i j ∧ tT b C i j ≤ 2000000000 := by
  by_cases c : inB b i j
  · have := tT_b hb hC hn i hi j hj c
    omega
  · rw [tT_out c]
    have := hC 0 0 (by omega) (by omega)
    omega
/-- a row of the table is nowhere below the least of the row above -/
theorem tT_up {b v : Int} {C : Nat → Nat → Int} {n : Nat} (hb : 0 ≤ b) (hC : cok n C) (hv : v ≤ 2000000000) {i : Nat} (hi : i + 1 < n) (h : ∀ j, j < n → v ≤ tT b C i j) : ∀ j, j < n → v ≤ tT b C (i + 1) j := by
  intro j
  induction j with
  | zero =>
    intro hj
    by_cases c : inB b (i + 1) 0
    · rw [tT_in c]
      show v ≤ tT b C i 0 + C (i + 1) 0
      have := hC (i + 1) 0 hi hj
      have := h 0 hj
      omega
    · rw [tT_out c]; exact hv
  | succ j ih =>
    intro hj
    by_cases c : inB b (i + 1) (j + 1)
    · rw [tT_in c]
      show v ≤ m2 (tT b C i j) (m2 (tT b C i (j + 1)) (tT b C (i + 1) j)) + C (i + 1) (j + 1)
      have := hC (i + 1) (j + 1) hi hj
      have := m2_g (v := v) (h j (by omega)) (m2_g (h (j + 1) hj) (ih (by omega)))
      omega
    · rw [tT_out c]; exact hv
theorem tT_dn {b v : Int} {C : Nat → Nat → Int} {n : Nat} (hb : 0 ≤ b) (hC : cok n C) (hv : v ≤ 2000000000) {i : Nat} (h : ∀ j, j < n → v ≤ tT b C i j) : ∀ k, i + k < n → ∀ j, j < n → v ≤ tT b C (i + k) j := by
  intro k
  induction k with
  | zero => intro _ j hj; exact h j hj
  | succ k ih => intro hk; exact tT_up hb hC hv (i := i + k) hk (ih (by omega))
/-- the least of a row -/
def rmT (b : Int) (C : Nat → Nat → Int) (i : Nat) : Nat → Int
  | 0 => 2000000000
  | j + 1 => m2 (rmT b C i j) (tT b C i j)
theorem rmT_le {b : Int} {C : Nat → Nat → Int} {i : Nat} : ∀ n j, j < n → rmT b C i n ≤ tT b C i j := by
  intro n
  induction n with
  | zero => intro j h; omega
  | succ n ih =>
    intro j hj
    show m2 (rmT b C i n) (tT b C i n) ≤ tT b C i j
    by_cases e : j = n
    · rw [e]; exact m2_r
    · have := ih j (by omega)
      have := m2_l (a := rmT b C i n) (b := tT b C i n)
      omega
theorem rmT_far {b : Int} {C : Nat → Nat → Int} {i : Nat} : ∀ n, rmT b C i n ≤ 2000000000 := by
  intro n
  induction n with
  | zero => exact Int.le_refl _
  | succ n ih =>
    have := m2_l (a := rmT b C i n) (b := tT b C i n)
    show m2 (rmT b C i n) (tT b C i n) ≤ _
    omega
theorem rmT_lt {b : Int} {C : Nat → Nat → Int} {n : Nat} (hb : 0 ≤ b) (hC : cok n C) (hn : n ≤ 16) {i : Nat} (hi : i < n) : rmT b C i n ≤ 500000000 := by
  have a := rmT_le (b := b) (C := C) (i := i) n i hi
  have c := tT_b hb hC hn i hi i hi (by unfold inB; omega)
  omega
theorem rmT_out {b : Int} {C : Nat → Nat → Int} {i : Nat} : ∀ n, (∀ j, j < n → ¬ inB b i j) → rmT b C i n = 2000000000 := by
  intro n
  induction n with
  | zero => intro _; rfl
  | succ n ih =>
    intro h
    show m2 (rmT b C i n) (tT b C i n) = _
    rw [ih (fun j hj => h j (by omega)), tT_out (h n (by omega))]; rfl
theorem rmT_tail {b : Int} {C : Nat → Nat → Int} {i k : Nat} : ∀ m, (∀ j, k ≤ j → j < k + m → ¬ inB b i j) → rmT b C i (k + m) = rmT b C i k := by
  intro m
  induction m with
  | zero => intro _; rfl
  | succ m ih =>
    intro h
    show m2 (rmT b C i (k + m)) (tT b C i (k + m)) = _
    rw [ih (fun j h1 h2 => h j h1 (by omega)), tT_out (h (k + m) (by omega) (by omega))]
    have := rmT_far (b := b) (C := C) (i := i) k
    unfold m2
    rw [if_pos this]
/-- the DISTANCE -/
def dT (b : Int) (C : Nat → Nat → Int) (n : Nat) : Int := tT b C (n - 1) (n - 1)
theorem dT_b {b : Int} {C : Nat → Nat → Int} {n : Nat} (hb : 0 ≤ b) (hC : cok n C) (hn1 : 1 ≤ n) (hn : n ≤ 16) : 0 ≤ dT b C n ∧ dT b C n ≤ 500000000 := by
  have c := tT_b hb hC hn (n - 1) (by omega) (n - 1) (by omega) (by unfold inB; omega)
  unfold dT
  omega
/-- a row that has nothing below the limit: neither has the DISTANCE -/
theorem dT_row {b v : Int} {C : Nat → Nat → Int} {n : Nat} (hb : 0 ≤ b) (hC : cok n C) {i : Nat} (hi : i < n) (h : v ≤ rmT b C i n) : v ≤ dT b C n := by
  have f := rmT_far (b := b) (C := C) (i := i) n
  have g := tT_dn hb hC (v := v) (by omega) (i := i) (fun j hj => by have := rmT_le (b := b) (C := C) (i := i) n j hj; omega) (n - 1 - i) (by omega) (n - 1) (by omega)
  rw [show i + (n - 1 - i) = n - 1 by omega] at g
  exact g
/-- the ends' BOUND -/
theorem dT_ends {b : Int} {C : Nat → Nat → Int} {n : Nat} (hb : 0 ≤ b) (hC : cok n C) (hn2 : 2 ≤ n) (hn : n ≤ 16) : C 0 0 + C (n - 1) (n - 1) ≤ dT b C n := by
  obtain ⟨m, hm⟩ : ∃ m, n = m + 2 := ⟨n - 2, by omega⟩
  subst hm
  unfold dT
  have e : m + 2 - 1 = m + 1 := by omega
  rw [e, tT_in (by unfold inB; omega)]
  show C 0 0 + C (m + 1) (m + 1) ≤ m2 (tT b C m m) (m2 (tT b C m (m + 1)) (tT b C (m + 1) m)) + C (m + 1) (m + 1)
  have a1 := tT_a hb hC hn (i := m) (j := m) (by omega) (by omega)
  have a2 := tT_a hb hC hn (i := m) (j := m + 1) (by omega) (by omega)
  have a3 := tT_a hb hC hn (i := m + 1) (j := m) (by omega) (by omega)
  have := m2_g (v := C 0 0) a1.1 (m2_g a2.1 a3.1)
  omega
/-- where a row's band begins and ends; how many places it has -/
def frT (b : Int) (i : Nat) : Int := if 0 < (i : Int) - b then (i : Int) - b else 0
def toT (b : Int) (n i : Nat) : Int := if (i : Int) + b < (n : Int) - 1 then (i : Int) + b else (n : Int) - 1
def cnT (b : Int) (n i : Nat) : Int := toT b n i - frT b i + 1
def csum (b : Int) (n : Nat) : Nat → Int
  | 0 => 0
  | i + 1 => csum b n i + cnT b n i
theorem cnT_b {b : Int} {n i : Nat} (hb : 0 ≤ b) (hi : i < n) : 1 ≤ cnT b n i ∧ cnT b n i ≤ n ∧ 0 ≤ frT b i ∧ frT b i ≤ i ∧ (i : Int) ≤ toT b n i ∧ toT b n i < n := by
  unfold cnT toT frT
  split <;> (try split) <;> omega
theorem csum_b {b : Int} {n : Nat} (hb : 0 ≤ b) (hn : n ≤ 16) : ∀ i, i ≤ n → 0 ≤ csum b n i ∧ csum b n i ≤ 16 * (i : Int) := by
  intro i
  induction i with
  | zero => intro _; exact ⟨Int.le_refl 0, Int.le_refl 0⟩
  | succ i ih =>
    intro h
    have := ih (by omega)
    have := cnT_b (b := b) (n := n) (i := i) hb (by omega)
    show 0 ≤ csum b n i + cnT b n i ∧ csum b n i + cnT b n i ≤ 16 * ((i + 1 : Nat) : Int)
    omega
theorem inB_ft {b : Int} {n i j : Nat} (hj : j < n) : inB b i j ↔ frT b i ≤ j ∧ (j : Int) ≤ toT b n i := by
  unfold inB frT toT
  constructor
  · intro h; split <;> (try split) <;> omega
  · intro h
    constructor
    · have := h.1; split at this <;> omega
    · have := h.2; split at this <;> omega
